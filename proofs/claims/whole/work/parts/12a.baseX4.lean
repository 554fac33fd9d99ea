theorem dX4_clear_0 : decode cX4_clear 0 = .ok (.aload_n 0, 1) := by decide +kernel
theorem dX4_clear_1 : decode cX4_clear 1 = .ok (.iconst 0, 1) := by decide +kernel
theorem dX4_clear_2 : decode cX4_clear 2 = .ok (.putfield 42, 3) := by decide +kernel
theorem dX4_clear_5 : decode cX4_clear 5 = .ok (.iload_n 1, 1) := by decide +kernel
theorem dX4_clear_6 : decode cX4_clear 6 = .ok (.aload_n 0, 1) := by decide +kernel
theorem dX4_clear_7 : decode cX4_clear 7 = .ok (.getfield 11, 3) := by decide +kernel
theorem dX4_clear_10 : decode cX4_clear 10 = .ok (.arraylength, 1) := by decide +kernel
theorem dX4_clear_11 : decode cX4_clear 11 = .ok (.if_icmp .le 66, 3) := by decide +kernel
theorem dX4_clear_14 : decode cX4_clear 14 = .ok (.aload_n 0, 1) := by decide +kernel
theorem dX4_clear_15 : decode cX4_clear 15 = .ok (.iload_n 1, 1) := by decide +kernel
theorem dX4_clear_16 : decode cX4_clear 16 = .ok (.newarray .int, 2) := by decide +kernel
theorem dX4_clear_18 : decode cX4_clear 18 = .ok (.putfield 11, 3) := by decide +kernel
theorem dX4_clear_21 : decode cX4_clear 21 = .ok (.aload_n 0, 1) := by decide +kernel
theorem dX4_clear_22 : decode cX4_clear 22 = .ok (.iload_n 1, 1) := by decide +kernel
theorem dX4_clear_23 : decode cX4_clear 23 = .ok (.newarray .int, 2) := by decide +kernel
theorem dX4_clear_25 : decode cX4_clear 25 = .ok (.putfield 17, 3) := by decide +kernel
theorem dX4_clear_28 : decode cX4_clear 28 = .ok (.aload_n 0, 1) := by decide +kernel
theorem dX4_clear_29 : decode cX4_clear 29 = .ok (.iload_n 1, 1) := by decide +kernel
theorem dX4_clear_30 : decode cX4_clear 30 = .ok (.newarray .int, 2) := by decide +kernel
theorem dX4_clear_32 : decode cX4_clear 32 = .ok (.putfield 20, 3) := by decide +kernel
theorem dX4_clear_35 : decode cX4_clear 35 = .ok (.aload_n 0, 1) := by decide +kernel
theorem dX4_clear_36 : decode cX4_clear 36 = .ok (.iload_n 1, 1) := by decide +kernel
theorem dX4_clear_37 : decode cX4_clear 37 = .ok (.newarray .int, 2) := by decide +kernel
theorem dX4_clear_39 : decode cX4_clear 39 = .ok (.putfield 23, 3) := by decide +kernel
theorem dX4_clear_42 : decode cX4_clear 42 = .ok (.aload_n 0, 1) := by decide +kernel
theorem dX4_clear_43 : decode cX4_clear 43 = .ok (.iload_n 1, 1) := by decide +kernel
theorem dX4_clear_44 : decode cX4_clear 44 = .ok (.newarray .int, 2) := by decide +kernel
theorem dX4_clear_46 : decode cX4_clear 46 = .ok (.putfield 26, 3) := by decide +kernel
theorem dX4_clear_49 : decode cX4_clear 49 = .ok (.aload_n 0, 1) := by decide +kernel
theorem dX4_clear_50 : decode cX4_clear 50 = .ok (.iload_n 1, 1) := by decide +kernel
theorem dX4_clear_51 : decode cX4_clear 51 = .ok (.newarray .int, 2) := by decide +kernel
theorem dX4_clear_53 : decode cX4_clear 53 = .ok (.putfield 29, 3) := by decide +kernel
theorem dX4_clear_56 : decode cX4_clear 56 = .ok (.aload_n 0, 1) := by decide +kernel
theorem dX4_clear_57 : decode cX4_clear 57 = .ok (.iload_n 1, 1) := by decide +kernel
theorem dX4_clear_58 : decode cX4_clear 58 = .ok (.newarray .int, 2) := by decide +kernel
theorem dX4_clear_60 : decode cX4_clear 60 = .ok (.putfield 32, 3) := by decide +kernel
theorem dX4_clear_63 : decode cX4_clear 63 = .ok (.aload_n 0, 1) := by decide +kernel
theorem dX4_clear_64 : decode cX4_clear 64 = .ok (.iload_n 1, 1) := by decide +kernel
theorem dX4_clear_65 : decode cX4_clear 65 = .ok (.newarray .boolean, 2) := by decide +kernel
theorem dX4_clear_67 : decode cX4_clear 67 = .ok (.putfield 35, 3) := by decide +kernel
theorem dX4_clear_70 : decode cX4_clear 70 = .ok (.aload_n 0, 1) := by decide +kernel
theorem dX4_clear_71 : decode cX4_clear 71 = .ok (.iload_n 1, 1) := by decide +kernel
theorem dX4_clear_72 : decode cX4_clear 72 = .ok (.newarray .boolean, 2) := by decide +kernel
theorem dX4_clear_74 : decode cX4_clear 74 = .ok (.putfield 39, 3) := by decide +kernel
theorem dX4_clear_77 : decode cX4_clear 77 = .ok (.return_, 1) := by decide +kernel
theorem dX4_size_0 : decode cX4_size 0 = .ok (.aload_n 0, 1) := by decide +kernel
theorem dX4_size_1 : decode cX4_size 1 = .ok (.getfield 42, 3) := by decide +kernel
theorem dX4_size_4 : decode cX4_size 4 = .ok (.ireturn, 1) := by decide +kernel
theorem dX4_add_0 : decode cX4_add 0 = .ok (.aload_n 0, 1) := by decide +kernel
theorem dX4_add_1 : decode cX4_add 1 = .ok (.getfield 42, 3) := by decide +kernel
theorem dX4_add_4 : decode cX4_add 4 = .ok (.aload_n 0, 1) := by decide +kernel
theorem dX4_add_5 : decode cX4_add 5 = .ok (.getfield 11, 3) := by decide +kernel
theorem dX4_add_8 : decode cX4_add 8 = .ok (.arraylength, 1) := by decide +kernel
theorem dX4_add_9 : decode cX4_add 9 = .ok (.if_icmp .lt 5, 3) := by decide +kernel
theorem dX4_add_12 : decode cX4_add 12 = .ok (.iconst (-1), 1) := by decide +kernel
theorem dX4_add_13 : decode cX4_add 13 = .ok (.ireturn, 1) := by decide +kernel
theorem dX4_add_14 : decode cX4_add 14 = .ok (.aload_n 0, 1) := by decide +kernel
theorem dX4_add_15 : decode cX4_add 15 = .ok (.getfield 42, 3) := by decide +kernel
theorem dX4_add_18 : decode cX4_add 18 = .ok (.istore 4, 2) := by decide +kernel
theorem dX4_add_20 : decode cX4_add 20 = .ok (.aload_n 0, 1) := by decide +kernel
theorem dX4_add_21 : decode cX4_add 21 = .ok (.getfield 11, 3) := by decide +kernel
theorem dX4_add_24 : decode cX4_add 24 = .ok (.iload 4, 2) := by decide +kernel
theorem dX4_add_26 : decode cX4_add 26 = .ok (.iload_n 1, 1) := by decide +kernel
theorem dX4_add_27 : decode cX4_add 27 = .ok (.iastore, 1) := by decide +kernel
theorem dX4_add_28 : decode cX4_add 28 = .ok (.aload_n 0, 1) := by decide +kernel
theorem dX4_add_29 : decode cX4_add 29 = .ok (.getfield 17, 3) := by decide +kernel
theorem dX4_add_32 : decode cX4_add 32 = .ok (.iload 4, 2) := by decide +kernel
theorem dX4_add_34 : decode cX4_add 34 = .ok (.iload_n 2, 1) := by decide +kernel
theorem dX4_add_35 : decode cX4_add 35 = .ok (.iastore, 1) := by decide +kernel
theorem dX4_add_36 : decode cX4_add 36 = .ok (.aload_n 0, 1) := by decide +kernel
theorem dX4_add_37 : decode cX4_add 37 = .ok (.getfield 20, 3) := by decide +kernel
theorem dX4_add_40 : decode cX4_add 40 = .ok (.iload 4, 2) := by decide +kernel
theorem dX4_add_42 : decode cX4_add 42 = .ok (.iload_n 3, 1) := by decide +kernel
theorem dX4_add_43 : decode cX4_add 43 = .ok (.iastore, 1) := by decide +kernel
theorem dX4_add_44 : decode cX4_add 44 = .ok (.aload_n 0, 1) := by decide +kernel
theorem dX4_add_45 : decode cX4_add 45 = .ok (.getfield 23, 3) := by decide +kernel
theorem dX4_add_48 : decode cX4_add 48 = .ok (.iload 4, 2) := by decide +kernel
theorem dX4_add_50 : decode cX4_add 50 = .ok (.iconst 1, 1) := by decide +kernel
theorem dX4_add_51 : decode cX4_add 51 = .ok (.iastore, 1) := by decide +kernel
theorem dX4_add_52 : decode cX4_add 52 = .ok (.aload_n 0, 1) := by decide +kernel
theorem dX4_add_53 : decode cX4_add 53 = .ok (.getfield 26, 3) := by decide +kernel
theorem dX4_add_56 : decode cX4_add 56 = .ok (.iload 4, 2) := by decide +kernel
theorem dX4_add_58 : decode cX4_add 58 = .ok (.iconst 1, 1) := by decide +kernel
theorem dX4_add_59 : decode cX4_add 59 = .ok (.iastore, 1) := by decide +kernel
theorem dX4_add_60 : decode cX4_add 60 = .ok (.aload_n 0, 1) := by decide +kernel
theorem dX4_add_61 : decode cX4_add 61 = .ok (.getfield 29, 3) := by decide +kernel
theorem dX4_add_64 : decode cX4_add 64 = .ok (.iload 4, 2) := by decide +kernel
theorem dX4_add_66 : decode cX4_add 66 = .ok (.iconst (-1), 1) := by decide +kernel
theorem dX4_add_67 : decode cX4_add 67 = .ok (.iastore, 1) := by decide +kernel
theorem dX4_add_68 : decode cX4_add 68 = .ok (.aload_n 0, 1) := by decide +kernel
theorem dX4_add_69 : decode cX4_add 69 = .ok (.getfield 32, 3) := by decide +kernel
theorem dX4_add_72 : decode cX4_add 72 = .ok (.iload 4, 2) := by decide +kernel
theorem dX4_add_74 : decode cX4_add 74 = .ok (.iconst (-1), 1) := by decide +kernel
theorem dX4_add_75 : decode cX4_add 75 = .ok (.iastore, 1) := by decide +kernel
theorem dX4_add_76 : decode cX4_add 76 = .ok (.aload_n 0, 1) := by decide +kernel
theorem dX4_add_77 : decode cX4_add 77 = .ok (.getfield 35, 3) := by decide +kernel
theorem dX4_add_80 : decode cX4_add 80 = .ok (.iload 4, 2) := by decide +kernel
theorem dX4_add_82 : decode cX4_add 82 = .ok (.iconst 0, 1) := by decide +kernel
theorem dX4_add_83 : decode cX4_add 83 = .ok (.bastore, 1) := by decide +kernel
theorem dX4_add_84 : decode cX4_add 84 = .ok (.aload_n 0, 1) := by decide +kernel
theorem dX4_add_85 : decode cX4_add 85 = .ok (.getfield 39, 3) := by decide +kernel
theorem dX4_add_88 : decode cX4_add 88 = .ok (.iload 4, 2) := by decide +kernel
theorem dX4_add_90 : decode cX4_add 90 = .ok (.iconst 0, 1) := by decide +kernel
theorem dX4_add_91 : decode cX4_add 91 = .ok (.bastore, 1) := by decide +kernel
theorem dX4_add_92 : decode cX4_add 92 = .ok (.aload_n 0, 1) := by decide +kernel
theorem dX4_add_93 : decode cX4_add 93 = .ok (.dup, 1) := by decide +kernel
theorem dX4_add_94 : decode cX4_add 94 = .ok (.getfield 42, 3) := by decide +kernel
theorem dX4_add_97 : decode cX4_add 97 = .ok (.iconst 1, 1) := by decide +kernel
theorem dX4_add_98 : decode cX4_add 98 = .ok (.iadd, 1) := by decide +kernel
theorem dX4_add_99 : decode cX4_add 99 = .ok (.putfield 42, 3) := by decide +kernel
theorem dX4_add_102 : decode cX4_add 102 = .ok (.iload 4, 2) := by decide +kernel
theorem dX4_add_104 : decode cX4_add 104 = .ok (.ireturn, 1) := by decide +kernel
theorem dX4_addAround_0 : decode cX4_addAround 0 = .ok (.aload_n 0, 1) := by decide +kernel
theorem dX4_addAround_1 : decode cX4_addAround 1 = .ok (.iload_n 1, 1) := by decide +kernel
theorem dX4_addAround_2 : decode cX4_addAround 2 = .ok (.iload_n 2, 1) := by decide +kernel
theorem dX4_addAround_3 : decode cX4_addAround 3 = .ok (.iload_n 3, 1) := by decide +kernel
theorem dX4_addAround_4 : decode cX4_addAround 4 = .ok (.invokevirtual 46, 3) := by decide +kernel
theorem dX4_addAround_7 : decode cX4_addAround 7 = .ok (.istore 4, 2) := by decide +kernel
theorem dX4_addAround_9 : decode cX4_addAround 9 = .ok (.aload_n 0, 1) := by decide +kernel
theorem dX4_addAround_10 : decode cX4_addAround 10 = .ok (.iload 4, 2) := by decide +kernel
theorem dX4_addAround_12 : decode cX4_addAround 12 = .ok (.invokevirtual 50, 3) := by decide +kernel
theorem dX4_addAround_15 : decode cX4_addAround 15 = .ok (.ifCond .eq 88, 3) := by decide +kernel
theorem dX4_addAround_18 : decode cX4_addAround 18 = .ok (.aload_n 0, 1) := by decide +kernel
theorem dX4_addAround_19 : decode cX4_addAround 19 = .ok (.iload 4, 2) := by decide +kernel
theorem dX4_addAround_21 : decode cX4_addAround 21 = .ok (.iconst 1, 1) := by decide +kernel
theorem dX4_addAround_22 : decode cX4_addAround 22 = .ok (.isub, 1) := by decide +kernel
theorem dX4_addAround_23 : decode cX4_addAround 23 = .ok (.invokevirtual 50, 3) := by decide +kernel
theorem dX4_addAround_26 : decode cX4_addAround 26 = .ok (.ifCond .eq 77, 3) := by decide +kernel
theorem dX4_addAround_29 : decode cX4_addAround 29 = .ok (.aload_n 0, 1) := by decide +kernel
theorem dX4_addAround_30 : decode cX4_addAround 30 = .ok (.getfield 23, 3) := by decide +kernel
theorem dX4_addAround_33 : decode cX4_addAround 33 = .ok (.iload 4, 2) := by decide +kernel
theorem dX4_addAround_35 : decode cX4_addAround 35 = .ok (.aload_n 0, 1) := by decide +kernel
theorem dX4_addAround_36 : decode cX4_addAround 36 = .ok (.getfield 23, 3) := by decide +kernel
theorem dX4_addAround_39 : decode cX4_addAround 39 = .ok (.iload 4, 2) := by decide +kernel
theorem dX4_addAround_41 : decode cX4_addAround 41 = .ok (.iconst 1, 1) := by decide +kernel
theorem dX4_addAround_42 : decode cX4_addAround 42 = .ok (.isub, 1) := by decide +kernel
theorem dX4_addAround_43 : decode cX4_addAround 43 = .ok (.iaload, 1) := by decide +kernel
theorem dX4_addAround_44 : decode cX4_addAround 44 = .ok (.iload_n 1, 1) := by decide +kernel
theorem dX4_addAround_45 : decode cX4_addAround 45 = .ok (.bipush 28, 2) := by decide +kernel
theorem dX4_addAround_47 : decode cX4_addAround 47 = .ok (.if_icmp .ne 7, 3) := by decide +kernel
theorem dX4_addAround_50 : decode cX4_addAround 50 = .ok (.iconst 2, 1) := by decide +kernel
theorem dX4_addAround_51 : decode cX4_addAround 51 = .ok (.goto 4, 3) := by decide +kernel
theorem dX4_addAround_54 : decode cX4_addAround 54 = .ok (.iconst 1, 1) := by decide +kernel
theorem dX4_addAround_55 : decode cX4_addAround 55 = .ok (.iadd, 1) := by decide +kernel
theorem dX4_addAround_56 : decode cX4_addAround 56 = .ok (.iastore, 1) := by decide +kernel
theorem dX4_addAround_57 : decode cX4_addAround 57 = .ok (.aload_n 0, 1) := by decide +kernel
theorem dX4_addAround_58 : decode cX4_addAround 58 = .ok (.getfield 26, 3) := by decide +kernel
theorem dX4_addAround_61 : decode cX4_addAround 61 = .ok (.iload 4, 2) := by decide +kernel
theorem dX4_addAround_63 : decode cX4_addAround 63 = .ok (.aload_n 0, 1) := by decide +kernel
theorem dX4_addAround_64 : decode cX4_addAround 64 = .ok (.getfield 26, 3) := by decide +kernel
theorem dX4_addAround_67 : decode cX4_addAround 67 = .ok (.iload 4, 2) := by decide +kernel
theorem dX4_addAround_69 : decode cX4_addAround 69 = .ok (.iconst 1, 1) := by decide +kernel
theorem dX4_addAround_70 : decode cX4_addAround 70 = .ok (.isub, 1) := by decide +kernel
theorem dX4_addAround_71 : decode cX4_addAround 71 = .ok (.iaload, 1) := by decide +kernel
theorem dX4_addAround_72 : decode cX4_addAround 72 = .ok (.iastore, 1) := by decide +kernel
theorem dX4_addAround_73 : decode cX4_addAround 73 = .ok (.aload_n 0, 1) := by decide +kernel
theorem dX4_addAround_74 : decode cX4_addAround 74 = .ok (.getfield 39, 3) := by decide +kernel
theorem dX4_addAround_77 : decode cX4_addAround 77 = .ok (.iload 4, 2) := by decide +kernel
theorem dX4_addAround_79 : decode cX4_addAround 79 = .ok (.iload_n 1, 1) := by decide +kernel
theorem dX4_addAround_80 : decode cX4_addAround 80 = .ok (.bipush 28, 2) := by decide +kernel
theorem dX4_addAround_82 : decode cX4_addAround 82 = .ok (.if_icmp .eq 15, 3) := by decide +kernel
theorem dX4_addAround_85 : decode cX4_addAround 85 = .ok (.aload_n 0, 1) := by decide +kernel
theorem dX4_addAround_86 : decode cX4_addAround 86 = .ok (.getfield 39, 3) := by decide +kernel
theorem dX4_addAround_89 : decode cX4_addAround 89 = .ok (.iload 4, 2) := by decide +kernel
theorem dX4_addAround_91 : decode cX4_addAround 91 = .ok (.iconst 1, 1) := by decide +kernel
theorem dX4_addAround_92 : decode cX4_addAround 92 = .ok (.isub, 1) := by decide +kernel
theorem dX4_addAround_93 : decode cX4_addAround 93 = .ok (.baload, 1) := by decide +kernel
theorem dX4_addAround_94 : decode cX4_addAround 94 = .ok (.ifCond .eq 7, 3) := by decide +kernel
theorem dX4_addAround_97 : decode cX4_addAround 97 = .ok (.iconst 1, 1) := by decide +kernel
theorem dX4_addAround_98 : decode cX4_addAround 98 = .ok (.goto 4, 3) := by decide +kernel
theorem dX4_addAround_101 : decode cX4_addAround 101 = .ok (.iconst 0, 1) := by decide +kernel
theorem dX4_addAround_102 : decode cX4_addAround 102 = .ok (.bastore, 1) := by decide +kernel
theorem dX4_addAround_103 : decode cX4_addAround 103 = .ok (.return_, 1) := by decide +kernel
theorem dX4_addPair_0 : decode cX4_addPair 0 = .ok (.aload_n 0, 1) := by decide +kernel
theorem dX4_addPair_1 : decode cX4_addPair 1 = .ok (.iload_n 1, 1) := by decide +kernel
theorem dX4_addPair_2 : decode cX4_addPair 2 = .ok (.iload_n 2, 1) := by decide +kernel
theorem dX4_addPair_3 : decode cX4_addPair 3 = .ok (.iconst (-1), 1) := by decide +kernel
theorem dX4_addPair_4 : decode cX4_addPair 4 = .ok (.invokevirtual 46, 3) := by decide +kernel
theorem dX4_addPair_7 : decode cX4_addPair 7 = .ok (.istore_n 3, 1) := by decide +kernel
theorem dX4_addPair_8 : decode cX4_addPair 8 = .ok (.aload_n 0, 1) := by decide +kernel
theorem dX4_addPair_9 : decode cX4_addPair 9 = .ok (.iload_n 3, 1) := by decide +kernel
theorem dX4_addPair_10 : decode cX4_addPair 10 = .ok (.invokevirtual 54, 3) := by decide +kernel
theorem dX4_addPair_13 : decode cX4_addPair 13 = .ok (.istore 4, 2) := by decide +kernel
theorem dX4_addPair_15 : decode cX4_addPair 15 = .ok (.aload_n 0, 1) := by decide +kernel
theorem dX4_addPair_16 : decode cX4_addPair 16 = .ok (.iload_n 3, 1) := by decide +kernel
theorem dX4_addPair_17 : decode cX4_addPair 17 = .ok (.invokevirtual 50, 3) := by decide +kernel
theorem dX4_addPair_20 : decode cX4_addPair 20 = .ok (.ifCond .eq 132, 3) := by decide +kernel
theorem dX4_addPair_23 : decode cX4_addPair 23 = .ok (.aload_n 0, 1) := by decide +kernel
theorem dX4_addPair_24 : decode cX4_addPair 24 = .ok (.iload_n 3, 1) := by decide +kernel
theorem dX4_addPair_25 : decode cX4_addPair 25 = .ok (.iconst 1, 1) := by decide +kernel
theorem dX4_addPair_26 : decode cX4_addPair 26 = .ok (.isub, 1) := by decide +kernel
theorem dX4_addPair_27 : decode cX4_addPair 27 = .ok (.invokevirtual 50, 3) := by decide +kernel
theorem dX4_addPair_30 : decode cX4_addPair 30 = .ok (.ifCond .eq 122, 3) := by decide +kernel
theorem dX4_addPair_33 : decode cX4_addPair 33 = .ok (.aload_n 0, 1) := by decide +kernel
theorem dX4_addPair_34 : decode cX4_addPair 34 = .ok (.iload 4, 2) := by decide +kernel
theorem dX4_addPair_36 : decode cX4_addPair 36 = .ok (.invokevirtual 50, 3) := by decide +kernel
theorem dX4_addPair_39 : decode cX4_addPair 39 = .ok (.ifCond .eq 113, 3) := by decide +kernel
theorem dX4_addPair_42 : decode cX4_addPair 42 = .ok (.aload_n 0, 1) := by decide +kernel
theorem dX4_addPair_43 : decode cX4_addPair 43 = .ok (.getfield 23, 3) := by decide +kernel
theorem dX4_addPair_46 : decode cX4_addPair 46 = .ok (.iload_n 3, 1) := by decide +kernel
theorem dX4_addPair_47 : decode cX4_addPair 47 = .ok (.aload_n 0, 1) := by decide +kernel
theorem dX4_addPair_48 : decode cX4_addPair 48 = .ok (.getfield 23, 3) := by decide +kernel
theorem dX4_addPair_51 : decode cX4_addPair 51 = .ok (.iload_n 3, 1) := by decide +kernel
theorem dX4_addPair_52 : decode cX4_addPair 52 = .ok (.iconst 1, 1) := by decide +kernel
theorem dX4_addPair_53 : decode cX4_addPair 53 = .ok (.isub, 1) := by decide +kernel
theorem dX4_addPair_54 : decode cX4_addPair 54 = .ok (.iaload, 1) := by decide +kernel
theorem dX4_addPair_55 : decode cX4_addPair 55 = .ok (.aload_n 0, 1) := by decide +kernel
theorem dX4_addPair_56 : decode cX4_addPair 56 = .ok (.getfield 23, 3) := by decide +kernel
theorem dX4_addPair_59 : decode cX4_addPair 59 = .ok (.iload 4, 2) := by decide +kernel
theorem dX4_addPair_61 : decode cX4_addPair 61 = .ok (.iaload, 1) := by decide +kernel
theorem dX4_addPair_62 : decode cX4_addPair 62 = .ok (.iadd, 1) := by decide +kernel
theorem dX4_addPair_63 : decode cX4_addPair 63 = .ok (.iconst 1, 1) := by decide +kernel
theorem dX4_addPair_64 : decode cX4_addPair 64 = .ok (.iadd, 1) := by decide +kernel
theorem dX4_addPair_65 : decode cX4_addPair 65 = .ok (.iastore, 1) := by decide +kernel
theorem dX4_addPair_66 : decode cX4_addPair 66 = .ok (.aload_n 0, 1) := by decide +kernel
theorem dX4_addPair_67 : decode cX4_addPair 67 = .ok (.getfield 26, 3) := by decide +kernel
theorem dX4_addPair_70 : decode cX4_addPair 70 = .ok (.iload_n 3, 1) := by decide +kernel
theorem dX4_addPair_71 : decode cX4_addPair 71 = .ok (.aload_n 0, 1) := by decide +kernel
theorem dX4_addPair_72 : decode cX4_addPair 72 = .ok (.getfield 26, 3) := by decide +kernel
theorem dX4_addPair_75 : decode cX4_addPair 75 = .ok (.iload 4, 2) := by decide +kernel
theorem dX4_addPair_77 : decode cX4_addPair 77 = .ok (.iaload, 1) := by decide +kernel
theorem dX4_addPair_78 : decode cX4_addPair 78 = .ok (.aload_n 0, 1) := by decide +kernel
theorem dX4_addPair_79 : decode cX4_addPair 79 = .ok (.getfield 26, 3) := by decide +kernel
theorem dX4_addPair_82 : decode cX4_addPair 82 = .ok (.iload_n 3, 1) := by decide +kernel
theorem dX4_addPair_83 : decode cX4_addPair 83 = .ok (.iconst 1, 1) := by decide +kernel
theorem dX4_addPair_84 : decode cX4_addPair 84 = .ok (.isub, 1) := by decide +kernel
theorem dX4_addPair_85 : decode cX4_addPair 85 = .ok (.iaload, 1) := by decide +kernel
theorem dX4_addPair_86 : decode cX4_addPair 86 = .ok (.if_icmp .ne 15, 3) := by decide +kernel
theorem dX4_addPair_89 : decode cX4_addPair 89 = .ok (.aload_n 0, 1) := by decide +kernel
theorem dX4_addPair_90 : decode cX4_addPair 90 = .ok (.getfield 26, 3) := by decide +kernel
theorem dX4_addPair_93 : decode cX4_addPair 93 = .ok (.iload 4, 2) := by decide +kernel
theorem dX4_addPair_95 : decode cX4_addPair 95 = .ok (.iaload, 1) := by decide +kernel
theorem dX4_addPair_96 : decode cX4_addPair 96 = .ok (.iconst 1, 1) := by decide +kernel
theorem dX4_addPair_97 : decode cX4_addPair 97 = .ok (.iadd, 1) := by decide +kernel
theorem dX4_addPair_98 : decode cX4_addPair 98 = .ok (.goto 21, 3) := by decide +kernel
theorem dX4_addPair_101 : decode cX4_addPair 101 = .ok (.aload_n 0, 1) := by decide +kernel
theorem dX4_addPair_102 : decode cX4_addPair 102 = .ok (.getfield 26, 3) := by decide +kernel
theorem dX4_addPair_105 : decode cX4_addPair 105 = .ok (.iload 4, 2) := by decide +kernel
theorem dX4_addPair_107 : decode cX4_addPair 107 = .ok (.iaload, 1) := by decide +kernel
theorem dX4_addPair_108 : decode cX4_addPair 108 = .ok (.aload_n 0, 1) := by decide +kernel
theorem dX4_addPair_109 : decode cX4_addPair 109 = .ok (.getfield 26, 3) := by decide +kernel
theorem dX4_addPair_112 : decode cX4_addPair 112 = .ok (.iload_n 3, 1) := by decide +kernel
theorem dX4_addPair_113 : decode cX4_addPair 113 = .ok (.iconst 1, 1) := by decide +kernel
theorem dX4_addPair_114 : decode cX4_addPair 114 = .ok (.isub, 1) := by decide +kernel
theorem dX4_addPair_115 : decode cX4_addPair 115 = .ok (.iaload, 1) := by decide +kernel
theorem dX4_addPair_116 : decode cX4_addPair 116 = .ok (.invokestatic 58, 3) := by decide +kernel
theorem dX4_addPair_119 : decode cX4_addPair 119 = .ok (.iastore, 1) := by decide +kernel
theorem dX4_addPair_120 : decode cX4_addPair 120 = .ok (.aload_n 0, 1) := by decide +kernel
theorem dX4_addPair_121 : decode cX4_addPair 121 = .ok (.getfield 39, 3) := by decide +kernel
theorem dX4_addPair_124 : decode cX4_addPair 124 = .ok (.iload_n 3, 1) := by decide +kernel
theorem dX4_addPair_125 : decode cX4_addPair 125 = .ok (.aload_n 0, 1) := by decide +kernel
theorem dX4_addPair_126 : decode cX4_addPair 126 = .ok (.getfield 39, 3) := by decide +kernel
theorem dX4_addPair_129 : decode cX4_addPair 129 = .ok (.iload 4, 2) := by decide +kernel
theorem dX4_addPair_131 : decode cX4_addPair 131 = .ok (.baload, 1) := by decide +kernel
theorem dX4_addPair_132 : decode cX4_addPair 132 = .ok (.ifCond .ne 14, 3) := by decide +kernel
theorem dX4_addPair_135 : decode cX4_addPair 135 = .ok (.aload_n 0, 1) := by decide +kernel
theorem dX4_addPair_136 : decode cX4_addPair 136 = .ok (.getfield 39, 3) := by decide +kernel
theorem dX4_addPair_139 : decode cX4_addPair 139 = .ok (.iload_n 3, 1) := by decide +kernel
theorem dX4_addPair_140 : decode cX4_addPair 140 = .ok (.iconst 1, 1) := by decide +kernel
theorem dX4_addPair_141 : decode cX4_addPair 141 = .ok (.isub, 1) := by decide +kernel
theorem dX4_addPair_142 : decode cX4_addPair 142 = .ok (.baload, 1) := by decide +kernel
theorem dX4_addPair_143 : decode cX4_addPair 143 = .ok (.ifCond .eq 7, 3) := by decide +kernel
theorem dX4_addPair_146 : decode cX4_addPair 146 = .ok (.iconst 1, 1) := by decide +kernel
theorem dX4_addPair_147 : decode cX4_addPair 147 = .ok (.goto 4, 3) := by decide +kernel
theorem dX4_addPair_150 : decode cX4_addPair 150 = .ok (.iconst 0, 1) := by decide +kernel
theorem dX4_addPair_151 : decode cX4_addPair 151 = .ok (.bastore, 1) := by decide +kernel
theorem dX4_addPair_152 : decode cX4_addPair 152 = .ok (.return_, 1) := by decide +kernel
theorem dX4_left_0 : decode cX4_left 0 = .ok (.aload_n 0, 1) := by decide +kernel
theorem dX4_left_1 : decode cX4_left 1 = .ok (.iload_n 1, 1) := by decide +kernel
theorem dX4_left_2 : decode cX4_left 2 = .ok (.iconst 1, 1) := by decide +kernel
theorem dX4_left_3 : decode cX4_left 3 = .ok (.isub, 1) := by decide +kernel
theorem dX4_left_4 : decode cX4_left 4 = .ok (.invokevirtual 50, 3) := by decide +kernel
theorem dX4_left_7 : decode cX4_left 7 = .ok (.ifCond .eq 18, 3) := by decide +kernel
theorem dX4_left_10 : decode cX4_left 10 = .ok (.iload_n 1, 1) := by decide +kernel
theorem dX4_left_11 : decode cX4_left 11 = .ok (.iconst 1, 1) := by decide +kernel
theorem dX4_left_12 : decode cX4_left 12 = .ok (.isub, 1) := by decide +kernel
theorem dX4_left_13 : decode cX4_left 13 = .ok (.aload_n 0, 1) := by decide +kernel
theorem dX4_left_14 : decode cX4_left 14 = .ok (.getfield 23, 3) := by decide +kernel
theorem dX4_left_17 : decode cX4_left 17 = .ok (.iload_n 1, 1) := by decide +kernel
theorem dX4_left_18 : decode cX4_left 18 = .ok (.iconst 1, 1) := by decide +kernel
theorem dX4_left_19 : decode cX4_left 19 = .ok (.isub, 1) := by decide +kernel
theorem dX4_left_20 : decode cX4_left 20 = .ok (.iaload, 1) := by decide +kernel
theorem dX4_left_21 : decode cX4_left 21 = .ok (.isub, 1) := by decide +kernel
theorem dX4_left_22 : decode cX4_left 22 = .ok (.goto 4, 3) := by decide +kernel
theorem dX4_left_25 : decode cX4_left 25 = .ok (.iconst (-1), 1) := by decide +kernel
theorem dX4_left_26 : decode cX4_left 26 = .ok (.ireturn, 1) := by decide +kernel
theorem dX4_has_0 : decode cX4_has 0 = .ok (.iload_n 1, 1) := by decide +kernel
theorem dX4_has_1 : decode cX4_has 1 = .ok (.ifCond .lt 24, 3) := by decide +kernel
theorem dX4_has_4 : decode cX4_has 4 = .ok (.iload_n 1, 1) := by decide +kernel
theorem dX4_has_5 : decode cX4_has 5 = .ok (.aload_n 0, 1) := by decide +kernel
theorem dX4_has_6 : decode cX4_has 6 = .ok (.getfield 42, 3) := by decide +kernel
theorem dX4_has_9 : decode cX4_has 9 = .ok (.if_icmp .ge 16, 3) := by decide +kernel
theorem dX4_has_12 : decode cX4_has 12 = .ok (.iload_n 1, 1) := by decide +kernel
theorem dX4_has_13 : decode cX4_has 13 = .ok (.aload_n 0, 1) := by decide +kernel
theorem dX4_has_14 : decode cX4_has 14 = .ok (.getfield 11, 3) := by decide +kernel
theorem dX4_has_17 : decode cX4_has 17 = .ok (.arraylength, 1) := by decide +kernel
theorem dX4_has_18 : decode cX4_has 18 = .ok (.if_icmp .ge 7, 3) := by decide +kernel
theorem dX4_has_21 : decode cX4_has 21 = .ok (.iconst 1, 1) := by decide +kernel
theorem dX4_has_22 : decode cX4_has 22 = .ok (.goto 4, 3) := by decide +kernel
theorem dX4_has_25 : decode cX4_has 25 = .ok (.iconst 0, 1) := by decide +kernel
theorem dX4_has_26 : decode cX4_has 26 = .ok (.ireturn, 1) := by decide +kernel
theorem dX4_kind_0 : decode cX4_kind 0 = .ok (.aload_n 0, 1) := by decide +kernel
theorem dX4_kind_1 : decode cX4_kind 1 = .ok (.iload_n 1, 1) := by decide +kernel
theorem dX4_kind_2 : decode cX4_kind 2 = .ok (.invokevirtual 50, 3) := by decide +kernel
theorem dX4_kind_5 : decode cX4_kind 5 = .ok (.ifCond .eq 12, 3) := by decide +kernel
theorem dX4_kind_8 : decode cX4_kind 8 = .ok (.aload_n 0, 1) := by decide +kernel
theorem dX4_kind_9 : decode cX4_kind 9 = .ok (.getfield 11, 3) := by decide +kernel
theorem dX4_kind_12 : decode cX4_kind 12 = .ok (.iload_n 1, 1) := by decide +kernel
theorem dX4_kind_13 : decode cX4_kind 13 = .ok (.iaload, 1) := by decide +kernel
theorem dX4_kind_14 : decode cX4_kind 14 = .ok (.goto 5, 3) := by decide +kernel
theorem dX4_kind_17 : decode cX4_kind 17 = .ok (.bipush 30, 2) := by decide +kernel
theorem dX4_kind_19 : decode cX4_kind 19 = .ok (.ireturn, 1) := by decide +kernel
theorem dX4_turnInto_0 : decode cX4_turnInto 0 = .ok (.aload_n 0, 1) := by decide +kernel
theorem dX4_turnInto_1 : decode cX4_turnInto 1 = .ok (.iload_n 1, 1) := by decide +kernel
theorem dX4_turnInto_2 : decode cX4_turnInto 2 = .ok (.invokevirtual 50, 3) := by decide +kernel
theorem dX4_turnInto_5 : decode cX4_turnInto 5 = .ok (.ifCond .eq 10, 3) := by decide +kernel
theorem dX4_turnInto_8 : decode cX4_turnInto 8 = .ok (.aload_n 0, 1) := by decide +kernel
theorem dX4_turnInto_9 : decode cX4_turnInto 9 = .ok (.getfield 11, 3) := by decide +kernel
theorem dX4_turnInto_12 : decode cX4_turnInto 12 = .ok (.iload_n 1, 1) := by decide +kernel
theorem dX4_turnInto_13 : decode cX4_turnInto 13 = .ok (.iload_n 2, 1) := by decide +kernel
theorem dX4_turnInto_14 : decode cX4_turnInto 14 = .ok (.iastore, 1) := by decide +kernel
theorem dX4_turnInto_15 : decode cX4_turnInto 15 = .ok (.return_, 1) := by decide +kernel
theorem dX4_place_0 : decode cX4_place 0 = .ok (.aload_n 0, 1) := by decide +kernel
theorem dX4_place_1 : decode cX4_place 1 = .ok (.iload_n 1, 1) := by decide +kernel
theorem dX4_place_2 : decode cX4_place 2 = .ok (.invokevirtual 50, 3) := by decide +kernel
theorem dX4_place_5 : decode cX4_place 5 = .ok (.ifCond .eq 12, 3) := by decide +kernel
theorem dX4_place_8 : decode cX4_place 8 = .ok (.aload_n 0, 1) := by decide +kernel
theorem dX4_place_9 : decode cX4_place 9 = .ok (.getfield 17, 3) := by decide +kernel
theorem dX4_place_12 : decode cX4_place 12 = .ok (.iload_n 1, 1) := by decide +kernel
theorem dX4_place_13 : decode cX4_place 13 = .ok (.iaload, 1) := by decide +kernel
theorem dX4_place_14 : decode cX4_place 14 = .ok (.goto 4, 3) := by decide +kernel
theorem dX4_place_17 : decode cX4_place 17 = .ok (.iconst (-1), 1) := by decide +kernel
theorem dX4_place_18 : decode cX4_place 18 = .ok (.ireturn, 1) := by decide +kernel
theorem dX4_value_0 : decode cX4_value 0 = .ok (.aload_n 0, 1) := by decide +kernel
theorem dX4_value_1 : decode cX4_value 1 = .ok (.iload_n 1, 1) := by decide +kernel
theorem dX4_value_2 : decode cX4_value 2 = .ok (.invokevirtual 50, 3) := by decide +kernel
theorem dX4_value_5 : decode cX4_value 5 = .ok (.ifCond .eq 12, 3) := by decide +kernel
theorem dX4_value_8 : decode cX4_value 8 = .ok (.aload_n 0, 1) := by decide +kernel
theorem dX4_value_9 : decode cX4_value 9 = .ok (.getfield 20, 3) := by decide +kernel
theorem dX4_value_12 : decode cX4_value 12 = .ok (.iload_n 1, 1) := by decide +kernel
theorem dX4_value_13 : decode cX4_value 13 = .ok (.iaload, 1) := by decide +kernel
theorem dX4_value_14 : decode cX4_value 14 = .ok (.goto 4, 3) := by decide +kernel
theorem dX4_value_17 : decode cX4_value 17 = .ok (.iconst (-1), 1) := by decide +kernel
theorem dX4_value_18 : decode cX4_value 18 = .ok (.ireturn, 1) := by decide +kernel
theorem dX4_keepValue_0 : decode cX4_keepValue 0 = .ok (.aload_n 0, 1) := by decide +kernel
theorem dX4_keepValue_1 : decode cX4_keepValue 1 = .ok (.iload_n 1, 1) := by decide +kernel
theorem dX4_keepValue_2 : decode cX4_keepValue 2 = .ok (.invokevirtual 50, 3) := by decide +kernel
theorem dX4_keepValue_5 : decode cX4_keepValue 5 = .ok (.ifCond .eq 10, 3) := by decide +kernel
theorem dX4_keepValue_8 : decode cX4_keepValue 8 = .ok (.aload_n 0, 1) := by decide +kernel
theorem dX4_keepValue_9 : decode cX4_keepValue 9 = .ok (.getfield 20, 3) := by decide +kernel
theorem dX4_keepValue_12 : decode cX4_keepValue 12 = .ok (.iload_n 1, 1) := by decide +kernel
theorem dX4_keepValue_13 : decode cX4_keepValue 13 = .ok (.iload_n 2, 1) := by decide +kernel
theorem dX4_keepValue_14 : decode cX4_keepValue 14 = .ok (.iastore, 1) := by decide +kernel
theorem dX4_keepValue_15 : decode cX4_keepValue 15 = .ok (.return_, 1) := by decide +kernel
theorem dX4_need_0 : decode cX4_need 0 = .ok (.aload_n 0, 1) := by decide +kernel
theorem dX4_need_1 : decode cX4_need 1 = .ok (.iload_n 1, 1) := by decide +kernel
theorem dX4_need_2 : decode cX4_need 2 = .ok (.invokevirtual 50, 3) := by decide +kernel
theorem dX4_need_5 : decode cX4_need 5 = .ok (.ifCond .eq 12, 3) := by decide +kernel
theorem dX4_need_8 : decode cX4_need 8 = .ok (.aload_n 0, 1) := by decide +kernel
theorem dX4_need_9 : decode cX4_need 9 = .ok (.getfield 26, 3) := by decide +kernel
theorem dX4_need_12 : decode cX4_need 12 = .ok (.iload_n 1, 1) := by decide +kernel
theorem dX4_need_13 : decode cX4_need 13 = .ok (.iaload, 1) := by decide +kernel
theorem dX4_need_14 : decode cX4_need 14 = .ok (.goto 4, 3) := by decide +kernel
theorem dX4_need_17 : decode cX4_need 17 = .ok (.iconst 0, 1) := by decide +kernel
theorem dX4_need_18 : decode cX4_need 18 = .ok (.ireturn, 1) := by decide +kernel
theorem dX4_calls_0 : decode cX4_calls 0 = .ok (.aload_n 0, 1) := by decide +kernel
theorem dX4_calls_1 : decode cX4_calls 1 = .ok (.iload_n 1, 1) := by decide +kernel
theorem dX4_calls_2 : decode cX4_calls 2 = .ok (.invokevirtual 50, 3) := by decide +kernel
theorem dX4_calls_5 : decode cX4_calls 5 = .ok (.ifCond .eq 16, 3) := by decide +kernel
theorem dX4_calls_8 : decode cX4_calls 8 = .ok (.aload_n 0, 1) := by decide +kernel
theorem dX4_calls_9 : decode cX4_calls 9 = .ok (.getfield 39, 3) := by decide +kernel
theorem dX4_calls_12 : decode cX4_calls 12 = .ok (.iload_n 1, 1) := by decide +kernel
theorem dX4_calls_13 : decode cX4_calls 13 = .ok (.baload, 1) := by decide +kernel
theorem dX4_calls_14 : decode cX4_calls 14 = .ok (.ifCond .eq 7, 3) := by decide +kernel
theorem dX4_calls_17 : decode cX4_calls 17 = .ok (.iconst 1, 1) := by decide +kernel
theorem dX4_calls_18 : decode cX4_calls 18 = .ok (.goto 4, 3) := by decide +kernel
theorem dX4_calls_21 : decode cX4_calls 21 = .ok (.iconst 0, 1) := by decide +kernel
theorem dX4_calls_22 : decode cX4_calls 22 = .ok (.ireturn, 1) := by decide +kernel
theorem dX4_secret_0 : decode cX4_secret 0 = .ok (.aload_n 0, 1) := by decide +kernel
theorem dX4_secret_1 : decode cX4_secret 1 = .ok (.iload_n 1, 1) := by decide +kernel
theorem dX4_secret_2 : decode cX4_secret 2 = .ok (.invokevirtual 50, 3) := by decide +kernel
theorem dX4_secret_5 : decode cX4_secret 5 = .ok (.ifCond .eq 16, 3) := by decide +kernel
theorem dX4_secret_8 : decode cX4_secret 8 = .ok (.aload_n 0, 1) := by decide +kernel
theorem dX4_secret_9 : decode cX4_secret 9 = .ok (.getfield 35, 3) := by decide +kernel
theorem dX4_secret_12 : decode cX4_secret 12 = .ok (.iload_n 1, 1) := by decide +kernel
theorem dX4_secret_13 : decode cX4_secret 13 = .ok (.baload, 1) := by decide +kernel
theorem dX4_secret_14 : decode cX4_secret 14 = .ok (.ifCond .eq 7, 3) := by decide +kernel
theorem dX4_secret_17 : decode cX4_secret 17 = .ok (.iconst 1, 1) := by decide +kernel
theorem dX4_secret_18 : decode cX4_secret 18 = .ok (.goto 4, 3) := by decide +kernel
theorem dX4_secret_21 : decode cX4_secret 21 = .ok (.iconst 0, 1) := by decide +kernel
theorem dX4_secret_22 : decode cX4_secret 22 = .ok (.ireturn, 1) := by decide +kernel
theorem dX4_keepSecret_0 : decode cX4_keepSecret 0 = .ok (.aload_n 0, 1) := by decide +kernel
theorem dX4_keepSecret_1 : decode cX4_keepSecret 1 = .ok (.iload_n 1, 1) := by decide +kernel
theorem dX4_keepSecret_2 : decode cX4_keepSecret 2 = .ok (.invokevirtual 50, 3) := by decide +kernel
theorem dX4_keepSecret_5 : decode cX4_keepSecret 5 = .ok (.ifCond .eq 10, 3) := by decide +kernel
theorem dX4_keepSecret_8 : decode cX4_keepSecret 8 = .ok (.aload_n 0, 1) := by decide +kernel
theorem dX4_keepSecret_9 : decode cX4_keepSecret 9 = .ok (.getfield 35, 3) := by decide +kernel
theorem dX4_keepSecret_12 : decode cX4_keepSecret 12 = .ok (.iload_n 1, 1) := by decide +kernel
theorem dX4_keepSecret_13 : decode cX4_keepSecret 13 = .ok (.iload_n 2, 1) := by decide +kernel
theorem dX4_keepSecret_14 : decode cX4_keepSecret 14 = .ok (.bastore, 1) := by decide +kernel
theorem dX4_keepSecret_15 : decode cX4_keepSecret 15 = .ok (.return_, 1) := by decide +kernel
theorem dX4_tie_0 : decode cX4_tie 0 = .ok (.aload_n 0, 1) := by decide +kernel
theorem dX4_tie_1 : decode cX4_tie 1 = .ok (.iload_n 1, 1) := by decide +kernel
theorem dX4_tie_2 : decode cX4_tie 2 = .ok (.invokevirtual 50, 3) := by decide +kernel
theorem dX4_tie_5 : decode cX4_tie 5 = .ok (.ifCond .eq 12, 3) := by decide +kernel
theorem dX4_tie_8 : decode cX4_tie 8 = .ok (.aload_n 0, 1) := by decide +kernel
theorem dX4_tie_9 : decode cX4_tie 9 = .ok (.getfield 29, 3) := by decide +kernel
theorem dX4_tie_12 : decode cX4_tie 12 = .ok (.iload_n 1, 1) := by decide +kernel
theorem dX4_tie_13 : decode cX4_tie 13 = .ok (.iaload, 1) := by decide +kernel
theorem dX4_tie_14 : decode cX4_tie 14 = .ok (.goto 4, 3) := by decide +kernel
theorem dX4_tie_17 : decode cX4_tie 17 = .ok (.iconst (-1), 1) := by decide +kernel
theorem dX4_tie_18 : decode cX4_tie 18 = .ok (.ireturn, 1) := by decide +kernel
theorem dX4_keepTie_0 : decode cX4_keepTie 0 = .ok (.aload_n 0, 1) := by decide +kernel
theorem dX4_keepTie_1 : decode cX4_keepTie 1 = .ok (.iload_n 1, 1) := by decide +kernel
theorem dX4_keepTie_2 : decode cX4_keepTie 2 = .ok (.invokevirtual 50, 3) := by decide +kernel
theorem dX4_keepTie_5 : decode cX4_keepTie 5 = .ok (.ifCond .eq 10, 3) := by decide +kernel
theorem dX4_keepTie_8 : decode cX4_keepTie 8 = .ok (.aload_n 0, 1) := by decide +kernel
theorem dX4_keepTie_9 : decode cX4_keepTie 9 = .ok (.getfield 29, 3) := by decide +kernel
theorem dX4_keepTie_12 : decode cX4_keepTie 12 = .ok (.iload_n 1, 1) := by decide +kernel
theorem dX4_keepTie_13 : decode cX4_keepTie 13 = .ok (.iload_n 2, 1) := by decide +kernel
theorem dX4_keepTie_14 : decode cX4_keepTie 14 = .ok (.iastore, 1) := by decide +kernel
theorem dX4_keepTie_15 : decode cX4_keepTie 15 = .ok (.return_, 1) := by decide +kernel
theorem dX4_back_0 : decode cX4_back 0 = .ok (.aload_n 0, 1) := by decide +kernel
theorem dX4_back_1 : decode cX4_back 1 = .ok (.iload_n 1, 1) := by decide +kernel
theorem dX4_back_2 : decode cX4_back 2 = .ok (.invokevirtual 50, 3) := by decide +kernel
theorem dX4_back_5 : decode cX4_back 5 = .ok (.ifCond .eq 12, 3) := by decide +kernel
theorem dX4_back_8 : decode cX4_back 8 = .ok (.aload_n 0, 1) := by decide +kernel
theorem dX4_back_9 : decode cX4_back 9 = .ok (.getfield 32, 3) := by decide +kernel
theorem dX4_back_12 : decode cX4_back 12 = .ok (.iload_n 1, 1) := by decide +kernel
theorem dX4_back_13 : decode cX4_back 13 = .ok (.iaload, 1) := by decide +kernel
theorem dX4_back_14 : decode cX4_back 14 = .ok (.goto 4, 3) := by decide +kernel
theorem dX4_back_17 : decode cX4_back 17 = .ok (.iconst (-1), 1) := by decide +kernel
theorem dX4_back_18 : decode cX4_back 18 = .ok (.ireturn, 1) := by decide +kernel
theorem dX4_keepBack_0 : decode cX4_keepBack 0 = .ok (.aload_n 0, 1) := by decide +kernel
theorem dX4_keepBack_1 : decode cX4_keepBack 1 = .ok (.iload_n 1, 1) := by decide +kernel
theorem dX4_keepBack_2 : decode cX4_keepBack 2 = .ok (.invokevirtual 50, 3) := by decide +kernel
theorem dX4_keepBack_5 : decode cX4_keepBack 5 = .ok (.ifCond .eq 10, 3) := by decide +kernel
theorem dX4_keepBack_8 : decode cX4_keepBack 8 = .ok (.aload_n 0, 1) := by decide +kernel
theorem dX4_keepBack_9 : decode cX4_keepBack 9 = .ok (.getfield 32, 3) := by decide +kernel
theorem dX4_keepBack_12 : decode cX4_keepBack 12 = .ok (.iload_n 1, 1) := by decide +kernel
theorem dX4_keepBack_13 : decode cX4_keepBack 13 = .ok (.iload_n 2, 1) := by decide +kernel
theorem dX4_keepBack_14 : decode cX4_keepBack 14 = .ok (.iastore, 1) := by decide +kernel
theorem dX4_keepBack_15 : decode cX4_keepBack 15 = .ok (.return_, 1) := by decide +kernel
theorem dX4_placeOfBack_0 : decode cX4_placeOfBack 0 = .ok (.iconst 0, 1) := by decide +kernel
theorem dX4_placeOfBack_1 : decode cX4_placeOfBack 1 = .ok (.istore_n 2, 1) := by decide +kernel
theorem dX4_placeOfBack_2 : decode cX4_placeOfBack 2 = .ok (.iload_n 2, 1) := by decide +kernel
theorem dX4_placeOfBack_3 : decode cX4_placeOfBack 3 = .ok (.aload_n 0, 1) := by decide +kernel
theorem dX4_placeOfBack_4 : decode cX4_placeOfBack 4 = .ok (.getfield 42, 3) := by decide +kernel
theorem dX4_placeOfBack_7 : decode cX4_placeOfBack 7 = .ok (.if_icmp .ge 34, 3) := by decide +kernel
theorem dX4_placeOfBack_10 : decode cX4_placeOfBack 10 = .ok (.iload_n 2, 1) := by decide +kernel
theorem dX4_placeOfBack_11 : decode cX4_placeOfBack 11 = .ok (.aload_n 0, 1) := by decide +kernel
theorem dX4_placeOfBack_12 : decode cX4_placeOfBack 12 = .ok (.getfield 32, 3) := by decide +kernel
theorem dX4_placeOfBack_15 : decode cX4_placeOfBack 15 = .ok (.arraylength, 1) := by decide +kernel
theorem dX4_placeOfBack_16 : decode cX4_placeOfBack 16 = .ok (.if_icmp .ge 25, 3) := by decide +kernel
theorem dX4_placeOfBack_19 : decode cX4_placeOfBack 19 = .ok (.aload_n 0, 1) := by decide +kernel
theorem dX4_placeOfBack_20 : decode cX4_placeOfBack 20 = .ok (.getfield 32, 3) := by decide +kernel
theorem dX4_placeOfBack_23 : decode cX4_placeOfBack 23 = .ok (.iload_n 2, 1) := by decide +kernel
theorem dX4_placeOfBack_24 : decode cX4_placeOfBack 24 = .ok (.iaload, 1) := by decide +kernel
theorem dX4_placeOfBack_25 : decode cX4_placeOfBack 25 = .ok (.iload_n 1, 1) := by decide +kernel
theorem dX4_placeOfBack_26 : decode cX4_placeOfBack 26 = .ok (.if_icmp .ne 9, 3) := by decide +kernel
theorem dX4_placeOfBack_29 : decode cX4_placeOfBack 29 = .ok (.aload_n 0, 1) := by decide +kernel
theorem dX4_placeOfBack_30 : decode cX4_placeOfBack 30 = .ok (.iload_n 2, 1) := by decide +kernel
theorem dX4_placeOfBack_31 : decode cX4_placeOfBack 31 = .ok (.invokevirtual 64, 3) := by decide +kernel
theorem dX4_placeOfBack_34 : decode cX4_placeOfBack 34 = .ok (.ireturn, 1) := by decide +kernel
theorem dX4_placeOfBack_35 : decode cX4_placeOfBack 35 = .ok (.iinc 2 1, 3) := by decide +kernel
theorem dX4_placeOfBack_38 : decode cX4_placeOfBack 38 = .ok (.goto (-36), 3) := by decide +kernel
theorem dX4_placeOfBack_41 : decode cX4_placeOfBack 41 = .ok (.iconst (-1), 1) := by decide +kernel
theorem dX4_placeOfBack_42 : decode cX4_placeOfBack 42 = .ok (.ireturn, 1) := by decide +kernel
theorem dX4_level_0 : decode cX4_level 0 = .ok (.iload_n 0, 1) := by decide +kernel
theorem dX4_level_1 : decode cX4_level 1 = .ok (.lookupswitch 130 #[(37, 127), (38, 119), (42, 127), (43, 125), (45, 125), (47, 127), (60, 121), (94, 117), (124, 115), (128, 121), (129, 121), (130, 123), (131, 123)], 115) := by decide +kernel
theorem dX4_level_116 : decode cX4_level 116 = .ok (.iconst 0, 1) := by decide +kernel
theorem dX4_level_117 : decode cX4_level 117 = .ok (.ireturn, 1) := by decide +kernel
theorem dX4_level_118 : decode cX4_level 118 = .ok (.iconst 1, 1) := by decide +kernel
theorem dX4_level_119 : decode cX4_level 119 = .ok (.ireturn, 1) := by decide +kernel
theorem dX4_level_120 : decode cX4_level 120 = .ok (.iconst 2, 1) := by decide +kernel
theorem dX4_level_121 : decode cX4_level 121 = .ok (.ireturn, 1) := by decide +kernel
theorem dX4_level_122 : decode cX4_level 122 = .ok (.iconst 3, 1) := by decide +kernel
theorem dX4_level_123 : decode cX4_level 123 = .ok (.ireturn, 1) := by decide +kernel
theorem dX4_level_124 : decode cX4_level 124 = .ok (.iconst 4, 1) := by decide +kernel
theorem dX4_level_125 : decode cX4_level 125 = .ok (.ireturn, 1) := by decide +kernel
theorem dX4_level_126 : decode cX4_level 126 = .ok (.iconst 5, 1) := by decide +kernel
theorem dX4_level_127 : decode cX4_level 127 = .ok (.ireturn, 1) := by decide +kernel
theorem dX4_level_128 : decode cX4_level 128 = .ok (.bipush 6, 2) := by decide +kernel
theorem dX4_level_130 : decode cX4_level 130 = .ok (.ireturn, 1) := by decide +kernel
theorem dX4_level_131 : decode cX4_level 131 = .ok (.iconst (-1), 1) := by decide +kernel
theorem dX4_level_132 : decode cX4_level 132 = .ok (.ireturn, 1) := by decide +kernel
abbrev MX4_add : aw_M := (yX4_add, cX4_add, 5, (some .int))
theorem codX4_add : Cond.code yX4_add cX4_add 5 (some .int) ∈ aw_T := aw_in 721 (by decide +kernel) rfl
theorem iniX4 : Cond.initialized RX4 ∈ aw_T := aw_in 117 (by decide +kernel) rfl
theorem insX4_add : Cond.instanceMethod yX4_add ∈ aw_T := aw_in 719 (by decide +kernel) rfl
theorem selX4_add : Cond.selects RX4 yX4_add yX4_add ∈ aw_T := aw_in 720 (by decide +kernel) rfl
abbrev MX4_addAround : aw_M := (yX4_addAround, cX4_addAround, 5, none)
theorem codX4_addAround : Cond.code yX4_addAround cX4_addAround 5 none ∈ aw_T := aw_in 769 (by decide +kernel) rfl
theorem insX4_addAround : Cond.instanceMethod yX4_addAround ∈ aw_T := aw_in 767 (by decide +kernel) rfl
theorem selX4_addAround : Cond.selects RX4 yX4_addAround yX4_addAround ∈ aw_T := aw_in 768 (by decide +kernel) rfl
abbrev MX4_addPair : aw_M := (yX4_addPair, cX4_addPair, 5, none)
theorem codX4_addPair : Cond.code yX4_addPair cX4_addPair 5 none ∈ aw_T := aw_in 781 (by decide +kernel) rfl
theorem insX4_addPair : Cond.instanceMethod yX4_addPair ∈ aw_T := aw_in 779 (by decide +kernel) rfl
theorem selX4_addPair : Cond.selects RX4 yX4_addPair yX4_addPair ∈ aw_T := aw_in 780 (by decide +kernel) rfl
abbrev MX4_back : aw_M := (yX4_back, cX4_back, 2, (some .int))
theorem codX4_back : Cond.code yX4_back cX4_back 2 (some .int) ∈ aw_T := aw_in 1117 (by decide +kernel) rfl
theorem insX4_back : Cond.instanceMethod yX4_back ∈ aw_T := aw_in 1115 (by decide +kernel) rfl
theorem selX4_back : Cond.selects RX4 yX4_back yX4_back ∈ aw_T := aw_in 1116 (by decide +kernel) rfl
abbrev MX4_calls : aw_M := (yX4_calls, cX4_calls, 2, (some .boolean))
theorem codX4_calls : Cond.code yX4_calls cX4_calls 2 (some .boolean) ∈ aw_T := aw_in 1055 (by decide +kernel) rfl
theorem insX4_calls : Cond.instanceMethod yX4_calls ∈ aw_T := aw_in 1053 (by decide +kernel) rfl
theorem selX4_calls : Cond.selects RX4 yX4_calls yX4_calls ∈ aw_T := aw_in 1054 (by decide +kernel) rfl
abbrev MX4_clear : aw_M := (yX4_clear, cX4_clear, 2, none)
theorem codX4_clear : Cond.code yX4_clear cX4_clear 2 none ∈ aw_T := aw_in 506 (by decide +kernel) rfl
theorem insX4_clear : Cond.instanceMethod yX4_clear ∈ aw_T := aw_in 504 (by decide +kernel) rfl
theorem selX4_clear : Cond.selects RX4 yX4_clear yX4_clear ∈ aw_T := aw_in 505 (by decide +kernel) rfl
abbrev MX4_has : aw_M := (yX4_has, cX4_has, 2, (some .boolean))
theorem codX4_has : Cond.code yX4_has cX4_has 2 (some .boolean) ∈ aw_T := aw_in 753 (by decide +kernel) rfl
theorem insX4_has : Cond.instanceMethod yX4_has ∈ aw_T := aw_in 751 (by decide +kernel) rfl
theorem selX4_has : Cond.selects RX4 yX4_has yX4_has ∈ aw_T := aw_in 752 (by decide +kernel) rfl
abbrev MX4_keepBack : aw_M := (yX4_keepBack, cX4_keepBack, 3, none)
theorem codX4_keepBack : Cond.code yX4_keepBack cX4_keepBack 3 none ∈ aw_T := aw_in 1029 (by decide +kernel) rfl
theorem insX4_keepBack : Cond.instanceMethod yX4_keepBack ∈ aw_T := aw_in 1027 (by decide +kernel) rfl
theorem selX4_keepBack : Cond.selects RX4 yX4_keepBack yX4_keepBack ∈ aw_T := aw_in 1028 (by decide +kernel) rfl
abbrev MX4_keepSecret : aw_M := (yX4_keepSecret, cX4_keepSecret, 3, none)
theorem codX4_keepSecret : Cond.code yX4_keepSecret cX4_keepSecret 3 none ∈ aw_T := aw_in 888 (by decide +kernel) rfl
theorem insX4_keepSecret : Cond.instanceMethod yX4_keepSecret ∈ aw_T := aw_in 886 (by decide +kernel) rfl
theorem selX4_keepSecret : Cond.selects RX4 yX4_keepSecret yX4_keepSecret ∈ aw_T := aw_in 887 (by decide +kernel) rfl
abbrev MX4_keepTie : aw_M := (yX4_keepTie, cX4_keepTie, 3, none)
theorem codX4_keepTie : Cond.code yX4_keepTie cX4_keepTie 3 none ∈ aw_T := aw_in 1047 (by decide +kernel) rfl
theorem insX4_keepTie : Cond.instanceMethod yX4_keepTie ∈ aw_T := aw_in 1045 (by decide +kernel) rfl
theorem selX4_keepTie : Cond.selects RX4 yX4_keepTie yX4_keepTie ∈ aw_T := aw_in 1046 (by decide +kernel) rfl
abbrev MX4_keepValue : aw_M := (yX4_keepValue, cX4_keepValue, 3, none)
theorem codX4_keepValue : Cond.code yX4_keepValue cX4_keepValue 3 none ∈ aw_T := aw_in 798 (by decide +kernel) rfl
theorem insX4_keepValue : Cond.instanceMethod yX4_keepValue ∈ aw_T := aw_in 796 (by decide +kernel) rfl
theorem selX4_keepValue : Cond.selects RX4 yX4_keepValue yX4_keepValue ∈ aw_T := aw_in 797 (by decide +kernel) rfl
abbrev MX4_kind : aw_M := (yX4_kind, cX4_kind, 2, (some .int))
theorem codX4_kind : Cond.code yX4_kind cX4_kind 2 (some .int) ∈ aw_T := aw_in 822 (by decide +kernel) rfl
theorem insX4_kind : Cond.instanceMethod yX4_kind ∈ aw_T := aw_in 820 (by decide +kernel) rfl
theorem selX4_kind : Cond.selects RX4 yX4_kind yX4_kind ∈ aw_T := aw_in 821 (by decide +kernel) rfl
abbrev MX4_left : aw_M := (yX4_left, cX4_left, 2, (some .int))
theorem codX4_left : Cond.code yX4_left cX4_left 2 (some .int) ∈ aw_T := aw_in 785 (by decide +kernel) rfl
theorem insX4_left : Cond.instanceMethod yX4_left ∈ aw_T := aw_in 783 (by decide +kernel) rfl
theorem selX4_left : Cond.selects RX4 yX4_left yX4_left ∈ aw_T := aw_in 784 (by decide +kernel) rfl
abbrev MX4_level : aw_M := (yX4_level, cX4_level, 1, (some .int))
theorem codX4_level : Cond.code yX4_level cX4_level 1 (some .int) ∈ aw_T := aw_in 777 (by decide +kernel) rfl
theorem sttX4_level : Cond.static yX4_level ∈ aw_T := aw_in 776 (by decide +kernel) rfl
abbrev MX4_need : aw_M := (yX4_need, cX4_need, 2, (some .int))
theorem codX4_need : Cond.code yX4_need cX4_need 2 (some .int) ∈ aw_T := aw_in 1059 (by decide +kernel) rfl
theorem insX4_need : Cond.instanceMethod yX4_need ∈ aw_T := aw_in 1057 (by decide +kernel) rfl
theorem selX4_need : Cond.selects RX4 yX4_need yX4_need ∈ aw_T := aw_in 1058 (by decide +kernel) rfl
abbrev MX4_place : aw_M := (yX4_place, cX4_place, 2, (some .int))
theorem codX4_place : Cond.code yX4_place cX4_place 2 (some .int) ∈ aw_T := aw_in 830 (by decide +kernel) rfl
theorem insX4_place : Cond.instanceMethod yX4_place ∈ aw_T := aw_in 828 (by decide +kernel) rfl
theorem selX4_place : Cond.selects RX4 yX4_place yX4_place ∈ aw_T := aw_in 829 (by decide +kernel) rfl
abbrev MX4_placeOfBack : aw_M := (yX4_placeOfBack, cX4_placeOfBack, 3, (some .int))
theorem codX4_placeOfBack : Cond.code yX4_placeOfBack cX4_placeOfBack 3 (some .int) ∈ aw_T := aw_in 1292 (by decide +kernel) rfl
theorem insX4_placeOfBack : Cond.instanceMethod yX4_placeOfBack ∈ aw_T := aw_in 1290 (by decide +kernel) rfl
theorem selX4_placeOfBack : Cond.selects RX4 yX4_placeOfBack yX4_placeOfBack ∈ aw_T := aw_in 1291 (by decide +kernel) rfl
abbrev MX4_secret : aw_M := (yX4_secret, cX4_secret, 2, (some .boolean))
theorem codX4_secret : Cond.code yX4_secret cX4_secret 2 (some .boolean) ∈ aw_T := aw_in 884 (by decide +kernel) rfl
theorem insX4_secret : Cond.instanceMethod yX4_secret ∈ aw_T := aw_in 882 (by decide +kernel) rfl
theorem selX4_secret : Cond.selects RX4 yX4_secret yX4_secret ∈ aw_T := aw_in 883 (by decide +kernel) rfl
abbrev MX4_size : aw_M := (yX4_size, cX4_size, 1, (some .int))
theorem codX4_size : Cond.code yX4_size cX4_size 1 (some .int) ∈ aw_T := aw_in 814 (by decide +kernel) rfl
theorem insX4_size : Cond.instanceMethod yX4_size ∈ aw_T := aw_in 812 (by decide +kernel) rfl
theorem selX4_size : Cond.selects RX4 yX4_size yX4_size ∈ aw_T := aw_in 813 (by decide +kernel) rfl
abbrev MX4_tie : aw_M := (yX4_tie, cX4_tie, 2, (some .int))
theorem codX4_tie : Cond.code yX4_tie cX4_tie 2 (some .int) ∈ aw_T := aw_in 1075 (by decide +kernel) rfl
theorem insX4_tie : Cond.instanceMethod yX4_tie ∈ aw_T := aw_in 1073 (by decide +kernel) rfl
theorem selX4_tie : Cond.selects RX4 yX4_tie yX4_tie ∈ aw_T := aw_in 1074 (by decide +kernel) rfl
abbrev MX4_turnInto : aw_M := (yX4_turnInto, cX4_turnInto, 3, none)
theorem codX4_turnInto : Cond.code yX4_turnInto cX4_turnInto 3 none ∈ aw_T := aw_in 749 (by decide +kernel) rfl
theorem insX4_turnInto : Cond.instanceMethod yX4_turnInto ∈ aw_T := aw_in 747 (by decide +kernel) rfl
theorem selX4_turnInto : Cond.selects RX4 yX4_turnInto yX4_turnInto ∈ aw_T := aw_in 748 (by decide +kernel) rfl
abbrev MX4_value : aw_M := (yX4_value, cX4_value, 2, (some .int))
theorem codX4_value : Cond.code yX4_value cX4_value 2 (some .int) ∈ aw_T := aw_in 846 (by decide +kernel) rfl
theorem insX4_value : Cond.instanceMethod yX4_value ∈ aw_T := aw_in 844 (by decide +kernel) rfl
theorem selX4_value : Cond.selects RX4 yX4_value yX4_value ∈ aw_T := aw_in 845 (by decide +kernel) rfl
theorem arr_boolean : Cond.arrayClass .boolean ∈ aw_T := aw_in 258 (by decide +kernel) rfl
theorem arr_int : Cond.arrayClass .int ∈ aw_T := aw_in 189 (by decide +kernel) rfl
theorem hX4_w : ∀ w ∈ u_ws RX4 TX4 10, w ∈ aw_T := by
  show ∀ w ∈ [u_lay RX4 TX4 0, u_lay RX4 TX4 1, u_lay RX4 TX4 2, u_lay RX4 TX4 3, u_lay RX4 TX4 4, u_lay RX4 TX4 5, u_lay RX4 TX4 6, u_lay RX4 TX4 7, u_lay RX4 TX4 8, u_lay RX4 TX4 9], w ∈ aw_T
  exact List.forall_mem_cons.mpr ⟨aw_in 237 (by decide +kernel) rfl, List.forall_mem_cons.mpr ⟨aw_in 239 (by decide +kernel) rfl, List.forall_mem_cons.mpr ⟨aw_in 241 (by decide +kernel) rfl, List.forall_mem_cons.mpr ⟨aw_in 243 (by decide +kernel) rfl, List.forall_mem_cons.mpr ⟨aw_in 245 (by decide +kernel) rfl, List.forall_mem_cons.mpr ⟨aw_in 247 (by decide +kernel) rfl, List.forall_mem_cons.mpr ⟨aw_in 249 (by decide +kernel) rfl, List.forall_mem_cons.mpr ⟨aw_in 251 (by decide +kernel) rfl, List.forall_mem_cons.mpr ⟨aw_in 253 (by decide +kernel) rfl, List.forall_mem_cons.mpr ⟨aw_in 255 (by decide +kernel) rfl, fun _ h => absurd h List.not_mem_nil⟩⟩⟩⟩⟩⟩⟩⟩⟩⟩
theorem hX4 : aw_C 4 RX4 TX4 10 tyX4 := ⟨rfl, hX4_w, tyX4_ok, nmX4⟩
theorem fX4_11 : aw_F RX4 11 4 0 (.array .int) false := aw_F.of hX4 0 (by decide) (aw_in 227 (by decide +kernel) rfl) rfl rfl rfl
theorem fX4_17 : aw_F RX4 17 4 1 (.array .int) false := aw_F.of hX4 1 (by decide) (aw_in 228 (by decide +kernel) rfl) rfl rfl rfl
theorem fX4_20 : aw_F RX4 20 4 2 (.array .int) false := aw_F.of hX4 2 (by decide) (aw_in 229 (by decide +kernel) rfl) rfl rfl rfl
theorem fX4_23 : aw_F RX4 23 4 3 (.array .int) false := aw_F.of hX4 3 (by decide) (aw_in 230 (by decide +kernel) rfl) rfl rfl rfl
theorem fX4_26 : aw_F RX4 26 4 4 (.array .int) false := aw_F.of hX4 4 (by decide) (aw_in 231 (by decide +kernel) rfl) rfl rfl rfl
theorem fX4_29 : aw_F RX4 29 4 5 (.array .int) false := aw_F.of hX4 5 (by decide) (aw_in 232 (by decide +kernel) rfl) rfl rfl rfl
theorem fX4_32 : aw_F RX4 32 4 6 (.array .int) false := aw_F.of hX4 6 (by decide) (aw_in 233 (by decide +kernel) rfl) rfl rfl rfl
theorem fX4_35 : aw_F RX4 35 4 7 (.array .boolean) false := aw_F.of hX4 7 (by decide) (aw_in 234 (by decide +kernel) rfl) rfl rfl rfl
theorem fX4_39 : aw_F RX4 39 4 8 (.array .boolean) false := aw_F.of hX4 8 (by decide) (aw_in 235 (by decide +kernel) rfl) rfl rfl rfl
theorem fX4_42 : aw_F RX4 42 4 9 .int false := aw_F.of hX4 9 (by decide) (aw_in 236 (by decide +kernel) rfl) rfl rfl rfl
theorem qX4_58 : Cond.methodLink RX4 58 Lib.Math.max.name ∈ aw_T := aw_in 786 (by decide +kernel) rfl
theorem lX4_46 : aw_L RX4 46 MX4_add 3 := ⟨aw_in 770 (by decide +kernel) rfl, iniX4, codX4_add, ⟨by decide, by decide, by decide +kernel⟩, by decide⟩
theorem lX4_50 : aw_L RX4 50 MX4_has 1 := ⟨aw_in 750 (by decide +kernel) rfl, iniX4, codX4_has, ⟨by decide, by decide, by decide +kernel⟩, by decide⟩
theorem lX4_54 : aw_L RX4 54 MX4_left 1 := ⟨aw_in 782 (by decide +kernel) rfl, iniX4, codX4_left, ⟨by decide, by decide, by decide +kernel⟩, by decide⟩
theorem lX4_64 : aw_L RX4 64 MX4_place 1 := ⟨aw_in 1293 (by decide +kernel) rfl, iniX4, codX4_place, ⟨by decide, by decide, by decide +kernel⟩, by decide⟩
