theorem dX3_clear_0 : decode cX3_clear 0 = .ok (.aload_n 0, 1) := by decide +kernel
theorem dX3_clear_1 : decode cX3_clear 1 = .ok (.iconst 0, 1) := by decide +kernel
theorem dX3_clear_2 : decode cX3_clear 2 = .ok (.putfield 35, 3) := by decide +kernel
theorem dX3_clear_5 : decode cX3_clear 5 = .ok (.aload_n 0, 1) := by decide +kernel
theorem dX3_clear_6 : decode cX3_clear 6 = .ok (.iconst 0, 1) := by decide +kernel
theorem dX3_clear_7 : decode cX3_clear 7 = .ok (.putfield 39, 3) := by decide +kernel
theorem dX3_clear_10 : decode cX3_clear 10 = .ok (.aload_n 0, 1) := by decide +kernel
theorem dX3_clear_11 : decode cX3_clear 11 = .ok (.iconst 0, 1) := by decide +kernel
theorem dX3_clear_12 : decode cX3_clear 12 = .ok (.putfield 42, 3) := by decide +kernel
theorem dX3_clear_15 : decode cX3_clear 15 = .ok (.aload_n 0, 1) := by decide +kernel
theorem dX3_clear_16 : decode cX3_clear 16 = .ok (.iconst 0, 1) := by decide +kernel
theorem dX3_clear_17 : decode cX3_clear 17 = .ok (.putfield 45, 3) := by decide +kernel
theorem dX3_clear_20 : decode cX3_clear 20 = .ok (.return_, 1) := by decide +kernel
theorem dX3_size_0 : decode cX3_size 0 = .ok (.aload_n 0, 1) := by decide +kernel
theorem dX3_size_1 : decode cX3_size 1 = .ok (.getfield 35, 3) := by decide +kernel
theorem dX3_size_4 : decode cX3_size 4 = .ok (.ireturn, 1) := by decide +kernel
theorem dX3_words_0 : decode cX3_words 0 = .ok (.aload_n 0, 1) := by decide +kernel
theorem dX3_words_1 : decode cX3_words 1 = .ok (.getfield 39, 3) := by decide +kernel
theorem dX3_words_4 : decode cX3_words 4 = .ok (.ireturn, 1) := by decide +kernel
theorem dX3_inputs_0 : decode cX3_inputs 0 = .ok (.aload_n 0, 1) := by decide +kernel
theorem dX3_inputs_1 : decode cX3_inputs 1 = .ok (.getfield 42, 3) := by decide +kernel
theorem dX3_inputs_4 : decode cX3_inputs 4 = .ok (.ireturn, 1) := by decide +kernel
theorem dX3_publicInputs_0 : decode cX3_publicInputs 0 = .ok (.aload_n 0, 1) := by decide +kernel
theorem dX3_publicInputs_1 : decode cX3_publicInputs 1 = .ok (.getfield 45, 3) := by decide +kernel
theorem dX3_publicInputs_4 : decode cX3_publicInputs 4 = .ok (.ireturn, 1) := by decide +kernel
theorem dX3_find_0 : decode cX3_find 0 = .ok (.iconst 0, 1) := by decide +kernel
theorem dX3_find_1 : decode cX3_find 1 = .ok (.istore_n 2, 1) := by decide +kernel
theorem dX3_find_2 : decode cX3_find 2 = .ok (.iload_n 2, 1) := by decide +kernel
theorem dX3_find_3 : decode cX3_find 3 = .ok (.aload_n 0, 1) := by decide +kernel
theorem dX3_find_4 : decode cX3_find 4 = .ok (.getfield 35, 3) := by decide +kernel
theorem dX3_find_7 : decode cX3_find 7 = .ok (.if_icmp .ge 35, 3) := by decide +kernel
theorem dX3_find_10 : decode cX3_find 10 = .ok (.iload_n 2, 1) := by decide +kernel
theorem dX3_find_11 : decode cX3_find 11 = .ok (.sipush 200, 3) := by decide +kernel
theorem dX3_find_14 : decode cX3_find 14 = .ok (.if_icmp .ge 28, 3) := by decide +kernel
theorem dX3_find_17 : decode cX3_find 17 = .ok (.aload_n 0, 1) := by decide +kernel
theorem dX3_find_18 : decode cX3_find 18 = .ok (.getfield 31, 3) := by decide +kernel
theorem dX3_find_21 : decode cX3_find 21 = .ok (.aload_n 0, 1) := by decide +kernel
theorem dX3_find_22 : decode cX3_find 22 = .ok (.getfield 11, 3) := by decide +kernel
theorem dX3_find_25 : decode cX3_find 25 = .ok (.iload_n 2, 1) := by decide +kernel
theorem dX3_find_26 : decode cX3_find 26 = .ok (.iaload, 1) := by decide +kernel
theorem dX3_find_27 : decode cX3_find 27 = .ok (.iload_n 1, 1) := by decide +kernel
theorem dX3_find_28 : decode cX3_find 28 = .ok (.invokevirtual 48, 3) := by decide +kernel
theorem dX3_find_31 : decode cX3_find 31 = .ok (.ifCond .eq 5, 3) := by decide +kernel
theorem dX3_find_34 : decode cX3_find 34 = .ok (.iload_n 2, 1) := by decide +kernel
theorem dX3_find_35 : decode cX3_find 35 = .ok (.ireturn, 1) := by decide +kernel
theorem dX3_find_36 : decode cX3_find 36 = .ok (.iinc 2 1, 3) := by decide +kernel
theorem dX3_find_39 : decode cX3_find 39 = .ok (.goto (-37), 3) := by decide +kernel
theorem dX3_find_42 : decode cX3_find 42 = .ok (.iconst (-1), 1) := by decide +kernel
theorem dX3_find_43 : decode cX3_find 43 = .ok (.ireturn, 1) := by decide +kernel
theorem dX3_declare_0 : decode cX3_declare 0 = .ok (.iconst 1, 1) := by decide +kernel
theorem dX3_declare_1 : decode cX3_declare 1 = .ok (.iload_n 2, 1) := by decide +kernel
theorem dX3_declare_2 : decode cX3_declare 2 = .ok (.invokestatic 54, 3) := by decide +kernel
theorem dX3_declare_5 : decode cX3_declare 5 = .ok (.istore 4, 2) := by decide +kernel
theorem dX3_declare_7 : decode cX3_declare 7 = .ok (.aload_n 0, 1) := by decide +kernel
theorem dX3_declare_8 : decode cX3_declare 8 = .ok (.getfield 39, 3) := by decide +kernel
theorem dX3_declare_11 : decode cX3_declare 11 = .ok (.iload 4, 2) := by decide +kernel
theorem dX3_declare_13 : decode cX3_declare 13 = .ok (.iadd, 1) := by decide +kernel
theorem dX3_declare_14 : decode cX3_declare 14 = .ok (.sipush 200, 3) := by decide +kernel
theorem dX3_declare_17 : decode cX3_declare 17 = .ok (.if_icmp .gt 13, 3) := by decide +kernel
theorem dX3_declare_20 : decode cX3_declare 20 = .ok (.aload_n 0, 1) := by decide +kernel
theorem dX3_declare_21 : decode cX3_declare 21 = .ok (.getfield 35, 3) := by decide +kernel
theorem dX3_declare_24 : decode cX3_declare 24 = .ok (.sipush 200, 3) := by decide +kernel
theorem dX3_declare_27 : decode cX3_declare 27 = .ok (.if_icmp .lt 5, 3) := by decide +kernel
theorem dX3_declare_30 : decode cX3_declare 30 = .ok (.iconst 0, 1) := by decide +kernel
theorem dX3_declare_31 : decode cX3_declare 31 = .ok (.ireturn, 1) := by decide +kernel
theorem dX3_declare_32 : decode cX3_declare 32 = .ok (.aload_n 0, 1) := by decide +kernel
theorem dX3_declare_33 : decode cX3_declare 33 = .ok (.getfield 11, 3) := by decide +kernel
theorem dX3_declare_36 : decode cX3_declare 36 = .ok (.aload_n 0, 1) := by decide +kernel
theorem dX3_declare_37 : decode cX3_declare 37 = .ok (.getfield 35, 3) := by decide +kernel
theorem dX3_declare_40 : decode cX3_declare 40 = .ok (.iload_n 1, 1) := by decide +kernel
theorem dX3_declare_41 : decode cX3_declare 41 = .ok (.iastore, 1) := by decide +kernel
theorem dX3_declare_42 : decode cX3_declare 42 = .ok (.aload_n 0, 1) := by decide +kernel
theorem dX3_declare_43 : decode cX3_declare 43 = .ok (.getfield 15, 3) := by decide +kernel
theorem dX3_declare_46 : decode cX3_declare 46 = .ok (.aload_n 0, 1) := by decide +kernel
theorem dX3_declare_47 : decode cX3_declare 47 = .ok (.getfield 35, 3) := by decide +kernel
theorem dX3_declare_50 : decode cX3_declare 50 = .ok (.aload_n 0, 1) := by decide +kernel
theorem dX3_declare_51 : decode cX3_declare 51 = .ok (.getfield 39, 3) := by decide +kernel
theorem dX3_declare_54 : decode cX3_declare 54 = .ok (.iastore, 1) := by decide +kernel
theorem dX3_declare_55 : decode cX3_declare 55 = .ok (.aload_n 0, 1) := by decide +kernel
theorem dX3_declare_56 : decode cX3_declare 56 = .ok (.getfield 18, 3) := by decide +kernel
theorem dX3_declare_59 : decode cX3_declare 59 = .ok (.aload_n 0, 1) := by decide +kernel
theorem dX3_declare_60 : decode cX3_declare 60 = .ok (.getfield 35, 3) := by decide +kernel
theorem dX3_declare_63 : decode cX3_declare 63 = .ok (.iload_n 2, 1) := by decide +kernel
theorem dX3_declare_64 : decode cX3_declare 64 = .ok (.iastore, 1) := by decide +kernel
theorem dX3_declare_65 : decode cX3_declare 65 = .ok (.aload_n 0, 1) := by decide +kernel
theorem dX3_declare_66 : decode cX3_declare 66 = .ok (.getfield 21, 3) := by decide +kernel
theorem dX3_declare_69 : decode cX3_declare 69 = .ok (.aload_n 0, 1) := by decide +kernel
theorem dX3_declare_70 : decode cX3_declare 70 = .ok (.getfield 35, 3) := by decide +kernel
theorem dX3_declare_73 : decode cX3_declare 73 = .ok (.iload_n 3, 1) := by decide +kernel
theorem dX3_declare_74 : decode cX3_declare 74 = .ok (.iastore, 1) := by decide +kernel
theorem dX3_declare_75 : decode cX3_declare 75 = .ok (.aload_n 0, 1) := by decide +kernel
theorem dX3_declare_76 : decode cX3_declare 76 = .ok (.dup, 1) := by decide +kernel
theorem dX3_declare_77 : decode cX3_declare 77 = .ok (.getfield 35, 3) := by decide +kernel
theorem dX3_declare_80 : decode cX3_declare 80 = .ok (.iconst 1, 1) := by decide +kernel
theorem dX3_declare_81 : decode cX3_declare 81 = .ok (.iadd, 1) := by decide +kernel
theorem dX3_declare_82 : decode cX3_declare 82 = .ok (.putfield 35, 3) := by decide +kernel
theorem dX3_declare_85 : decode cX3_declare 85 = .ok (.iload_n 3, 1) := by decide +kernel
theorem dX3_declare_86 : decode cX3_declare 86 = .ok (.iconst 2, 1) := by decide +kernel
theorem dX3_declare_87 : decode cX3_declare 87 = .ok (.iand, 1) := by decide +kernel
theorem dX3_declare_88 : decode cX3_declare 88 = .ok (.ifCond .eq 24, 3) := by decide +kernel
theorem dX3_declare_91 : decode cX3_declare 91 = .ok (.aload_n 0, 1) := by decide +kernel
theorem dX3_declare_92 : decode cX3_declare 92 = .ok (.aload_n 0, 1) := by decide +kernel
theorem dX3_declare_93 : decode cX3_declare 93 = .ok (.getfield 39, 3) := by decide +kernel
theorem dX3_declare_96 : decode cX3_declare 96 = .ok (.iload 4, 2) := by decide +kernel
theorem dX3_declare_98 : decode cX3_declare 98 = .ok (.iload_n 3, 1) := by decide +kernel
theorem dX3_declare_99 : decode cX3_declare 99 = .ok (.iconst 1, 1) := by decide +kernel
theorem dX3_declare_100 : decode cX3_declare 100 = .ok (.iand, 1) := by decide +kernel
theorem dX3_declare_101 : decode cX3_declare 101 = .ok (.ifCond .eq 7, 3) := by decide +kernel
theorem dX3_declare_104 : decode cX3_declare 104 = .ok (.iconst 1, 1) := by decide +kernel
theorem dX3_declare_105 : decode cX3_declare 105 = .ok (.goto 4, 3) := by decide +kernel
theorem dX3_declare_108 : decode cX3_declare 108 = .ok (.iconst 0, 1) := by decide +kernel
theorem dX3_declare_109 : decode cX3_declare 109 = .ok (.invokevirtual 60, 3) := by decide +kernel
theorem dX3_declare_112 : decode cX3_declare 112 = .ok (.aload_n 0, 1) := by decide +kernel
theorem dX3_declare_113 : decode cX3_declare 113 = .ok (.dup, 1) := by decide +kernel
theorem dX3_declare_114 : decode cX3_declare 114 = .ok (.getfield 39, 3) := by decide +kernel
theorem dX3_declare_117 : decode cX3_declare 117 = .ok (.iload 4, 2) := by decide +kernel
theorem dX3_declare_119 : decode cX3_declare 119 = .ok (.iadd, 1) := by decide +kernel
theorem dX3_declare_120 : decode cX3_declare 120 = .ok (.putfield 39, 3) := by decide +kernel
theorem dX3_declare_123 : decode cX3_declare 123 = .ok (.iconst 1, 1) := by decide +kernel
theorem dX3_declare_124 : decode cX3_declare 124 = .ok (.ireturn, 1) := by decide +kernel
theorem dX3_addInputs_0 : decode cX3_addInputs 0 = .ok (.iconst 0, 1) := by decide +kernel
theorem dX3_addInputs_1 : decode cX3_addInputs 1 = .ok (.istore 4, 2) := by decide +kernel
theorem dX3_addInputs_3 : decode cX3_addInputs 3 = .ok (.iload 4, 2) := by decide +kernel
theorem dX3_addInputs_5 : decode cX3_addInputs 5 = .ok (.iload_n 2, 1) := by decide +kernel
theorem dX3_addInputs_6 : decode cX3_addInputs 6 = .ok (.if_icmp .ge 70, 3) := by decide +kernel
theorem dX3_addInputs_9 : decode cX3_addInputs 9 = .ok (.aload_n 0, 1) := by decide +kernel
theorem dX3_addInputs_10 : decode cX3_addInputs 10 = .ok (.getfield 42, 3) := by decide +kernel
theorem dX3_addInputs_13 : decode cX3_addInputs 13 = .ok (.sipush 200, 3) := by decide +kernel
theorem dX3_addInputs_16 : decode cX3_addInputs 16 = .ok (.if_icmp .ge 60, 3) := by decide +kernel
theorem dX3_addInputs_19 : decode cX3_addInputs 19 = .ok (.aload_n 0, 1) := by decide +kernel
theorem dX3_addInputs_20 : decode cX3_addInputs 20 = .ok (.getfield 24, 3) := by decide +kernel
theorem dX3_addInputs_23 : decode cX3_addInputs 23 = .ok (.aload_n 0, 1) := by decide +kernel
theorem dX3_addInputs_24 : decode cX3_addInputs 24 = .ok (.getfield 42, 3) := by decide +kernel
theorem dX3_addInputs_27 : decode cX3_addInputs 27 = .ok (.iload_n 1, 1) := by decide +kernel
theorem dX3_addInputs_28 : decode cX3_addInputs 28 = .ok (.iload 4, 2) := by decide +kernel
theorem dX3_addInputs_30 : decode cX3_addInputs 30 = .ok (.iadd, 1) := by decide +kernel
theorem dX3_addInputs_31 : decode cX3_addInputs 31 = .ok (.iastore, 1) := by decide +kernel
theorem dX3_addInputs_32 : decode cX3_addInputs 32 = .ok (.aload_n 0, 1) := by decide +kernel
theorem dX3_addInputs_33 : decode cX3_addInputs 33 = .ok (.getfield 27, 3) := by decide +kernel
theorem dX3_addInputs_36 : decode cX3_addInputs 36 = .ok (.aload_n 0, 1) := by decide +kernel
theorem dX3_addInputs_37 : decode cX3_addInputs 37 = .ok (.getfield 42, 3) := by decide +kernel
theorem dX3_addInputs_40 : decode cX3_addInputs 40 = .ok (.iload_n 3, 1) := by decide +kernel
theorem dX3_addInputs_41 : decode cX3_addInputs 41 = .ok (.bastore, 1) := by decide +kernel
theorem dX3_addInputs_42 : decode cX3_addInputs 42 = .ok (.aload_n 0, 1) := by decide +kernel
theorem dX3_addInputs_43 : decode cX3_addInputs 43 = .ok (.dup, 1) := by decide +kernel
theorem dX3_addInputs_44 : decode cX3_addInputs 44 = .ok (.getfield 42, 3) := by decide +kernel
theorem dX3_addInputs_47 : decode cX3_addInputs 47 = .ok (.iconst 1, 1) := by decide +kernel
theorem dX3_addInputs_48 : decode cX3_addInputs 48 = .ok (.iadd, 1) := by decide +kernel
theorem dX3_addInputs_49 : decode cX3_addInputs 49 = .ok (.putfield 42, 3) := by decide +kernel
theorem dX3_addInputs_52 : decode cX3_addInputs 52 = .ok (.aload_n 0, 1) := by decide +kernel
theorem dX3_addInputs_53 : decode cX3_addInputs 53 = .ok (.dup, 1) := by decide +kernel
theorem dX3_addInputs_54 : decode cX3_addInputs 54 = .ok (.getfield 45, 3) := by decide +kernel
theorem dX3_addInputs_57 : decode cX3_addInputs 57 = .ok (.iload_n 3, 1) := by decide +kernel
theorem dX3_addInputs_58 : decode cX3_addInputs 58 = .ok (.ifCond .eq 7, 3) := by decide +kernel
theorem dX3_addInputs_61 : decode cX3_addInputs 61 = .ok (.iconst 0, 1) := by decide +kernel
theorem dX3_addInputs_62 : decode cX3_addInputs 62 = .ok (.goto 4, 3) := by decide +kernel
theorem dX3_addInputs_65 : decode cX3_addInputs 65 = .ok (.iconst 1, 1) := by decide +kernel
theorem dX3_addInputs_66 : decode cX3_addInputs 66 = .ok (.iadd, 1) := by decide +kernel
theorem dX3_addInputs_67 : decode cX3_addInputs 67 = .ok (.putfield 45, 3) := by decide +kernel
theorem dX3_addInputs_70 : decode cX3_addInputs 70 = .ok (.iinc 4 1, 3) := by decide +kernel
theorem dX3_addInputs_73 : decode cX3_addInputs 73 = .ok (.goto (-70), 3) := by decide +kernel
theorem dX3_addInputs_76 : decode cX3_addInputs 76 = .ok (.return_, 1) := by decide +kernel
theorem dX3_has_0 : decode cX3_has 0 = .ok (.iload_n 1, 1) := by decide +kernel
theorem dX3_has_1 : decode cX3_has 1 = .ok (.ifCond .lt 22, 3) := by decide +kernel
theorem dX3_has_4 : decode cX3_has 4 = .ok (.iload_n 1, 1) := by decide +kernel
theorem dX3_has_5 : decode cX3_has 5 = .ok (.aload_n 0, 1) := by decide +kernel
theorem dX3_has_6 : decode cX3_has 6 = .ok (.getfield 35, 3) := by decide +kernel
theorem dX3_has_9 : decode cX3_has 9 = .ok (.if_icmp .ge 14, 3) := by decide +kernel
theorem dX3_has_12 : decode cX3_has 12 = .ok (.iload_n 1, 1) := by decide +kernel
theorem dX3_has_13 : decode cX3_has 13 = .ok (.sipush 200, 3) := by decide +kernel
theorem dX3_has_16 : decode cX3_has 16 = .ok (.if_icmp .ge 7, 3) := by decide +kernel
theorem dX3_has_19 : decode cX3_has 19 = .ok (.iconst 1, 1) := by decide +kernel
theorem dX3_has_20 : decode cX3_has 20 = .ok (.goto 4, 3) := by decide +kernel
theorem dX3_has_23 : decode cX3_has 23 = .ok (.iconst 0, 1) := by decide +kernel
theorem dX3_has_24 : decode cX3_has 24 = .ok (.ireturn, 1) := by decide +kernel
theorem dX3_secret_0 : decode cX3_secret 0 = .ok (.aload_n 0, 1) := by decide +kernel
theorem dX3_secret_1 : decode cX3_secret 1 = .ok (.iload_n 1, 1) := by decide +kernel
theorem dX3_secret_2 : decode cX3_secret 2 = .ok (.invokevirtual 64, 3) := by decide +kernel
theorem dX3_secret_5 : decode cX3_secret 5 = .ok (.ifCond .eq 18, 3) := by decide +kernel
theorem dX3_secret_8 : decode cX3_secret 8 = .ok (.aload_n 0, 1) := by decide +kernel
theorem dX3_secret_9 : decode cX3_secret 9 = .ok (.getfield 21, 3) := by decide +kernel
theorem dX3_secret_12 : decode cX3_secret 12 = .ok (.iload_n 1, 1) := by decide +kernel
theorem dX3_secret_13 : decode cX3_secret 13 = .ok (.iaload, 1) := by decide +kernel
theorem dX3_secret_14 : decode cX3_secret 14 = .ok (.iconst 1, 1) := by decide +kernel
theorem dX3_secret_15 : decode cX3_secret 15 = .ok (.iand, 1) := by decide +kernel
theorem dX3_secret_16 : decode cX3_secret 16 = .ok (.ifCond .eq 7, 3) := by decide +kernel
theorem dX3_secret_19 : decode cX3_secret 19 = .ok (.iconst 1, 1) := by decide +kernel
theorem dX3_secret_20 : decode cX3_secret 20 = .ok (.goto 4, 3) := by decide +kernel
theorem dX3_secret_23 : decode cX3_secret 23 = .ok (.iconst 0, 1) := by decide +kernel
theorem dX3_secret_24 : decode cX3_secret 24 = .ok (.ireturn, 1) := by decide +kernel
theorem dX3_isRow_0 : decode cX3_isRow 0 = .ok (.aload_n 0, 1) := by decide +kernel
theorem dX3_isRow_1 : decode cX3_isRow 1 = .ok (.iload_n 1, 1) := by decide +kernel
theorem dX3_isRow_2 : decode cX3_isRow 2 = .ok (.invokevirtual 68, 3) := by decide +kernel
theorem dX3_isRow_5 : decode cX3_isRow 5 = .ok (.ifCond .le 7, 3) := by decide +kernel
theorem dX3_isRow_8 : decode cX3_isRow 8 = .ok (.iconst 1, 1) := by decide +kernel
theorem dX3_isRow_9 : decode cX3_isRow 9 = .ok (.goto 4, 3) := by decide +kernel
theorem dX3_isRow_12 : decode cX3_isRow 12 = .ok (.iconst 0, 1) := by decide +kernel
theorem dX3_isRow_13 : decode cX3_isRow 13 = .ok (.ireturn, 1) := by decide +kernel
theorem dX3_length_0 : decode cX3_length 0 = .ok (.aload_n 0, 1) := by decide +kernel
theorem dX3_length_1 : decode cX3_length 1 = .ok (.iload_n 1, 1) := by decide +kernel
theorem dX3_length_2 : decode cX3_length 2 = .ok (.invokevirtual 64, 3) := by decide +kernel
theorem dX3_length_5 : decode cX3_length 5 = .ok (.ifCond .eq 12, 3) := by decide +kernel
theorem dX3_length_8 : decode cX3_length 8 = .ok (.aload_n 0, 1) := by decide +kernel
theorem dX3_length_9 : decode cX3_length 9 = .ok (.getfield 18, 3) := by decide +kernel
theorem dX3_length_12 : decode cX3_length 12 = .ok (.iload_n 1, 1) := by decide +kernel
theorem dX3_length_13 : decode cX3_length 13 = .ok (.iaload, 1) := by decide +kernel
theorem dX3_length_14 : decode cX3_length 14 = .ok (.goto 4, 3) := by decide +kernel
theorem dX3_length_17 : decode cX3_length 17 = .ok (.iconst 0, 1) := by decide +kernel
theorem dX3_length_18 : decode cX3_length 18 = .ok (.ireturn, 1) := by decide +kernel
theorem dX3_firstWord_0 : decode cX3_firstWord 0 = .ok (.aload_n 0, 1) := by decide +kernel
theorem dX3_firstWord_1 : decode cX3_firstWord 1 = .ok (.iload_n 1, 1) := by decide +kernel
theorem dX3_firstWord_2 : decode cX3_firstWord 2 = .ok (.invokevirtual 64, 3) := by decide +kernel
theorem dX3_firstWord_5 : decode cX3_firstWord 5 = .ok (.ifCond .eq 12, 3) := by decide +kernel
theorem dX3_firstWord_8 : decode cX3_firstWord 8 = .ok (.aload_n 0, 1) := by decide +kernel
theorem dX3_firstWord_9 : decode cX3_firstWord 9 = .ok (.getfield 15, 3) := by decide +kernel
theorem dX3_firstWord_12 : decode cX3_firstWord 12 = .ok (.iload_n 1, 1) := by decide +kernel
theorem dX3_firstWord_13 : decode cX3_firstWord 13 = .ok (.iaload, 1) := by decide +kernel
theorem dX3_firstWord_14 : decode cX3_firstWord 14 = .ok (.goto 4, 3) := by decide +kernel
theorem dX3_firstWord_17 : decode cX3_firstWord 17 = .ok (.iconst 0, 1) := by decide +kernel
theorem dX3_firstWord_18 : decode cX3_firstWord 18 = .ok (.ireturn, 1) := by decide +kernel
theorem dX3_hasInput_0 : decode cX3_hasInput 0 = .ok (.iload_n 1, 1) := by decide +kernel
theorem dX3_hasInput_1 : decode cX3_hasInput 1 = .ok (.ifCond .lt 22, 3) := by decide +kernel
theorem dX3_hasInput_4 : decode cX3_hasInput 4 = .ok (.iload_n 1, 1) := by decide +kernel
theorem dX3_hasInput_5 : decode cX3_hasInput 5 = .ok (.aload_n 0, 1) := by decide +kernel
theorem dX3_hasInput_6 : decode cX3_hasInput 6 = .ok (.getfield 42, 3) := by decide +kernel
theorem dX3_hasInput_9 : decode cX3_hasInput 9 = .ok (.if_icmp .ge 14, 3) := by decide +kernel
theorem dX3_hasInput_12 : decode cX3_hasInput 12 = .ok (.iload_n 1, 1) := by decide +kernel
theorem dX3_hasInput_13 : decode cX3_hasInput 13 = .ok (.sipush 200, 3) := by decide +kernel
theorem dX3_hasInput_16 : decode cX3_hasInput 16 = .ok (.if_icmp .ge 7, 3) := by decide +kernel
theorem dX3_hasInput_19 : decode cX3_hasInput 19 = .ok (.iconst 1, 1) := by decide +kernel
theorem dX3_hasInput_20 : decode cX3_hasInput 20 = .ok (.goto 4, 3) := by decide +kernel
theorem dX3_hasInput_23 : decode cX3_hasInput 23 = .ok (.iconst 0, 1) := by decide +kernel
theorem dX3_hasInput_24 : decode cX3_hasInput 24 = .ok (.ireturn, 1) := by decide +kernel
theorem dX3_inputWord_0 : decode cX3_inputWord 0 = .ok (.aload_n 0, 1) := by decide +kernel
theorem dX3_inputWord_1 : decode cX3_inputWord 1 = .ok (.iload_n 1, 1) := by decide +kernel
theorem dX3_inputWord_2 : decode cX3_inputWord 2 = .ok (.invokevirtual 72, 3) := by decide +kernel
theorem dX3_inputWord_5 : decode cX3_inputWord 5 = .ok (.ifCond .eq 12, 3) := by decide +kernel
theorem dX3_inputWord_8 : decode cX3_inputWord 8 = .ok (.aload_n 0, 1) := by decide +kernel
theorem dX3_inputWord_9 : decode cX3_inputWord 9 = .ok (.getfield 24, 3) := by decide +kernel
theorem dX3_inputWord_12 : decode cX3_inputWord 12 = .ok (.iload_n 1, 1) := by decide +kernel
theorem dX3_inputWord_13 : decode cX3_inputWord 13 = .ok (.iaload, 1) := by decide +kernel
theorem dX3_inputWord_14 : decode cX3_inputWord 14 = .ok (.goto 4, 3) := by decide +kernel
theorem dX3_inputWord_17 : decode cX3_inputWord 17 = .ok (.iconst 0, 1) := by decide +kernel
theorem dX3_inputWord_18 : decode cX3_inputWord 18 = .ok (.ireturn, 1) := by decide +kernel
theorem dX3_inputSecret_0 : decode cX3_inputSecret 0 = .ok (.aload_n 0, 1) := by decide +kernel
theorem dX3_inputSecret_1 : decode cX3_inputSecret 1 = .ok (.iload_n 1, 1) := by decide +kernel
theorem dX3_inputSecret_2 : decode cX3_inputSecret 2 = .ok (.invokevirtual 72, 3) := by decide +kernel
theorem dX3_inputSecret_5 : decode cX3_inputSecret 5 = .ok (.ifCond .eq 16, 3) := by decide +kernel
theorem dX3_inputSecret_8 : decode cX3_inputSecret 8 = .ok (.aload_n 0, 1) := by decide +kernel
theorem dX3_inputSecret_9 : decode cX3_inputSecret 9 = .ok (.getfield 27, 3) := by decide +kernel
theorem dX3_inputSecret_12 : decode cX3_inputSecret 12 = .ok (.iload_n 1, 1) := by decide +kernel
theorem dX3_inputSecret_13 : decode cX3_inputSecret 13 = .ok (.baload, 1) := by decide +kernel
theorem dX3_inputSecret_14 : decode cX3_inputSecret 14 = .ok (.ifCond .eq 7, 3) := by decide +kernel
theorem dX3_inputSecret_17 : decode cX3_inputSecret 17 = .ok (.iconst 1, 1) := by decide +kernel
theorem dX3_inputSecret_18 : decode cX3_inputSecret 18 = .ok (.goto 4, 3) := by decide +kernel
theorem dX3_inputSecret_21 : decode cX3_inputSecret 21 = .ok (.iconst 0, 1) := by decide +kernel
theorem dX3_inputSecret_22 : decode cX3_inputSecret 22 = .ok (.ireturn, 1) := by decide +kernel
abbrev MX3_addInputs : aw_M := (yX3_addInputs, cX3_addInputs, 5, none)
theorem codX3_addInputs : Cond.code yX3_addInputs cX3_addInputs 5 none ∈ aw_T := aw_in 855 (by decide +kernel) rfl
theorem iniX3 : Cond.initialized RX3 ∈ aw_T := aw_in 118 (by decide +kernel) rfl
theorem insX3_addInputs : Cond.instanceMethod yX3_addInputs ∈ aw_T := aw_in 854 (by decide +kernel) rfl
theorem selX3_addInputs : Cond.selects RX3 yX3_addInputs yX3_addInputs ∈ aw_T := aw_in 22 (by decide +kernel) rfl
abbrev MX3_clear : aw_M := (yX3_clear, cX3_clear, 1, none)
theorem codX3_clear : Cond.code yX3_clear cX3_clear 1 none ∈ aw_T := aw_in 510 (by decide +kernel) rfl
theorem insX3_clear : Cond.instanceMethod yX3_clear ∈ aw_T := aw_in 508 (by decide +kernel) rfl
theorem selX3_clear : Cond.selects RX3 yX3_clear yX3_clear ∈ aw_T := aw_in 509 (by decide +kernel) rfl
abbrev MX3_declare : aw_M := (yX3_declare, cX3_declare, 5, (some .boolean))
theorem codX3_declare : Cond.code yX3_declare cX3_declare 5 (some .boolean) ∈ aw_T := aw_in 850 (by decide +kernel) rfl
theorem insX3_declare : Cond.instanceMethod yX3_declare ∈ aw_T := aw_in 848 (by decide +kernel) rfl
theorem selX3_declare : Cond.selects RX3 yX3_declare yX3_declare ∈ aw_T := aw_in 849 (by decide +kernel) rfl
abbrev MX3_find : aw_M := (yX3_find, cX3_find, 3, (some .int))
theorem codX3_find : Cond.code yX3_find cX3_find 3 (some .int) ∈ aw_T := aw_in 834 (by decide +kernel) rfl
theorem insX3_find : Cond.instanceMethod yX3_find ∈ aw_T := aw_in 832 (by decide +kernel) rfl
theorem selX3_find : Cond.selects RX3 yX3_find yX3_find ∈ aw_T := aw_in 833 (by decide +kernel) rfl
abbrev MX3_firstWord : aw_M := (yX3_firstWord, cX3_firstWord, 2, (some .int))
theorem codX3_firstWord : Cond.code yX3_firstWord cX3_firstWord 2 (some .int) ∈ aw_T := aw_in 990 (by decide +kernel) rfl
theorem insX3_firstWord : Cond.instanceMethod yX3_firstWord ∈ aw_T := aw_in 988 (by decide +kernel) rfl
theorem selX3_firstWord : Cond.selects RX3 yX3_firstWord yX3_firstWord ∈ aw_T := aw_in 989 (by decide +kernel) rfl
abbrev MX3_has : aw_M := (yX3_has, cX3_has, 2, (some .boolean))
theorem codX3_has : Cond.code yX3_has cX3_has 2 (some .boolean) ∈ aw_T := aw_in 876 (by decide +kernel) rfl
theorem insX3_has : Cond.instanceMethod yX3_has ∈ aw_T := aw_in 875 (by decide +kernel) rfl
theorem selX3_has : Cond.selects RX3 yX3_has yX3_has ∈ aw_T := aw_in 25 (by decide +kernel) rfl
abbrev MX3_hasInput : aw_M := (yX3_hasInput, cX3_hasInput, 2, (some .boolean))
theorem codX3_hasInput : Cond.code yX3_hasInput cX3_hasInput 2 (some .boolean) ∈ aw_T := aw_in 1166 (by decide +kernel) rfl
theorem insX3_hasInput : Cond.instanceMethod yX3_hasInput ∈ aw_T := aw_in 1164 (by decide +kernel) rfl
theorem selX3_hasInput : Cond.selects RX3 yX3_hasInput yX3_hasInput ∈ aw_T := aw_in 1165 (by decide +kernel) rfl
abbrev MX3_inputSecret : aw_M := (yX3_inputSecret, cX3_inputSecret, 2, (some .boolean))
theorem codX3_inputSecret : Cond.code yX3_inputSecret cX3_inputSecret 2 (some .boolean) ∈ aw_T := aw_in 1305 (by decide +kernel) rfl
theorem insX3_inputSecret : Cond.instanceMethod yX3_inputSecret ∈ aw_T := aw_in 1303 (by decide +kernel) rfl
theorem selX3_inputSecret : Cond.selects RX3 yX3_inputSecret yX3_inputSecret ∈ aw_T := aw_in 1304 (by decide +kernel) rfl
abbrev MX3_inputWord : aw_M := (yX3_inputWord, cX3_inputWord, 2, (some .int))
theorem codX3_inputWord : Cond.code yX3_inputWord cX3_inputWord 2 (some .int) ∈ aw_T := aw_in 1180 (by decide +kernel) rfl
theorem insX3_inputWord : Cond.instanceMethod yX3_inputWord ∈ aw_T := aw_in 1178 (by decide +kernel) rfl
theorem selX3_inputWord : Cond.selects RX3 yX3_inputWord yX3_inputWord ∈ aw_T := aw_in 1179 (by decide +kernel) rfl
abbrev MX3_inputs : aw_M := (yX3_inputs, cX3_inputs, 1, (some .int))
theorem codX3_inputs : Cond.code yX3_inputs cX3_inputs 1 (some .int) ∈ aw_T := aw_in 1150 (by decide +kernel) rfl
theorem insX3_inputs : Cond.instanceMethod yX3_inputs ∈ aw_T := aw_in 1148 (by decide +kernel) rfl
theorem selX3_inputs : Cond.selects RX3 yX3_inputs yX3_inputs ∈ aw_T := aw_in 1149 (by decide +kernel) rfl
abbrev MX3_isRow : aw_M := (yX3_isRow, cX3_isRow, 2, (some .boolean))
theorem codX3_isRow : Cond.code yX3_isRow cX3_isRow 2 (some .boolean) ∈ aw_T := aw_in 868 (by decide +kernel) rfl
theorem insX3_isRow : Cond.instanceMethod yX3_isRow ∈ aw_T := aw_in 866 (by decide +kernel) rfl
theorem selX3_isRow : Cond.selects RX3 yX3_isRow yX3_isRow ∈ aw_T := aw_in 867 (by decide +kernel) rfl
abbrev MX3_length : aw_M := (yX3_length, cX3_length, 2, (some .int))
theorem codX3_length : Cond.code yX3_length cX3_length 2 (some .int) ∈ aw_T := aw_in 872 (by decide +kernel) rfl
theorem insX3_length : Cond.instanceMethod yX3_length ∈ aw_T := aw_in 870 (by decide +kernel) rfl
theorem selX3_length : Cond.selects RX3 yX3_length yX3_length ∈ aw_T := aw_in 871 (by decide +kernel) rfl
abbrev MX3_publicInputs : aw_M := (yX3_publicInputs, cX3_publicInputs, 1, (some .int))
theorem codX3_publicInputs : Cond.code yX3_publicInputs cX3_publicInputs 1 (some .int) ∈ aw_T := aw_in 1154 (by decide +kernel) rfl
theorem insX3_publicInputs : Cond.instanceMethod yX3_publicInputs ∈ aw_T := aw_in 1152 (by decide +kernel) rfl
theorem selX3_publicInputs : Cond.selects RX3 yX3_publicInputs yX3_publicInputs ∈ aw_T := aw_in 1153 (by decide +kernel) rfl
abbrev MX3_secret : aw_M := (yX3_secret, cX3_secret, 2, (some .boolean))
theorem codX3_secret : Cond.code yX3_secret cX3_secret 2 (some .boolean) ∈ aw_T := aw_in 880 (by decide +kernel) rfl
theorem insX3_secret : Cond.instanceMethod yX3_secret ∈ aw_T := aw_in 878 (by decide +kernel) rfl
theorem selX3_secret : Cond.selects RX3 yX3_secret yX3_secret ∈ aw_T := aw_in 879 (by decide +kernel) rfl
abbrev MX3_size : aw_M := (yX3_size, cX3_size, 1, (some .int))
theorem codX3_size : Cond.code yX3_size cX3_size 1 (some .int) ∈ aw_T := aw_in 981 (by decide +kernel) rfl
theorem insX3_size : Cond.instanceMethod yX3_size ∈ aw_T := aw_in 979 (by decide +kernel) rfl
theorem selX3_size : Cond.selects RX3 yX3_size yX3_size ∈ aw_T := aw_in 980 (by decide +kernel) rfl
abbrev MX3_words : aw_M := (yX3_words, cX3_words, 1, (some .int))
theorem codX3_words : Cond.code yX3_words cX3_words 1 (some .int) ∈ aw_T := aw_in 1146 (by decide +kernel) rfl
theorem insX3_words : Cond.instanceMethod yX3_words ∈ aw_T := aw_in 1144 (by decide +kernel) rfl
theorem selX3_words : Cond.selects RX3 yX3_words yX3_words ∈ aw_T := aw_in 1145 (by decide +kernel) rfl
theorem hX3_w : ∀ w ∈ u_ws RX3 TX3 11, w ∈ aw_T := by
  show ∀ w ∈ [u_lay RX3 TX3 0, u_lay RX3 TX3 1, u_lay RX3 TX3 2, u_lay RX3 TX3 3, u_lay RX3 TX3 4, u_lay RX3 TX3 5, u_lay RX3 TX3 6, u_lay RX3 TX3 7, u_lay RX3 TX3 8, u_lay RX3 TX3 9, u_lay RX3 TX3 10], w ∈ aw_T
  exact List.forall_mem_cons.mpr ⟨aw_in 276 (by decide +kernel) rfl, List.forall_mem_cons.mpr ⟨aw_in 278 (by decide +kernel) rfl, List.forall_mem_cons.mpr ⟨aw_in 280 (by decide +kernel) rfl, List.forall_mem_cons.mpr ⟨aw_in 282 (by decide +kernel) rfl, List.forall_mem_cons.mpr ⟨aw_in 284 (by decide +kernel) rfl, List.forall_mem_cons.mpr ⟨aw_in 286 (by decide +kernel) rfl, List.forall_mem_cons.mpr ⟨aw_in 288 (by decide +kernel) rfl, List.forall_mem_cons.mpr ⟨aw_in 290 (by decide +kernel) rfl, List.forall_mem_cons.mpr ⟨aw_in 292 (by decide +kernel) rfl, List.forall_mem_cons.mpr ⟨aw_in 294 (by decide +kernel) rfl, List.forall_mem_cons.mpr ⟨aw_in 296 (by decide +kernel) rfl, fun _ h => absurd h List.not_mem_nil⟩⟩⟩⟩⟩⟩⟩⟩⟩⟩⟩
theorem hX3 : aw_C 3 RX3 TX3 11 tyX3 := ⟨rfl, hX3_w, tyX3_ok, nmX3⟩
theorem fX3_11 : aw_F RX3 11 3 1 (.array .int) true := aw_F.of hX3 1 (by decide) (aw_in 266 (by decide +kernel) rfl) rfl rfl rfl
theorem fX3_15 : aw_F RX3 15 3 2 (.array .int) true := aw_F.of hX3 2 (by decide) (aw_in 267 (by decide +kernel) rfl) rfl rfl rfl
theorem fX3_18 : aw_F RX3 18 3 3 (.array .int) true := aw_F.of hX3 3 (by decide) (aw_in 268 (by decide +kernel) rfl) rfl rfl rfl
theorem fX3_21 : aw_F RX3 21 3 4 (.array .int) true := aw_F.of hX3 4 (by decide) (aw_in 269 (by decide +kernel) rfl) rfl rfl rfl
theorem fX3_24 : aw_F RX3 24 3 5 (.array .int) true := aw_F.of hX3 5 (by decide) (aw_in 270 (by decide +kernel) rfl) rfl rfl rfl
theorem fX3_27 : aw_F RX3 27 3 6 (.array .boolean) true := aw_F.of hX3 6 (by decide) (aw_in 271 (by decide +kernel) rfl) rfl rfl rfl
theorem fX3_31 : aw_F RX3 31 3 0 (.object "QuietDesk$Tape") true := aw_F.of hX3 0 (by decide) (aw_in 265 (by decide +kernel) rfl) rfl rfl rfl
theorem fX3_35 : aw_F RX3 35 3 7 .int false := aw_F.of hX3 7 (by decide) (aw_in 272 (by decide +kernel) rfl) rfl rfl rfl
theorem fX3_39 : aw_F RX3 39 3 8 .int false := aw_F.of hX3 8 (by decide) (aw_in 273 (by decide +kernel) rfl) rfl rfl rfl
theorem fX3_42 : aw_F RX3 42 3 9 .int false := aw_F.of hX3 9 (by decide) (aw_in 274 (by decide +kernel) rfl) rfl rfl rfl
theorem fX3_45 : aw_F RX3 45 3 10 .int false := aw_F.of hX3 10 (by decide) (aw_in 275 (by decide +kernel) rfl) rfl rfl rfl
theorem qX3_54 : Cond.methodLink RX3 54 Lib.Math.max.name ∈ aw_T := aw_in 851 (by decide +kernel) rfl
theorem lX3_48 : aw_L RX3 48 MX8_sameName 2 := ⟨aw_in 835 (by decide +kernel) rfl, iniX8, codX8_sameName, ⟨by decide, by decide, by decide +kernel⟩, by decide⟩
theorem lX3_60 : aw_L RX3 60 MX3_addInputs 3 := ⟨aw_in 852 (by decide +kernel) rfl, iniX3, codX3_addInputs, ⟨by decide, by decide, by decide +kernel⟩, by decide⟩
theorem lX3_64 : aw_L RX3 64 MX3_has 1 := ⟨aw_in 873 (by decide +kernel) rfl, iniX3, codX3_has, ⟨by decide, by decide, by decide +kernel⟩, by decide⟩
theorem lX3_68 : aw_L RX3 68 MX3_length 1 := ⟨aw_in 869 (by decide +kernel) rfl, iniX3, codX3_length, ⟨by decide, by decide, by decide +kernel⟩, by decide⟩
theorem lX3_72 : aw_L RX3 72 MX3_hasInput 1 := ⟨aw_in 1181 (by decide +kernel) rfl, iniX3, codX3_hasInput, ⟨by decide, by decide, by decide +kernel⟩, by decide⟩
