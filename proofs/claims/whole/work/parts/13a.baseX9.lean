theorem dX9_read_0 : decode cX9_read 0 = .ok (.iload_n 1, 1) := by decide +kernel
theorem dX9_read_1 : decode cX9_read 1 = .ok (.aload_n 0, 1) := by decide +kernel
theorem dX9_read_2 : decode cX9_read 2 = .ok (.getfield 9, 3) := by decide +kernel
theorem dX9_read_5 : decode cX9_read 5 = .ok (.arraylength, 1) := by decide +kernel
theorem dX9_read_6 : decode cX9_read 6 = .ok (.if_icmp .lt 30, 3) := by decide +kernel
theorem dX9_read_9 : decode cX9_read 9 = .ok (.aload_n 0, 1) := by decide +kernel
theorem dX9_read_10 : decode cX9_read 10 = .ok (.iload_n 1, 1) := by decide +kernel
theorem dX9_read_11 : decode cX9_read 11 = .ok (.iconst 1, 1) := by decide +kernel
theorem dX9_read_12 : decode cX9_read 12 = .ok (.iadd, 1) := by decide +kernel
theorem dX9_read_13 : decode cX9_read 13 = .ok (.newarray .int, 2) := by decide +kernel
theorem dX9_read_15 : decode cX9_read 15 = .ok (.putfield 9, 3) := by decide +kernel
theorem dX9_read_18 : decode cX9_read 18 = .ok (.aload_n 0, 1) := by decide +kernel
theorem dX9_read_19 : decode cX9_read 19 = .ok (.iload_n 1, 1) := by decide +kernel
theorem dX9_read_20 : decode cX9_read 20 = .ok (.iconst 1, 1) := by decide +kernel
theorem dX9_read_21 : decode cX9_read 21 = .ok (.iadd, 1) := by decide +kernel
theorem dX9_read_22 : decode cX9_read 22 = .ok (.newarray .int, 2) := by decide +kernel
theorem dX9_read_24 : decode cX9_read 24 = .ok (.putfield 15, 3) := by decide +kernel
theorem dX9_read_27 : decode cX9_read 27 = .ok (.aload_n 0, 1) := by decide +kernel
theorem dX9_read_28 : decode cX9_read 28 = .ok (.iload_n 1, 1) := by decide +kernel
theorem dX9_read_29 : decode cX9_read 29 = .ok (.iconst 1, 1) := by decide +kernel
theorem dX9_read_30 : decode cX9_read 30 = .ok (.iadd, 1) := by decide +kernel
theorem dX9_read_31 : decode cX9_read 31 = .ok (.newarray .int, 2) := by decide +kernel
theorem dX9_read_33 : decode cX9_read 33 = .ok (.putfield 18, 3) := by decide +kernel
theorem dX9_read_36 : decode cX9_read 36 = .ok (.aload_n 0, 1) := by decide +kernel
theorem dX9_read_37 : decode cX9_read 37 = .ok (.iconst 0, 1) := by decide +kernel
theorem dX9_read_38 : decode cX9_read 38 = .ok (.putfield 25, 3) := by decide +kernel
theorem dX9_read_41 : decode cX9_read 41 = .ok (.aload_n 0, 1) := by decide +kernel
theorem dX9_read_42 : decode cX9_read 42 = .ok (.iconst 0, 1) := by decide +kernel
theorem dX9_read_43 : decode cX9_read 43 = .ok (.putfield 29, 3) := by decide +kernel
theorem dX9_read_46 : decode cX9_read 46 = .ok (.aload_n 0, 1) := by decide +kernel
theorem dX9_read_47 : decode cX9_read 47 = .ok (.iconst 0, 1) := by decide +kernel
theorem dX9_read_48 : decode cX9_read 48 = .ok (.putfield 32, 3) := by decide +kernel
theorem dX9_read_51 : decode cX9_read 51 = .ok (.iconst 2, 1) := by decide +kernel
theorem dX9_read_52 : decode cX9_read 52 = .ok (.istore_n 2, 1) := by decide +kernel
theorem dX9_read_53 : decode cX9_read 53 = .ok (.aload_n 0, 1) := by decide +kernel
theorem dX9_read_54 : decode cX9_read 54 = .ok (.getfield 25, 3) := by decide +kernel
theorem dX9_read_57 : decode cX9_read 57 = .ok (.aload_n 0, 1) := by decide +kernel
theorem dX9_read_58 : decode cX9_read 58 = .ok (.getfield 9, 3) := by decide +kernel
theorem dX9_read_61 : decode cX9_read 61 = .ok (.arraylength, 1) := by decide +kernel
theorem dX9_read_62 : decode cX9_read 62 = .ok (.if_icmp .ge 97, 3) := by decide +kernel
theorem dX9_read_65 : decode cX9_read 65 = .ok (.iload_n 2, 1) := by decide +kernel
theorem dX9_read_66 : decode cX9_read 66 = .ok (.ifCond .eq 93, 3) := by decide +kernel
theorem dX9_read_69 : decode cX9_read 69 = .ok (.iload_n 2, 1) := by decide +kernel
theorem dX9_read_70 : decode cX9_read 70 = .ok (.iconst 1, 1) := by decide +kernel
theorem dX9_read_71 : decode cX9_read 71 = .ok (.if_icmp .eq 88, 3) := by decide +kernel
theorem dX9_read_74 : decode cX9_read 74 = .ok (.aload_n 0, 1) := by decide +kernel
theorem dX9_read_75 : decode cX9_read 75 = .ok (.aload_n 0, 1) := by decide +kernel
theorem dX9_read_76 : decode cX9_read 76 = .ok (.getfield 21, 3) := by decide +kernel
theorem dX9_read_79 : decode cX9_read 79 = .ok (.aload_n 0, 1) := by decide +kernel
theorem dX9_read_80 : decode cX9_read 80 = .ok (.getfield 32, 3) := by decide +kernel
theorem dX9_read_83 : decode cX9_read 83 = .ok (.invokevirtual 35, 3) := by decide +kernel
theorem dX9_read_86 : decode cX9_read 86 = .ok (.putfield 41, 3) := by decide +kernel
theorem dX9_read_89 : decode cX9_read 89 = .ok (.aload_n 0, 1) := by decide +kernel
theorem dX9_read_90 : decode cX9_read 90 = .ok (.iconst 0, 1) := by decide +kernel
theorem dX9_read_91 : decode cX9_read 91 = .ok (.putfield 44, 3) := by decide +kernel
theorem dX9_read_94 : decode cX9_read 94 = .ok (.aload_n 0, 1) := by decide +kernel
theorem dX9_read_95 : decode cX9_read 95 = .ok (.aload_n 0, 1) := by decide +kernel
theorem dX9_read_96 : decode cX9_read 96 = .ok (.getfield 21, 3) := by decide +kernel
theorem dX9_read_99 : decode cX9_read 99 = .ok (.aload_n 0, 1) := by decide +kernel
theorem dX9_read_100 : decode cX9_read 100 = .ok (.getfield 41, 3) := by decide +kernel
theorem dX9_read_103 : decode cX9_read 103 = .ok (.invokevirtual 47, 3) := by decide +kernel
theorem dX9_read_106 : decode cX9_read 106 = .ok (.invokevirtual 50, 3) := by decide +kernel
theorem dX9_read_109 : decode cX9_read 109 = .ok (.istore_n 2, 1) := by decide +kernel
theorem dX9_read_110 : decode cX9_read 110 = .ok (.aload_n 0, 1) := by decide +kernel
theorem dX9_read_111 : decode cX9_read 111 = .ok (.getfield 9, 3) := by decide +kernel
theorem dX9_read_114 : decode cX9_read 114 = .ok (.aload_n 0, 1) := by decide +kernel
theorem dX9_read_115 : decode cX9_read 115 = .ok (.getfield 25, 3) := by decide +kernel
theorem dX9_read_118 : decode cX9_read 118 = .ok (.iload_n 2, 1) := by decide +kernel
theorem dX9_read_119 : decode cX9_read 119 = .ok (.iastore, 1) := by decide +kernel
theorem dX9_read_120 : decode cX9_read 120 = .ok (.aload_n 0, 1) := by decide +kernel
theorem dX9_read_121 : decode cX9_read 121 = .ok (.getfield 15, 3) := by decide +kernel
theorem dX9_read_124 : decode cX9_read 124 = .ok (.aload_n 0, 1) := by decide +kernel
theorem dX9_read_125 : decode cX9_read 125 = .ok (.getfield 25, 3) := by decide +kernel
theorem dX9_read_128 : decode cX9_read 128 = .ok (.aload_n 0, 1) := by decide +kernel
theorem dX9_read_129 : decode cX9_read 129 = .ok (.getfield 41, 3) := by decide +kernel
theorem dX9_read_132 : decode cX9_read 132 = .ok (.iastore, 1) := by decide +kernel
theorem dX9_read_133 : decode cX9_read 133 = .ok (.aload_n 0, 1) := by decide +kernel
theorem dX9_read_134 : decode cX9_read 134 = .ok (.getfield 18, 3) := by decide +kernel
theorem dX9_read_137 : decode cX9_read 137 = .ok (.aload_n 0, 1) := by decide +kernel
theorem dX9_read_138 : decode cX9_read 138 = .ok (.getfield 25, 3) := by decide +kernel
theorem dX9_read_141 : decode cX9_read 141 = .ok (.aload_n 0, 1) := by decide +kernel
theorem dX9_read_142 : decode cX9_read 142 = .ok (.getfield 44, 3) := by decide +kernel
theorem dX9_read_145 : decode cX9_read 145 = .ok (.iastore, 1) := by decide +kernel
theorem dX9_read_146 : decode cX9_read 146 = .ok (.aload_n 0, 1) := by decide +kernel
theorem dX9_read_147 : decode cX9_read 147 = .ok (.dup, 1) := by decide +kernel
theorem dX9_read_148 : decode cX9_read 148 = .ok (.getfield 25, 3) := by decide +kernel
theorem dX9_read_151 : decode cX9_read 151 = .ok (.iconst 1, 1) := by decide +kernel
theorem dX9_read_152 : decode cX9_read 152 = .ok (.iadd, 1) := by decide +kernel
theorem dX9_read_153 : decode cX9_read 153 = .ok (.putfield 25, 3) := by decide +kernel
theorem dX9_read_156 : decode cX9_read 156 = .ok (.goto (-103), 3) := by decide +kernel
theorem dX9_read_159 : decode cX9_read 159 = .ok (.return_, 1) := by decide +kernel
theorem dX9_kind_0 : decode cX9_kind 0 = .ok (.aload_n 0, 1) := by decide +kernel
theorem dX9_kind_1 : decode cX9_kind 1 = .ok (.getfield 29, 3) := by decide +kernel
theorem dX9_kind_4 : decode cX9_kind 4 = .ok (.aload_n 0, 1) := by decide +kernel
theorem dX9_kind_5 : decode cX9_kind 5 = .ok (.getfield 25, 3) := by decide +kernel
theorem dX9_kind_8 : decode cX9_kind 8 = .ok (.if_icmp .ge 27, 3) := by decide +kernel
theorem dX9_kind_11 : decode cX9_kind 11 = .ok (.aload_n 0, 1) := by decide +kernel
theorem dX9_kind_12 : decode cX9_kind 12 = .ok (.getfield 29, 3) := by decide +kernel
theorem dX9_kind_15 : decode cX9_kind 15 = .ok (.aload_n 0, 1) := by decide +kernel
theorem dX9_kind_16 : decode cX9_kind 16 = .ok (.getfield 9, 3) := by decide +kernel
theorem dX9_kind_19 : decode cX9_kind 19 = .ok (.arraylength, 1) := by decide +kernel
theorem dX9_kind_20 : decode cX9_kind 20 = .ok (.if_icmp .ge 15, 3) := by decide +kernel
theorem dX9_kind_23 : decode cX9_kind 23 = .ok (.aload_n 0, 1) := by decide +kernel
theorem dX9_kind_24 : decode cX9_kind 24 = .ok (.getfield 9, 3) := by decide +kernel
theorem dX9_kind_27 : decode cX9_kind 27 = .ok (.aload_n 0, 1) := by decide +kernel
theorem dX9_kind_28 : decode cX9_kind 28 = .ok (.getfield 29, 3) := by decide +kernel
theorem dX9_kind_31 : decode cX9_kind 31 = .ok (.iaload, 1) := by decide +kernel
theorem dX9_kind_32 : decode cX9_kind 32 = .ok (.goto 4, 3) := by decide +kernel
theorem dX9_kind_35 : decode cX9_kind 35 = .ok (.iconst 0, 1) := by decide +kernel
theorem dX9_kind_36 : decode cX9_kind 36 = .ok (.ireturn, 1) := by decide +kernel
theorem dX9_place_0 : decode cX9_place 0 = .ok (.aload_n 0, 1) := by decide +kernel
theorem dX9_place_1 : decode cX9_place 1 = .ok (.getfield 29, 3) := by decide +kernel
theorem dX9_place_4 : decode cX9_place 4 = .ok (.aload_n 0, 1) := by decide +kernel
theorem dX9_place_5 : decode cX9_place 5 = .ok (.getfield 25, 3) := by decide +kernel
theorem dX9_place_8 : decode cX9_place 8 = .ok (.if_icmp .ge 27, 3) := by decide +kernel
theorem dX9_place_11 : decode cX9_place 11 = .ok (.aload_n 0, 1) := by decide +kernel
theorem dX9_place_12 : decode cX9_place 12 = .ok (.getfield 29, 3) := by decide +kernel
theorem dX9_place_15 : decode cX9_place 15 = .ok (.aload_n 0, 1) := by decide +kernel
theorem dX9_place_16 : decode cX9_place 16 = .ok (.getfield 15, 3) := by decide +kernel
theorem dX9_place_19 : decode cX9_place 19 = .ok (.arraylength, 1) := by decide +kernel
theorem dX9_place_20 : decode cX9_place 20 = .ok (.if_icmp .ge 15, 3) := by decide +kernel
theorem dX9_place_23 : decode cX9_place 23 = .ok (.aload_n 0, 1) := by decide +kernel
theorem dX9_place_24 : decode cX9_place 24 = .ok (.getfield 15, 3) := by decide +kernel
theorem dX9_place_27 : decode cX9_place 27 = .ok (.aload_n 0, 1) := by decide +kernel
theorem dX9_place_28 : decode cX9_place 28 = .ok (.getfield 29, 3) := by decide +kernel
theorem dX9_place_31 : decode cX9_place 31 = .ok (.iaload, 1) := by decide +kernel
theorem dX9_place_32 : decode cX9_place 32 = .ok (.goto 4, 3) := by decide +kernel
theorem dX9_place_35 : decode cX9_place 35 = .ok (.iconst (-1), 1) := by decide +kernel
theorem dX9_place_36 : decode cX9_place 36 = .ok (.ireturn, 1) := by decide +kernel
theorem dX9_number_0 : decode cX9_number 0 = .ok (.aload_n 0, 1) := by decide +kernel
theorem dX9_number_1 : decode cX9_number 1 = .ok (.getfield 29, 3) := by decide +kernel
theorem dX9_number_4 : decode cX9_number 4 = .ok (.aload_n 0, 1) := by decide +kernel
theorem dX9_number_5 : decode cX9_number 5 = .ok (.getfield 25, 3) := by decide +kernel
theorem dX9_number_8 : decode cX9_number 8 = .ok (.if_icmp .ge 27, 3) := by decide +kernel
theorem dX9_number_11 : decode cX9_number 11 = .ok (.aload_n 0, 1) := by decide +kernel
theorem dX9_number_12 : decode cX9_number 12 = .ok (.getfield 29, 3) := by decide +kernel
theorem dX9_number_15 : decode cX9_number 15 = .ok (.aload_n 0, 1) := by decide +kernel
theorem dX9_number_16 : decode cX9_number 16 = .ok (.getfield 18, 3) := by decide +kernel
theorem dX9_number_19 : decode cX9_number 19 = .ok (.arraylength, 1) := by decide +kernel
theorem dX9_number_20 : decode cX9_number 20 = .ok (.if_icmp .ge 15, 3) := by decide +kernel
theorem dX9_number_23 : decode cX9_number 23 = .ok (.aload_n 0, 1) := by decide +kernel
theorem dX9_number_24 : decode cX9_number 24 = .ok (.getfield 18, 3) := by decide +kernel
theorem dX9_number_27 : decode cX9_number 27 = .ok (.aload_n 0, 1) := by decide +kernel
theorem dX9_number_28 : decode cX9_number 28 = .ok (.getfield 29, 3) := by decide +kernel
theorem dX9_number_31 : decode cX9_number 31 = .ok (.iaload, 1) := by decide +kernel
theorem dX9_number_32 : decode cX9_number 32 = .ok (.goto 4, 3) := by decide +kernel
theorem dX9_number_35 : decode cX9_number 35 = .ok (.iconst 0, 1) := by decide +kernel
theorem dX9_number_36 : decode cX9_number 36 = .ok (.ireturn, 1) := by decide +kernel
theorem dX9_next_0 : decode cX9_next 0 = .ok (.aload_n 0, 1) := by decide +kernel
theorem dX9_next_1 : decode cX9_next 1 = .ok (.aload_n 0, 1) := by decide +kernel
theorem dX9_next_2 : decode cX9_next 2 = .ok (.getfield 29, 3) := by decide +kernel
theorem dX9_next_5 : decode cX9_next 5 = .ok (.iconst 1, 1) := by decide +kernel
theorem dX9_next_6 : decode cX9_next 6 = .ok (.iadd, 1) := by decide +kernel
theorem dX9_next_7 : decode cX9_next 7 = .ok (.aload_n 0, 1) := by decide +kernel
theorem dX9_next_8 : decode cX9_next 8 = .ok (.getfield 25, 3) := by decide +kernel
theorem dX9_next_11 : decode cX9_next 11 = .ok (.invokestatic 53, 3) := by decide +kernel
theorem dX9_next_14 : decode cX9_next 14 = .ok (.putfield 29, 3) := by decide +kernel
theorem dX9_next_17 : decode cX9_next 17 = .ok (.return_, 1) := by decide +kernel
theorem dX9_readOne_0 : decode cX9_readOne 0 = .ok (.iload_n 1, 1) := by decide +kernel
theorem dX9_readOne_1 : decode cX9_readOne 1 = .ok (.iconst (-1), 1) := by decide +kernel
theorem dX9_readOne_2 : decode cX9_readOne 2 = .ok (.if_icmp .ne 5, 3) := by decide +kernel
theorem dX9_readOne_5 : decode cX9_readOne 5 = .ok (.iconst 0, 1) := by decide +kernel
theorem dX9_readOne_6 : decode cX9_readOne 6 = .ok (.ireturn, 1) := by decide +kernel
theorem dX9_readOne_7 : decode cX9_readOne 7 = .ok (.iload_n 1, 1) := by decide +kernel
theorem dX9_readOne_8 : decode cX9_readOne 8 = .ok (.invokestatic 59, 3) := by decide +kernel
theorem dX9_readOne_11 : decode cX9_readOne 11 = .ok (.ifCond .eq 41, 3) := by decide +kernel
theorem dX9_readOne_14 : decode cX9_readOne 14 = .ok (.aload_n 0, 1) := by decide +kernel
theorem dX9_readOne_15 : decode cX9_readOne 15 = .ok (.aload_n 0, 1) := by decide +kernel
theorem dX9_readOne_16 : decode cX9_readOne 16 = .ok (.getfield 21, 3) := by decide +kernel
theorem dX9_readOne_19 : decode cX9_readOne 19 = .ok (.aload_n 0, 1) := by decide +kernel
theorem dX9_readOne_20 : decode cX9_readOne 20 = .ok (.getfield 41, 3) := by decide +kernel
theorem dX9_readOne_23 : decode cX9_readOne 23 = .ok (.invokevirtual 63, 3) := by decide +kernel
theorem dX9_readOne_26 : decode cX9_readOne 26 = .ok (.putfield 32, 3) := by decide +kernel
theorem dX9_readOne_29 : decode cX9_readOne 29 = .ok (.aload_n 0, 1) := by decide +kernel
theorem dX9_readOne_30 : decode cX9_readOne 30 = .ok (.getfield 32, 3) := by decide +kernel
theorem dX9_readOne_33 : decode cX9_readOne 33 = .ok (.aload_n 0, 1) := by decide +kernel
theorem dX9_readOne_34 : decode cX9_readOne 34 = .ok (.getfield 41, 3) := by decide +kernel
theorem dX9_readOne_37 : decode cX9_readOne 37 = .ok (.isub, 1) := by decide +kernel
theorem dX9_readOne_38 : decode cX9_readOne 38 = .ok (.bipush 10, 2) := by decide +kernel
theorem dX9_readOne_40 : decode cX9_readOne 40 = .ok (.if_icmp .le 7, 3) := by decide +kernel
theorem dX9_readOne_43 : decode cX9_readOne 43 = .ok (.iconst 1, 1) := by decide +kernel
theorem dX9_readOne_44 : decode cX9_readOne 44 = .ok (.goto 7, 3) := by decide +kernel
theorem dX9_readOne_47 : decode cX9_readOne 47 = .ok (.aload_n 0, 1) := by decide +kernel
theorem dX9_readOne_48 : decode cX9_readOne 48 = .ok (.invokevirtual 66, 3) := by decide +kernel
theorem dX9_readOne_51 : decode cX9_readOne 51 = .ok (.ireturn, 1) := by decide +kernel
theorem dX9_readOne_52 : decode cX9_readOne 52 = .ok (.iload_n 1, 1) := by decide +kernel
theorem dX9_readOne_53 : decode cX9_readOne 53 = .ok (.invokestatic 70, 3) := by decide +kernel
theorem dX9_readOne_56 : decode cX9_readOne 56 = .ok (.ifCond .eq 23, 3) := by decide +kernel
theorem dX9_readOne_59 : decode cX9_readOne 59 = .ok (.aload_n 0, 1) := by decide +kernel
theorem dX9_readOne_60 : decode cX9_readOne 60 = .ok (.aload_n 0, 1) := by decide +kernel
theorem dX9_readOne_61 : decode cX9_readOne 61 = .ok (.getfield 21, 3) := by decide +kernel
theorem dX9_readOne_64 : decode cX9_readOne 64 = .ok (.aload_n 0, 1) := by decide +kernel
theorem dX9_readOne_65 : decode cX9_readOne 65 = .ok (.getfield 41, 3) := by decide +kernel
theorem dX9_readOne_68 : decode cX9_readOne 68 = .ok (.invokevirtual 73, 3) := by decide +kernel
theorem dX9_readOne_71 : decode cX9_readOne 71 = .ok (.putfield 32, 3) := by decide +kernel
theorem dX9_readOne_74 : decode cX9_readOne 74 = .ok (.aload_n 0, 1) := by decide +kernel
theorem dX9_readOne_75 : decode cX9_readOne 75 = .ok (.invokevirtual 76, 3) := by decide +kernel
theorem dX9_readOne_78 : decode cX9_readOne 78 = .ok (.ireturn, 1) := by decide +kernel
theorem dX9_readOne_79 : decode cX9_readOne 79 = .ok (.iload_n 1, 1) := by decide +kernel
theorem dX9_readOne_80 : decode cX9_readOne 80 = .ok (.aload_n 0, 1) := by decide +kernel
theorem dX9_readOne_81 : decode cX9_readOne 81 = .ok (.getfield 21, 3) := by decide +kernel
theorem dX9_readOne_84 : decode cX9_readOne 84 = .ok (.aload_n 0, 1) := by decide +kernel
theorem dX9_readOne_85 : decode cX9_readOne 85 = .ok (.getfield 41, 3) := by decide +kernel
theorem dX9_readOne_88 : decode cX9_readOne 88 = .ok (.iconst 1, 1) := by decide +kernel
theorem dX9_readOne_89 : decode cX9_readOne 89 = .ok (.iadd, 1) := by decide +kernel
theorem dX9_readOne_90 : decode cX9_readOne 90 = .ok (.invokevirtual 47, 3) := by decide +kernel
theorem dX9_readOne_93 : decode cX9_readOne 93 = .ok (.invokestatic 79, 3) := by decide +kernel
theorem dX9_readOne_96 : decode cX9_readOne 96 = .ok (.istore_n 2, 1) := by decide +kernel
theorem dX9_readOne_97 : decode cX9_readOne 97 = .ok (.aload_n 0, 1) := by decide +kernel
theorem dX9_readOne_98 : decode cX9_readOne 98 = .ok (.aload_n 0, 1) := by decide +kernel
theorem dX9_readOne_99 : decode cX9_readOne 99 = .ok (.getfield 41, 3) := by decide +kernel
theorem dX9_readOne_102 : decode cX9_readOne 102 = .ok (.iload_n 2, 1) := by decide +kernel
theorem dX9_readOne_103 : decode cX9_readOne 103 = .ok (.iconst 1, 1) := by decide +kernel
theorem dX9_readOne_104 : decode cX9_readOne 104 = .ok (.if_icmp .ne 7, 3) := by decide +kernel
theorem dX9_readOne_107 : decode cX9_readOne 107 = .ok (.iconst 1, 1) := by decide +kernel
theorem dX9_readOne_108 : decode cX9_readOne 108 = .ok (.goto 4, 3) := by decide +kernel
theorem dX9_readOne_111 : decode cX9_readOne 111 = .ok (.iconst 2, 1) := by decide +kernel
theorem dX9_readOne_112 : decode cX9_readOne 112 = .ok (.iadd, 1) := by decide +kernel
theorem dX9_readOne_113 : decode cX9_readOne 113 = .ok (.putfield 32, 3) := by decide +kernel
theorem dX9_readOne_116 : decode cX9_readOne 116 = .ok (.iload_n 2, 1) := by decide +kernel
theorem dX9_readOne_117 : decode cX9_readOne 117 = .ok (.iconst 1, 1) := by decide +kernel
theorem dX9_readOne_118 : decode cX9_readOne 118 = .ok (.if_icmp .ne 15, 3) := by decide +kernel
theorem dX9_readOne_121 : decode cX9_readOne 121 = .ok (.ldc 82, 2) := by decide +kernel
theorem dX9_readOne_123 : decode cX9_readOne 123 = .ok (.iload_n 1, 1) := by decide +kernel
theorem dX9_readOne_124 : decode cX9_readOne 124 = .ok (.i2c, 1) := by decide +kernel
theorem dX9_readOne_125 : decode cX9_readOne 125 = .ok (.invokevirtual 84, 3) := by decide +kernel
theorem dX9_readOne_128 : decode cX9_readOne 128 = .ok (.ifCond .lt 5, 3) := by decide +kernel
theorem dX9_readOne_131 : decode cX9_readOne 131 = .ok (.iload_n 1, 1) := by decide +kernel
theorem dX9_readOne_132 : decode cX9_readOne 132 = .ok (.ireturn, 1) := by decide +kernel
theorem dX9_readOne_133 : decode cX9_readOne 133 = .ok (.iload_n 2, 1) := by decide +kernel
theorem dX9_readOne_134 : decode cX9_readOne 134 = .ok (.ireturn, 1) := by decide +kernel
theorem dX9_wordOrName_0 : decode cX9_wordOrName 0 = .ok (.aload_n 0, 1) := by decide +kernel
theorem dX9_wordOrName_1 : decode cX9_wordOrName 1 = .ok (.ldc 89, 2) := by decide +kernel
theorem dX9_wordOrName_3 : decode cX9_wordOrName 3 = .ok (.invokevirtual 91, 3) := by decide +kernel
theorem dX9_wordOrName_6 : decode cX9_wordOrName 6 = .ok (.ifCond .eq 5, 3) := by decide +kernel
theorem dX9_wordOrName_9 : decode cX9_wordOrName 9 = .ok (.iconst 4, 1) := by decide +kernel
theorem dX9_wordOrName_10 : decode cX9_wordOrName 10 = .ok (.ireturn, 1) := by decide +kernel
theorem dX9_wordOrName_11 : decode cX9_wordOrName 11 = .ok (.aload_n 0, 1) := by decide +kernel
theorem dX9_wordOrName_12 : decode cX9_wordOrName 12 = .ok (.ldc 95, 2) := by decide +kernel
theorem dX9_wordOrName_14 : decode cX9_wordOrName 14 = .ok (.invokevirtual 91, 3) := by decide +kernel
theorem dX9_wordOrName_17 : decode cX9_wordOrName 17 = .ok (.ifCond .eq 5, 3) := by decide +kernel
theorem dX9_wordOrName_20 : decode cX9_wordOrName 20 = .ok (.iconst 5, 1) := by decide +kernel
theorem dX9_wordOrName_21 : decode cX9_wordOrName 21 = .ok (.ireturn, 1) := by decide +kernel
theorem dX9_wordOrName_22 : decode cX9_wordOrName 22 = .ok (.aload_n 0, 1) := by decide +kernel
theorem dX9_wordOrName_23 : decode cX9_wordOrName 23 = .ok (.ldc 97, 2) := by decide +kernel
theorem dX9_wordOrName_25 : decode cX9_wordOrName 25 = .ok (.invokevirtual 91, 3) := by decide +kernel
theorem dX9_wordOrName_28 : decode cX9_wordOrName 28 = .ok (.ifCond .eq 6, 3) := by decide +kernel
theorem dX9_wordOrName_31 : decode cX9_wordOrName 31 = .ok (.bipush 6, 2) := by decide +kernel
theorem dX9_wordOrName_33 : decode cX9_wordOrName 33 = .ok (.ireturn, 1) := by decide +kernel
theorem dX9_wordOrName_34 : decode cX9_wordOrName 34 = .ok (.aload_n 0, 1) := by decide +kernel
theorem dX9_wordOrName_35 : decode cX9_wordOrName 35 = .ok (.ldc 99, 2) := by decide +kernel
theorem dX9_wordOrName_37 : decode cX9_wordOrName 37 = .ok (.invokevirtual 91, 3) := by decide +kernel
theorem dX9_wordOrName_40 : decode cX9_wordOrName 40 = .ok (.ifCond .eq 6, 3) := by decide +kernel
theorem dX9_wordOrName_43 : decode cX9_wordOrName 43 = .ok (.bipush 7, 2) := by decide +kernel
theorem dX9_wordOrName_45 : decode cX9_wordOrName 45 = .ok (.ireturn, 1) := by decide +kernel
theorem dX9_wordOrName_46 : decode cX9_wordOrName 46 = .ok (.aload_n 0, 1) := by decide +kernel
theorem dX9_wordOrName_47 : decode cX9_wordOrName 47 = .ok (.ldc 101, 2) := by decide +kernel
theorem dX9_wordOrName_49 : decode cX9_wordOrName 49 = .ok (.invokevirtual 91, 3) := by decide +kernel
theorem dX9_wordOrName_52 : decode cX9_wordOrName 52 = .ok (.ifCond .eq 6, 3) := by decide +kernel
theorem dX9_wordOrName_55 : decode cX9_wordOrName 55 = .ok (.bipush 8, 2) := by decide +kernel
theorem dX9_wordOrName_57 : decode cX9_wordOrName 57 = .ok (.ireturn, 1) := by decide +kernel
theorem dX9_wordOrName_58 : decode cX9_wordOrName 58 = .ok (.aload_n 0, 1) := by decide +kernel
theorem dX9_wordOrName_59 : decode cX9_wordOrName 59 = .ok (.ldc 103, 2) := by decide +kernel
theorem dX9_wordOrName_61 : decode cX9_wordOrName 61 = .ok (.invokevirtual 91, 3) := by decide +kernel
theorem dX9_wordOrName_64 : decode cX9_wordOrName 64 = .ok (.ifCond .eq 6, 3) := by decide +kernel
theorem dX9_wordOrName_67 : decode cX9_wordOrName 67 = .ok (.bipush 9, 2) := by decide +kernel
theorem dX9_wordOrName_69 : decode cX9_wordOrName 69 = .ok (.ireturn, 1) := by decide +kernel
theorem dX9_wordOrName_70 : decode cX9_wordOrName 70 = .ok (.aload_n 0, 1) := by decide +kernel
theorem dX9_wordOrName_71 : decode cX9_wordOrName 71 = .ok (.ldc 105, 2) := by decide +kernel
theorem dX9_wordOrName_73 : decode cX9_wordOrName 73 = .ok (.invokevirtual 91, 3) := by decide +kernel
theorem dX9_wordOrName_76 : decode cX9_wordOrName 76 = .ok (.ifCond .eq 8, 3) := by decide +kernel
theorem dX9_wordOrName_79 : decode cX9_wordOrName 79 = .ok (.bipush 10, 2) := by decide +kernel
theorem dX9_wordOrName_81 : decode cX9_wordOrName 81 = .ok (.goto 4, 3) := by decide +kernel
theorem dX9_wordOrName_84 : decode cX9_wordOrName 84 = .ok (.iconst 2, 1) := by decide +kernel
theorem dX9_wordOrName_85 : decode cX9_wordOrName 85 = .ok (.ireturn, 1) := by decide +kernel
theorem dX9_isWord_0 : decode cX9_isWord 0 = .ok (.aload_n 0, 1) := by decide +kernel
theorem dX9_isWord_1 : decode cX9_isWord 1 = .ok (.getfield 21, 3) := by decide +kernel
theorem dX9_isWord_4 : decode cX9_isWord 4 = .ok (.aload_n 0, 1) := by decide +kernel
theorem dX9_isWord_5 : decode cX9_isWord 5 = .ok (.getfield 41, 3) := by decide +kernel
theorem dX9_isWord_8 : decode cX9_isWord 8 = .ok (.aload_n 0, 1) := by decide +kernel
theorem dX9_isWord_9 : decode cX9_isWord 9 = .ok (.getfield 32, 3) := by decide +kernel
theorem dX9_isWord_12 : decode cX9_isWord 12 = .ok (.aload_n 1, 1) := by decide +kernel
theorem dX9_isWord_13 : decode cX9_isWord 13 = .ok (.invokevirtual 107, 3) := by decide +kernel
theorem dX9_isWord_16 : decode cX9_isWord 16 = .ok (.ireturn, 1) := by decide +kernel
theorem dX9_readNumber_0 : decode cX9_readNumber 0 = .ok (.lconst 0, 1) := by decide +kernel
theorem dX9_readNumber_1 : decode cX9_readNumber 1 = .ok (.lstore_n 1, 1) := by decide +kernel
theorem dX9_readNumber_2 : decode cX9_readNumber 2 = .ok (.aload_n 0, 1) := by decide +kernel
theorem dX9_readNumber_3 : decode cX9_readNumber 3 = .ok (.getfield 41, 3) := by decide +kernel
theorem dX9_readNumber_6 : decode cX9_readNumber 6 = .ok (.istore_n 3, 1) := by decide +kernel
theorem dX9_readNumber_7 : decode cX9_readNumber 7 = .ok (.iload_n 3, 1) := by decide +kernel
theorem dX9_readNumber_8 : decode cX9_readNumber 8 = .ok (.aload_n 0, 1) := by decide +kernel
theorem dX9_readNumber_9 : decode cX9_readNumber 9 = .ok (.getfield 32, 3) := by decide +kernel
theorem dX9_readNumber_12 : decode cX9_readNumber 12 = .ok (.if_icmp .ge 34, 3) := by decide +kernel
theorem dX9_readNumber_15 : decode cX9_readNumber 15 = .ok (.lload_n 1, 1) := by decide +kernel
theorem dX9_readNumber_16 : decode cX9_readNumber 16 = .ok (.ldc2_w 111, 3) := by decide +kernel
theorem dX9_readNumber_19 : decode cX9_readNumber 19 = .ok (.lmul, 1) := by decide +kernel
theorem dX9_readNumber_20 : decode cX9_readNumber 20 = .ok (.aload_n 0, 1) := by decide +kernel
theorem dX9_readNumber_21 : decode cX9_readNumber 21 = .ok (.getfield 21, 3) := by decide +kernel
theorem dX9_readNumber_24 : decode cX9_readNumber 24 = .ok (.iload_n 3, 1) := by decide +kernel
theorem dX9_readNumber_25 : decode cX9_readNumber 25 = .ok (.invokevirtual 47, 3) := by decide +kernel
theorem dX9_readNumber_28 : decode cX9_readNumber 28 = .ok (.bipush 48, 2) := by decide +kernel
theorem dX9_readNumber_30 : decode cX9_readNumber 30 = .ok (.isub, 1) := by decide +kernel
theorem dX9_readNumber_31 : decode cX9_readNumber 31 = .ok (.i2l, 1) := by decide +kernel
theorem dX9_readNumber_32 : decode cX9_readNumber 32 = .ok (.ladd, 1) := by decide +kernel
theorem dX9_readNumber_33 : decode cX9_readNumber 33 = .ok (.ldc2_w 113, 3) := by decide +kernel
theorem dX9_readNumber_36 : decode cX9_readNumber 36 = .ok (.invokestatic 115, 3) := by decide +kernel
theorem dX9_readNumber_39 : decode cX9_readNumber 39 = .ok (.lstore_n 1, 1) := by decide +kernel
theorem dX9_readNumber_40 : decode cX9_readNumber 40 = .ok (.iinc 3 1, 3) := by decide +kernel
theorem dX9_readNumber_43 : decode cX9_readNumber 43 = .ok (.goto (-36), 3) := by decide +kernel
theorem dX9_readNumber_46 : decode cX9_readNumber 46 = .ok (.aload_n 0, 1) := by decide +kernel
theorem dX9_readNumber_47 : decode cX9_readNumber 47 = .ok (.getfield 21, 3) := by decide +kernel
theorem dX9_readNumber_50 : decode cX9_readNumber 50 = .ok (.aload_n 0, 1) := by decide +kernel
theorem dX9_readNumber_51 : decode cX9_readNumber 51 = .ok (.getfield 41, 3) := by decide +kernel
theorem dX9_readNumber_54 : decode cX9_readNumber 54 = .ok (.invokevirtual 47, 3) := by decide +kernel
theorem dX9_readNumber_57 : decode cX9_readNumber 57 = .ok (.bipush 48, 2) := by decide +kernel
theorem dX9_readNumber_59 : decode cX9_readNumber 59 = .ok (.if_icmp .ne 20, 3) := by decide +kernel
theorem dX9_readNumber_62 : decode cX9_readNumber 62 = .ok (.aload_n 0, 1) := by decide +kernel
theorem dX9_readNumber_63 : decode cX9_readNumber 63 = .ok (.getfield 32, 3) := by decide +kernel
theorem dX9_readNumber_66 : decode cX9_readNumber 66 = .ok (.aload_n 0, 1) := by decide +kernel
theorem dX9_readNumber_67 : decode cX9_readNumber 67 = .ok (.getfield 41, 3) := by decide +kernel
theorem dX9_readNumber_70 : decode cX9_readNumber 70 = .ok (.isub, 1) := by decide +kernel
theorem dX9_readNumber_71 : decode cX9_readNumber 71 = .ok (.iconst 1, 1) := by decide +kernel
theorem dX9_readNumber_72 : decode cX9_readNumber 72 = .ok (.if_icmp .le 7, 3) := by decide +kernel
theorem dX9_readNumber_75 : decode cX9_readNumber 75 = .ok (.iconst 1, 1) := by decide +kernel
theorem dX9_readNumber_76 : decode cX9_readNumber 76 = .ok (.goto 4, 3) := by decide +kernel
theorem dX9_readNumber_79 : decode cX9_readNumber 79 = .ok (.iconst 0, 1) := by decide +kernel
theorem dX9_readNumber_80 : decode cX9_readNumber 80 = .ok (.istore_n 3, 1) := by decide +kernel
theorem dX9_readNumber_81 : decode cX9_readNumber 81 = .ok (.lload_n 1, 1) := by decide +kernel
theorem dX9_readNumber_82 : decode cX9_readNumber 82 = .ok (.ldc2_w 118, 3) := by decide +kernel
theorem dX9_readNumber_85 : decode cX9_readNumber 85 = .ok (.lcmp, 1) := by decide +kernel
theorem dX9_readNumber_86 : decode cX9_readNumber 86 = .ok (.ifCond .gt 24, 3) := by decide +kernel
theorem dX9_readNumber_89 : decode cX9_readNumber 89 = .ok (.iload_n 3, 1) := by decide +kernel
theorem dX9_readNumber_90 : decode cX9_readNumber 90 = .ok (.ifCond .ne 20, 3) := by decide +kernel
theorem dX9_readNumber_93 : decode cX9_readNumber 93 = .ok (.aload_n 0, 1) := by decide +kernel
theorem dX9_readNumber_94 : decode cX9_readNumber 94 = .ok (.getfield 21, 3) := by decide +kernel
theorem dX9_readNumber_97 : decode cX9_readNumber 97 = .ok (.aload_n 0, 1) := by decide +kernel
theorem dX9_readNumber_98 : decode cX9_readNumber 98 = .ok (.getfield 32, 3) := by decide +kernel
theorem dX9_readNumber_101 : decode cX9_readNumber 101 = .ok (.invokevirtual 47, 3) := by decide +kernel
theorem dX9_readNumber_104 : decode cX9_readNumber 104 = .ok (.invokestatic 59, 3) := by decide +kernel
theorem dX9_readNumber_107 : decode cX9_readNumber 107 = .ok (.ifCond .eq 5, 3) := by decide +kernel
theorem dX9_readNumber_110 : decode cX9_readNumber 110 = .ok (.iconst 1, 1) := by decide +kernel
theorem dX9_readNumber_111 : decode cX9_readNumber 111 = .ok (.ireturn, 1) := by decide +kernel
theorem dX9_readNumber_112 : decode cX9_readNumber 112 = .ok (.aload_n 0, 1) := by decide +kernel
theorem dX9_readNumber_113 : decode cX9_readNumber 113 = .ok (.lload_n 1, 1) := by decide +kernel
theorem dX9_readNumber_114 : decode cX9_readNumber 114 = .ok (.l2i, 1) := by decide +kernel
theorem dX9_readNumber_115 : decode cX9_readNumber 115 = .ok (.putfield 44, 3) := by decide +kernel
theorem dX9_readNumber_118 : decode cX9_readNumber 118 = .ok (.iconst 3, 1) := by decide +kernel
theorem dX9_readNumber_119 : decode cX9_readNumber 119 = .ok (.ireturn, 1) := by decide +kernel
theorem dX9_longSign_0 : decode cX9_longSign 0 = .ok (.iload_n 0, 1) := by decide +kernel
theorem dX9_longSign_1 : decode cX9_longSign 1 = .ok (.bipush 60, 2) := by decide +kernel
theorem dX9_longSign_3 : decode cX9_longSign 3 = .ok (.if_icmp .ne 13, 3) := by decide +kernel
theorem dX9_longSign_6 : decode cX9_longSign 6 = .ok (.iload_n 1, 1) := by decide +kernel
theorem dX9_longSign_7 : decode cX9_longSign 7 = .ok (.bipush 61, 2) := by decide +kernel
theorem dX9_longSign_9 : decode cX9_longSign 9 = .ok (.if_icmp .ne 7, 3) := by decide +kernel
theorem dX9_longSign_12 : decode cX9_longSign 12 = .ok (.sipush 128, 3) := by decide +kernel
theorem dX9_longSign_15 : decode cX9_longSign 15 = .ok (.ireturn, 1) := by decide +kernel
theorem dX9_longSign_16 : decode cX9_longSign 16 = .ok (.iload_n 0, 1) := by decide +kernel
theorem dX9_longSign_17 : decode cX9_longSign 17 = .ok (.bipush 60, 2) := by decide +kernel
theorem dX9_longSign_19 : decode cX9_longSign 19 = .ok (.if_icmp .ne 13, 3) := by decide +kernel
theorem dX9_longSign_22 : decode cX9_longSign 22 = .ok (.iload_n 1, 1) := by decide +kernel
theorem dX9_longSign_23 : decode cX9_longSign 23 = .ok (.bipush 60, 2) := by decide +kernel
theorem dX9_longSign_25 : decode cX9_longSign 25 = .ok (.if_icmp .ne 7, 3) := by decide +kernel
theorem dX9_longSign_28 : decode cX9_longSign 28 = .ok (.sipush 130, 3) := by decide +kernel
theorem dX9_longSign_31 : decode cX9_longSign 31 = .ok (.ireturn, 1) := by decide +kernel
theorem dX9_longSign_32 : decode cX9_longSign 32 = .ok (.iload_n 0, 1) := by decide +kernel
theorem dX9_longSign_33 : decode cX9_longSign 33 = .ok (.bipush 61, 2) := by decide +kernel
theorem dX9_longSign_35 : decode cX9_longSign 35 = .ok (.if_icmp .ne 13, 3) := by decide +kernel
theorem dX9_longSign_38 : decode cX9_longSign 38 = .ok (.iload_n 1, 1) := by decide +kernel
theorem dX9_longSign_39 : decode cX9_longSign 39 = .ok (.bipush 61, 2) := by decide +kernel
theorem dX9_longSign_41 : decode cX9_longSign 41 = .ok (.if_icmp .ne 7, 3) := by decide +kernel
theorem dX9_longSign_44 : decode cX9_longSign 44 = .ok (.sipush 129, 3) := by decide +kernel
theorem dX9_longSign_47 : decode cX9_longSign 47 = .ok (.ireturn, 1) := by decide +kernel
theorem dX9_longSign_48 : decode cX9_longSign 48 = .ok (.iload_n 0, 1) := by decide +kernel
theorem dX9_longSign_49 : decode cX9_longSign 49 = .ok (.bipush 62, 2) := by decide +kernel
theorem dX9_longSign_51 : decode cX9_longSign 51 = .ok (.if_icmp .ne 15, 3) := by decide +kernel
theorem dX9_longSign_54 : decode cX9_longSign 54 = .ok (.iload_n 1, 1) := by decide +kernel
theorem dX9_longSign_55 : decode cX9_longSign 55 = .ok (.bipush 62, 2) := by decide +kernel
theorem dX9_longSign_57 : decode cX9_longSign 57 = .ok (.if_icmp .ne 9, 3) := by decide +kernel
theorem dX9_longSign_60 : decode cX9_longSign 60 = .ok (.sipush 131, 3) := by decide +kernel
theorem dX9_longSign_63 : decode cX9_longSign 63 = .ok (.goto 4, 3) := by decide +kernel
theorem dX9_longSign_66 : decode cX9_longSign 66 = .ok (.iconst 1, 1) := by decide +kernel
theorem dX9_longSign_67 : decode cX9_longSign 67 = .ok (.ireturn, 1) := by decide +kernel
abbrev MX9_isWord : aw_M := (yX9_isWord, cX9_isWord, 2, (some .boolean))
theorem codX9_isWord : Cond.code yX9_isWord cX9_isWord 2 (some .boolean) ∈ aw_T := aw_in 560 (by decide +kernel) rfl
theorem iniX9 : Cond.initialized RX9 ∈ aw_T := aw_in 115 (by decide +kernel) rfl
theorem insX9_isWord : Cond.instanceMethod yX9_isWord ∈ aw_T := aw_in 559 (by decide +kernel) rfl
theorem selX9_isWord : Cond.selects RX9 yX9_isWord yX9_isWord ∈ aw_T := aw_in 2 (by decide +kernel) rfl
abbrev MX9_kind : aw_M := (yX9_kind, cX9_kind, 1, (some .int))
theorem codX9_kind : Cond.code yX9_kind cX9_kind 1 (some .int) ∈ aw_T := aw_in 704 (by decide +kernel) rfl
theorem insX9_kind : Cond.instanceMethod yX9_kind ∈ aw_T := aw_in 702 (by decide +kernel) rfl
theorem selX9_kind : Cond.selects RX9 yX9_kind yX9_kind ∈ aw_T := aw_in 703 (by decide +kernel) rfl
abbrev MX9_longSign : aw_M := (yX9_longSign, cX9_longSign, 2, (some .int))
theorem codX9_longSign : Cond.code yX9_longSign cX9_longSign 2 (some .int) ∈ aw_T := aw_in 636 (by decide +kernel) rfl
theorem sttX9_longSign : Cond.static yX9_longSign ∈ aw_T := aw_in 635 (by decide +kernel) rfl
abbrev MX9_next : aw_M := (yX9_next, cX9_next, 1, none)
theorem codX9_next : Cond.code yX9_next cX9_next 1 none ∈ aw_T := aw_in 712 (by decide +kernel) rfl
theorem insX9_next : Cond.instanceMethod yX9_next ∈ aw_T := aw_in 710 (by decide +kernel) rfl
theorem selX9_next : Cond.selects RX9 yX9_next yX9_next ∈ aw_T := aw_in 711 (by decide +kernel) rfl
abbrev MX9_number : aw_M := (yX9_number, cX9_number, 1, (some .int))
theorem codX9_number : Cond.code yX9_number cX9_number 1 (some .int) ∈ aw_T := aw_in 733 (by decide +kernel) rfl
theorem insX9_number : Cond.instanceMethod yX9_number ∈ aw_T := aw_in 731 (by decide +kernel) rfl
theorem selX9_number : Cond.selects RX9 yX9_number yX9_number ∈ aw_T := aw_in 732 (by decide +kernel) rfl
abbrev MX9_place : aw_M := (yX9_place, cX9_place, 1, (some .int))
theorem codX9_place : Cond.code yX9_place cX9_place 1 (some .int) ∈ aw_T := aw_in 717 (by decide +kernel) rfl
theorem insX9_place : Cond.instanceMethod yX9_place ∈ aw_T := aw_in 715 (by decide +kernel) rfl
theorem selX9_place : Cond.selects RX9 yX9_place yX9_place ∈ aw_T := aw_in 716 (by decide +kernel) rfl
abbrev MX9_read : aw_M := (yX9_read, cX9_read, 3, none)
theorem codX9_read : Cond.code yX9_read cX9_read 3 none ∈ aw_T := aw_in 521 (by decide +kernel) rfl
theorem insX9_read : Cond.instanceMethod yX9_read ∈ aw_T := aw_in 519 (by decide +kernel) rfl
theorem selX9_read : Cond.selects RX9 yX9_read yX9_read ∈ aw_T := aw_in 520 (by decide +kernel) rfl
abbrev MX9_readNumber : aw_M := (yX9_readNumber, cX9_readNumber, 4, (some .int))
theorem codX9_readNumber : Cond.code yX9_readNumber cX9_readNumber 4 (some .int) ∈ aw_T := aw_in 627 (by decide +kernel) rfl
theorem insX9_readNumber : Cond.instanceMethod yX9_readNumber ∈ aw_T := aw_in 626 (by decide +kernel) rfl
theorem selX9_readNumber : Cond.selects RX9 yX9_readNumber yX9_readNumber ∈ aw_T := aw_in 3 (by decide +kernel) rfl
abbrev MX9_readOne : aw_M := (yX9_readOne, cX9_readOne, 3, (some .int))
theorem codX9_readOne : Cond.code yX9_readOne cX9_readOne 3 (some .int) ∈ aw_T := aw_in 537 (by decide +kernel) rfl
theorem insX9_readOne : Cond.instanceMethod yX9_readOne ∈ aw_T := aw_in 536 (by decide +kernel) rfl
theorem selX9_readOne : Cond.selects RX9 yX9_readOne yX9_readOne ∈ aw_T := aw_in 0 (by decide +kernel) rfl
abbrev MX9_wordOrName : aw_M := (yX9_wordOrName, cX9_wordOrName, 1, (some .int))
theorem codX9_wordOrName : Cond.code yX9_wordOrName cX9_wordOrName 1 (some .int) ∈ aw_T := aw_in 555 (by decide +kernel) rfl
theorem insX9_wordOrName : Cond.instanceMethod yX9_wordOrName ∈ aw_T := aw_in 554 (by decide +kernel) rfl
theorem selX9_wordOrName : Cond.selects RX9 yX9_wordOrName yX9_wordOrName ∈ aw_T := aw_in 1 (by decide +kernel) rfl
theorem hX9_w : ∀ w ∈ u_ws RX9 TX9 9, w ∈ aw_T := by
  show ∀ w ∈ [u_lay RX9 TX9 0, u_lay RX9 TX9 1, u_lay RX9 TX9 2, u_lay RX9 TX9 3, u_lay RX9 TX9 4, u_lay RX9 TX9 5, u_lay RX9 TX9 6, u_lay RX9 TX9 7, u_lay RX9 TX9 8], w ∈ aw_T
  exact List.forall_mem_cons.mpr ⟨aw_in 170 (by decide +kernel) rfl, List.forall_mem_cons.mpr ⟨aw_in 172 (by decide +kernel) rfl, List.forall_mem_cons.mpr ⟨aw_in 174 (by decide +kernel) rfl, List.forall_mem_cons.mpr ⟨aw_in 176 (by decide +kernel) rfl, List.forall_mem_cons.mpr ⟨aw_in 178 (by decide +kernel) rfl, List.forall_mem_cons.mpr ⟨aw_in 180 (by decide +kernel) rfl, List.forall_mem_cons.mpr ⟨aw_in 182 (by decide +kernel) rfl, List.forall_mem_cons.mpr ⟨aw_in 184 (by decide +kernel) rfl, List.forall_mem_cons.mpr ⟨aw_in 186 (by decide +kernel) rfl, fun _ h => absurd h List.not_mem_nil⟩⟩⟩⟩⟩⟩⟩⟩⟩
theorem hX9 : aw_C 9 RX9 TX9 9 tyX9 := ⟨rfl, hX9_w, tyX9_ok, nmX9⟩
theorem fX9_15 : aw_F RX9 15 9 2 (.array .int) false := aw_F.of hX9 2 (by decide) (aw_in 163 (by decide +kernel) rfl) rfl rfl rfl
theorem fX9_18 : aw_F RX9 18 9 3 (.array .int) false := aw_F.of hX9 3 (by decide) (aw_in 164 (by decide +kernel) rfl) rfl rfl rfl
theorem fX9_21 : aw_F RX9 21 9 0 (.object "QuietDesk$Tape") true := aw_F.of hX9 0 (by decide) (aw_in 161 (by decide +kernel) rfl) rfl rfl rfl
theorem fX9_25 : aw_F RX9 25 9 4 .int false := aw_F.of hX9 4 (by decide) (aw_in 165 (by decide +kernel) rfl) rfl rfl rfl
theorem fX9_29 : aw_F RX9 29 9 5 .int false := aw_F.of hX9 5 (by decide) (aw_in 166 (by decide +kernel) rfl) rfl rfl rfl
theorem fX9_32 : aw_F RX9 32 9 7 .int false := aw_F.of hX9 7 (by decide) (aw_in 168 (by decide +kernel) rfl) rfl rfl rfl
theorem fX9_41 : aw_F RX9 41 9 6 .int false := aw_F.of hX9 6 (by decide) (aw_in 167 (by decide +kernel) rfl) rfl rfl rfl
theorem fX9_44 : aw_F RX9 44 9 8 .int false := aw_F.of hX9 8 (by decide) (aw_in 169 (by decide +kernel) rfl) rfl rfl rfl
theorem fX9_9 : aw_F RX9 9 9 1 (.array .int) false := aw_F.of hX9 1 (by decide) (aw_in 162 (by decide +kernel) rfl) rfl rfl rfl
theorem qX9_53 : Cond.methodLink RX9 53 Lib.Math.min.name ∈ aw_T := aw_in 713 (by decide +kernel) rfl
theorem mathS_minl : Cond.static Lib.MathLoose.min_long.x ∈ aw_T := aw_in 631 (by decide +kernel) rfl
theorem mathK_minl : Cond.code Lib.MathLoose.min_long.x Lib.MathLoose.min_long.code 4 (some .long) ∈ aw_T := aw_in 632 (by decide +kernel) rfl
theorem qX9_115 : Cond.methodLink RX9 115 Lib.MathLoose.min_long.x ∈ aw_T := aw_in 630 (by decide +kernel) rfl
theorem oX9_111 : Cond.constantLong RX9 111 (10 : Int64) ∈ aw_T := aw_in 628 (by decide +kernel) rfl
theorem oX9_113 : Cond.constantLong RX9 113 (2147483648 : Int64) ∈ aw_T := aw_in 629 (by decide +kernel) rfl
theorem oX9_118 : Cond.constantLong RX9 118 (2147483647 : Int64) ∈ aw_T := aw_in 633 (by decide +kernel) rfl
theorem lX9_107 : aw_L RX9 107 MX8_isText 3 := ⟨aw_in 561 (by decide +kernel) rfl, iniX8, codX8_isText, ⟨by decide, by decide, by decide +kernel⟩, by decide⟩
theorem lX9_35 : aw_L RX9 35 MX8_afterBlanks 1 := ⟨aw_in 522 (by decide +kernel) rfl, iniX8, codX8_afterBlanks, ⟨by decide, by decide, by decide +kernel⟩, by decide⟩
theorem lX9_47 : aw_L RX9 47 MX8_at 1 := ⟨aw_in 533 (by decide +kernel) rfl, iniX8, codX8_at, ⟨by decide, by decide, by decide +kernel⟩, by decide⟩
theorem lX9_50 : aw_L RX9 50 MX9_readOne 1 := ⟨aw_in 534 (by decide +kernel) rfl, iniX9, codX9_readOne, ⟨by decide, by decide, by decide +kernel⟩, by decide⟩
theorem lX9_59 : aw_L RX9 59 MX8_isLetter 1 := ⟨aw_in 538 (by decide +kernel) rfl, iniX8, codX8_isLetter, ⟨by decide, by decide, by decide +kernel⟩, by decide⟩
theorem lX9_63 : aw_L RX9 63 MX8_afterName 1 := ⟨aw_in 541 (by decide +kernel) rfl, iniX8, codX8_afterName, ⟨by decide, by decide, by decide +kernel⟩, by decide⟩
theorem lX9_66 : aw_L RX9 66 MX9_wordOrName 0 := ⟨aw_in 552 (by decide +kernel) rfl, iniX9, codX9_wordOrName, ⟨by decide, by decide, by decide +kernel⟩, by decide⟩
theorem lX9_70 : aw_L RX9 70 MX8_isDigit 1 := ⟨aw_in 619 (by decide +kernel) rfl, iniX8, codX8_isDigit, ⟨by decide, by decide, by decide +kernel⟩, by decide⟩
theorem lX9_73 : aw_L RX9 73 MX8_afterDigits 1 := ⟨aw_in 620 (by decide +kernel) rfl, iniX8, codX8_afterDigits, ⟨by decide, by decide, by decide +kernel⟩, by decide⟩
theorem lX9_76 : aw_L RX9 76 MX9_readNumber 0 := ⟨aw_in 624 (by decide +kernel) rfl, iniX9, codX9_readNumber, ⟨by decide, by decide, by decide +kernel⟩, by decide⟩
theorem lX9_79 : aw_L RX9 79 MX9_longSign 2 := ⟨aw_in 634 (by decide +kernel) rfl, iniX9, codX9_longSign, ⟨by decide, by decide, by decide +kernel⟩, by decide⟩
theorem lX9_84 : aw_L RX9 84 MJ0_indexOf_0f7a4 1 := ⟨aw_in 638 (by decide +kernel) rfl, iniJ0, codJ0_indexOf_0f7a4, ⟨by decide, by decide, by decide +kernel⟩, by decide⟩
theorem lX9_91 : aw_L RX9 91 MX9_isWord 1 := ⟨aw_in 557 (by decide +kernel) rfl, iniX9, codX9_isWord, ⟨by decide, by decide, by decide +kernel⟩, by decide⟩
