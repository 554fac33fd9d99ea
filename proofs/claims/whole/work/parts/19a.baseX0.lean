theorem dX0_write_0 : decode cX0_write 0 = .ok (.aload_n 0, 1) := by decide +kernel
theorem dX0_write_1 : decode cX0_write 1 = .ok (.getfield 25, 3) := by decide +kernel
theorem dX0_write_4 : decode cX0_write 4 = .ok (.sipush 16384, 3) := by decide +kernel
theorem dX0_write_7 : decode cX0_write 7 = .ok (.invokevirtual 31, 3) := by decide +kernel
theorem dX0_write_10 : decode cX0_write 10 = .ok (.aload_n 0, 1) := by decide +kernel
theorem dX0_write_11 : decode cX0_write 11 = .ok (.sipush 2048, 3) := by decide +kernel
theorem dX0_write_14 : decode cX0_write 14 = .ok (.putfield 35, 3) := by decide +kernel
theorem dX0_write_17 : decode cX0_write 17 = .ok (.aload_n 0, 1) := by decide +kernel
theorem dX0_write_18 : decode cX0_write 18 = .ok (.iconst 0, 1) := by decide +kernel
theorem dX0_write_19 : decode cX0_write 19 = .ok (.putfield 39, 3) := by decide +kernel
theorem dX0_write_22 : decode cX0_write 22 = .ok (.aload_n 0, 1) := by decide +kernel
theorem dX0_write_23 : decode cX0_write 23 = .ok (.iconst 0, 1) := by decide +kernel
theorem dX0_write_24 : decode cX0_write 24 = .ok (.putfield 42, 3) := by decide +kernel
theorem dX0_write_27 : decode cX0_write 27 = .ok (.aload_n 0, 1) := by decide +kernel
theorem dX0_write_28 : decode cX0_write 28 = .ok (.iconst 3, 1) := by decide +kernel
theorem dX0_write_29 : decode cX0_write 29 = .ok (.iconst 0, 1) := by decide +kernel
theorem dX0_write_30 : decode cX0_write 30 = .ok (.iconst (-1), 1) := by decide +kernel
theorem dX0_write_31 : decode cX0_write 31 = .ok (.invokestatic 45, 3) := by decide +kernel
theorem dX0_write_34 : decode cX0_write 34 = .ok (.invokevirtual 51, 3) := by decide +kernel
theorem dX0_write_37 : decode cX0_write 37 = .ok (.aload_n 0, 1) := by decide +kernel
theorem dX0_write_38 : decode cX0_write 38 = .ok (.getfield 35, 3) := by decide +kernel
theorem dX0_write_41 : decode cX0_write 41 = .ok (.istore_n 1, 1) := by decide +kernel
theorem dX0_write_42 : decode cX0_write 42 = .ok (.aload_n 0, 1) := by decide +kernel
theorem dX0_write_43 : decode cX0_write 43 = .ok (.iconst 0, 1) := by decide +kernel
theorem dX0_write_44 : decode cX0_write 44 = .ok (.invokevirtual 51, 3) := by decide +kernel
theorem dX0_write_47 : decode cX0_write 47 = .ok (.aload_n 0, 1) := by decide +kernel
theorem dX0_write_48 : decode cX0_write 48 = .ok (.invokevirtual 54, 3) := by decide +kernel
theorem dX0_write_51 : decode cX0_write 51 = .ok (.aload_n 0, 1) := by decide +kernel
theorem dX0_write_52 : decode cX0_write 52 = .ok (.invokevirtual 57, 3) := by decide +kernel
theorem dX0_write_55 : decode cX0_write 55 = .ok (.aload_n 0, 1) := by decide +kernel
theorem dX0_write_56 : decode cX0_write 56 = .ok (.iload_n 1, 1) := by decide +kernel
theorem dX0_write_57 : decode cX0_write 57 = .ok (.invokevirtual 60, 3) := by decide +kernel
theorem dX0_write_60 : decode cX0_write 60 = .ok (.iconst 0, 1) := by decide +kernel
theorem dX0_write_61 : decode cX0_write 61 = .ok (.istore_n 2, 1) := by decide +kernel
theorem dX0_write_62 : decode cX0_write 62 = .ok (.iload_n 2, 1) := by decide +kernel
theorem dX0_write_63 : decode cX0_write 63 = .ok (.aload_n 0, 1) := by decide +kernel
theorem dX0_write_64 : decode cX0_write 64 = .ok (.getfield 17, 3) := by decide +kernel
theorem dX0_write_67 : decode cX0_write 67 = .ok (.invokevirtual 63, 3) := by decide +kernel
theorem dX0_write_70 : decode cX0_write 70 = .ok (.if_icmp .ge 14, 3) := by decide +kernel
theorem dX0_write_73 : decode cX0_write 73 = .ok (.aload_n 0, 1) := by decide +kernel
theorem dX0_write_74 : decode cX0_write 74 = .ok (.iload_n 2, 1) := by decide +kernel
theorem dX0_write_75 : decode cX0_write 75 = .ok (.invokevirtual 69, 3) := by decide +kernel
theorem dX0_write_78 : decode cX0_write 78 = .ok (.iinc 2 1, 3) := by decide +kernel
theorem dX0_write_81 : decode cX0_write 81 = .ok (.goto (-19), 3) := by decide +kernel
theorem dX0_write_84 : decode cX0_write 84 = .ok (.aload_n 0, 1) := by decide +kernel
theorem dX0_write_85 : decode cX0_write 85 = .ok (.iconst 0, 1) := by decide +kernel
theorem dX0_write_86 : decode cX0_write 86 = .ok (.invokevirtual 72, 3) := by decide +kernel
theorem dX0_write_89 : decode cX0_write 89 = .ok (.return_, 1) := by decide +kernel
theorem dX0_emit_0 : decode cX0_emit 0 = .ok (.aload_n 0, 1) := by decide +kernel
theorem dX0_emit_1 : decode cX0_emit 1 = .ok (.getfield 25, 3) := by decide +kernel
theorem dX0_emit_4 : decode cX0_emit 4 = .ok (.aload_n 0, 1) := by decide +kernel
theorem dX0_emit_5 : decode cX0_emit 5 = .ok (.getfield 35, 3) := by decide +kernel
theorem dX0_emit_8 : decode cX0_emit 8 = .ok (.iload_n 1, 1) := by decide +kernel
theorem dX0_emit_9 : decode cX0_emit 9 = .ok (.invokevirtual 75, 3) := by decide +kernel
theorem dX0_emit_12 : decode cX0_emit 12 = .ok (.ifCond .eq 13, 3) := by decide +kernel
theorem dX0_emit_15 : decode cX0_emit 15 = .ok (.aload_n 0, 1) := by decide +kernel
theorem dX0_emit_16 : decode cX0_emit 16 = .ok (.dup, 1) := by decide +kernel
theorem dX0_emit_17 : decode cX0_emit 17 = .ok (.getfield 35, 3) := by decide +kernel
theorem dX0_emit_20 : decode cX0_emit 20 = .ok (.iconst 4, 1) := by decide +kernel
theorem dX0_emit_21 : decode cX0_emit 21 = .ok (.iadd, 1) := by decide +kernel
theorem dX0_emit_22 : decode cX0_emit 22 = .ok (.putfield 35, 3) := by decide +kernel
theorem dX0_emit_25 : decode cX0_emit 25 = .ok (.return_, 1) := by decide +kernel
theorem dX0_closeJump_0 : decode cX0_closeJump 0 = .ok (.aload_n 0, 1) := by decide +kernel
theorem dX0_closeJump_1 : decode cX0_closeJump 1 = .ok (.getfield 25, 3) := by decide +kernel
theorem dX0_closeJump_4 : decode cX0_closeJump 4 = .ok (.iload_n 1, 1) := by decide +kernel
theorem dX0_closeJump_5 : decode cX0_closeJump 5 = .ok (.iconst 0, 1) := by decide +kernel
theorem dX0_closeJump_6 : decode cX0_closeJump 6 = .ok (.aload_n 0, 1) := by decide +kernel
theorem dX0_closeJump_7 : decode cX0_closeJump 7 = .ok (.getfield 35, 3) := by decide +kernel
theorem dX0_closeJump_10 : decode cX0_closeJump 10 = .ok (.iload_n 1, 1) := by decide +kernel
theorem dX0_closeJump_11 : decode cX0_closeJump 11 = .ok (.isub, 1) := by decide +kernel
theorem dX0_closeJump_12 : decode cX0_closeJump 12 = .ok (.invokestatic 79, 3) := by decide +kernel
theorem dX0_closeJump_15 : decode cX0_closeJump 15 = .ok (.invokevirtual 75, 3) := by decide +kernel
theorem dX0_closeJump_18 : decode cX0_closeJump 18 = .ok (.pop, 1) := by decide +kernel
theorem dX0_closeJump_19 : decode cX0_closeJump 19 = .ok (.return_, 1) := by decide +kernel
theorem dX0_writeEnd_0 : decode cX0_writeEnd 0 = .ok (.aload_n 0, 1) := by decide +kernel
theorem dX0_writeEnd_1 : decode cX0_writeEnd 1 = .ok (.iconst 5, 1) := by decide +kernel
theorem dX0_writeEnd_2 : decode cX0_writeEnd 2 = .ok (.iconst 0, 1) := by decide +kernel
theorem dX0_writeEnd_3 : decode cX0_writeEnd 3 = .ok (.iload_n 1, 1) := by decide +kernel
theorem dX0_writeEnd_4 : decode cX0_writeEnd 4 = .ok (.invokestatic 45, 3) := by decide +kernel
theorem dX0_writeEnd_7 : decode cX0_writeEnd 7 = .ok (.invokevirtual 51, 3) := by decide +kernel
theorem dX0_writeEnd_10 : decode cX0_writeEnd 10 = .ok (.aload_n 0, 1) := by decide +kernel
theorem dX0_writeEnd_11 : decode cX0_writeEnd 11 = .ok (.invokestatic 83, 3) := by decide +kernel
theorem dX0_writeEnd_14 : decode cX0_writeEnd 14 = .ok (.invokevirtual 51, 3) := by decide +kernel
theorem dX0_writeEnd_17 : decode cX0_writeEnd 17 = .ok (.return_, 1) := by decide +kernel
theorem dX0_comeBack_0 : decode cX0_comeBack 0 = .ok (.aload_n 0, 1) := by decide +kernel
theorem dX0_comeBack_1 : decode cX0_comeBack 1 = .ok (.iconst 0, 1) := by decide +kernel
theorem dX0_comeBack_2 : decode cX0_comeBack 2 = .ok (.iconst 1, 1) := by decide +kernel
theorem dX0_comeBack_3 : decode cX0_comeBack 3 = .ok (.invokestatic 86, 3) := by decide +kernel
theorem dX0_comeBack_6 : decode cX0_comeBack 6 = .ok (.invokevirtual 51, 3) := by decide +kernel
theorem dX0_comeBack_9 : decode cX0_comeBack 9 = .ok (.return_, 1) := by decide +kernel
theorem dX0_callFor_0 : decode cX0_callFor 0 = .ok (.aload_n 0, 1) := by decide +kernel
theorem dX0_callFor_1 : decode cX0_callFor 1 = .ok (.iconst 1, 1) := by decide +kernel
theorem dX0_callFor_2 : decode cX0_callFor 2 = .ok (.iload_n 2, 1) := by decide +kernel
theorem dX0_callFor_3 : decode cX0_callFor 3 = .ok (.aload_n 0, 1) := by decide +kernel
theorem dX0_callFor_4 : decode cX0_callFor 4 = .ok (.getfield 35, 3) := by decide +kernel
theorem dX0_callFor_7 : decode cX0_callFor 7 = .ok (.isub, 1) := by decide +kernel
theorem dX0_callFor_8 : decode cX0_callFor 8 = .ok (.invokestatic 79, 3) := by decide +kernel
theorem dX0_callFor_11 : decode cX0_callFor 11 = .ok (.invokevirtual 51, 3) := by decide +kernel
theorem dX0_callFor_14 : decode cX0_callFor 14 = .ok (.aload_n 0, 1) := by decide +kernel
theorem dX0_callFor_15 : decode cX0_callFor 15 = .ok (.getfield 17, 3) := by decide +kernel
theorem dX0_callFor_18 : decode cX0_callFor 18 = .ok (.iload_n 1, 1) := by decide +kernel
theorem dX0_callFor_19 : decode cX0_callFor 19 = .ok (.aload_n 0, 1) := by decide +kernel
theorem dX0_callFor_20 : decode cX0_callFor 20 = .ok (.getfield 35, 3) := by decide +kernel
theorem dX0_callFor_23 : decode cX0_callFor 23 = .ok (.invokevirtual 89, 3) := by decide +kernel
theorem dX0_callFor_26 : decode cX0_callFor 26 = .ok (.return_, 1) := by decide +kernel
theorem dX0_writeCalls_0 : decode cX0_writeCalls 0 = .ok (.aload_n 0, 1) := by decide +kernel
theorem dX0_writeCalls_1 : decode cX0_writeCalls 1 = .ok (.aload_n 0, 1) := by decide +kernel
theorem dX0_writeCalls_2 : decode cX0_writeCalls 2 = .ok (.getfield 35, 3) := by decide +kernel
theorem dX0_writeCalls_5 : decode cX0_writeCalls 5 = .ok (.putfield 93, 3) := by decide +kernel
theorem dX0_writeCalls_8 : decode cX0_writeCalls 8 = .ok (.aload_n 0, 1) := by decide +kernel
theorem dX0_writeCalls_9 : decode cX0_writeCalls 9 = .ok (.iconst 2, 1) := by decide +kernel
theorem dX0_writeCalls_10 : decode cX0_writeCalls 10 = .ok (.iconst 0, 1) := by decide +kernel
theorem dX0_writeCalls_11 : decode cX0_writeCalls 11 = .ok (.bipush 12, 2) := by decide +kernel
theorem dX0_writeCalls_13 : decode cX0_writeCalls 13 = .ok (.invokestatic 96, 3) := by decide +kernel
theorem dX0_writeCalls_16 : decode cX0_writeCalls 16 = .ok (.invokevirtual 51, 3) := by decide +kernel
theorem dX0_writeCalls_19 : decode cX0_writeCalls 19 = .ok (.aload_n 0, 1) := by decide +kernel
theorem dX0_writeCalls_20 : decode cX0_writeCalls 20 = .ok (.iconst 2, 1) := by decide +kernel
theorem dX0_writeCalls_21 : decode cX0_writeCalls 21 = .ok (.iconst 2, 1) := by decide +kernel
theorem dX0_writeCalls_22 : decode cX0_writeCalls 22 = .ok (.iconst (-1), 1) := by decide +kernel
theorem dX0_writeCalls_23 : decode cX0_writeCalls 23 = .ok (.invokestatic 45, 3) := by decide +kernel
theorem dX0_writeCalls_26 : decode cX0_writeCalls 26 = .ok (.invokevirtual 51, 3) := by decide +kernel
theorem dX0_writeCalls_29 : decode cX0_writeCalls 29 = .ok (.aload_n 0, 1) := by decide +kernel
theorem dX0_writeCalls_30 : decode cX0_writeCalls 30 = .ok (.invokevirtual 99, 3) := by decide +kernel
theorem dX0_writeCalls_33 : decode cX0_writeCalls 33 = .ok (.aload_n 0, 1) := by decide +kernel
theorem dX0_writeCalls_34 : decode cX0_writeCalls 34 = .ok (.iconst 2, 1) := by decide +kernel
theorem dX0_writeCalls_35 : decode cX0_writeCalls 35 = .ok (.invokevirtual 72, 3) := by decide +kernel
theorem dX0_writeCalls_38 : decode cX0_writeCalls 38 = .ok (.aload_n 0, 1) := by decide +kernel
theorem dX0_writeCalls_39 : decode cX0_writeCalls 39 = .ok (.aload_n 0, 1) := by decide +kernel
theorem dX0_writeCalls_40 : decode cX0_writeCalls 40 = .ok (.getfield 35, 3) := by decide +kernel
theorem dX0_writeCalls_43 : decode cX0_writeCalls 43 = .ok (.putfield 102, 3) := by decide +kernel
theorem dX0_writeCalls_46 : decode cX0_writeCalls 46 = .ok (.aload_n 0, 1) := by decide +kernel
theorem dX0_writeCalls_47 : decode cX0_writeCalls 47 = .ok (.bipush 94, 2) := by decide +kernel
theorem dX0_writeCalls_49 : decode cX0_writeCalls 49 = .ok (.bipush 6, 2) := by decide +kernel
theorem dX0_writeCalls_51 : decode cX0_writeCalls 51 = .ok (.bipush 6, 2) := by decide +kernel
theorem dX0_writeCalls_53 : decode cX0_writeCalls 53 = .ok (.bipush 7, 2) := by decide +kernel
theorem dX0_writeCalls_55 : decode cX0_writeCalls 55 = .ok (.invokestatic 105, 3) := by decide +kernel
theorem dX0_writeCalls_58 : decode cX0_writeCalls 58 = .ok (.invokevirtual 51, 3) := by decide +kernel
theorem dX0_writeCalls_61 : decode cX0_writeCalls 61 = .ok (.aload_n 0, 1) := by decide +kernel
theorem dX0_writeCalls_62 : decode cX0_writeCalls 62 = .ok (.bipush 38, 2) := by decide +kernel
theorem dX0_writeCalls_64 : decode cX0_writeCalls 64 = .ok (.bipush 6, 2) := by decide +kernel
theorem dX0_writeCalls_66 : decode cX0_writeCalls 66 = .ok (.bipush 6, 2) := by decide +kernel
theorem dX0_writeCalls_68 : decode cX0_writeCalls 68 = .ok (.iconst 3, 1) := by decide +kernel
theorem dX0_writeCalls_69 : decode cX0_writeCalls 69 = .ok (.invokestatic 105, 3) := by decide +kernel
theorem dX0_writeCalls_72 : decode cX0_writeCalls 72 = .ok (.invokevirtual 51, 3) := by decide +kernel
theorem dX0_writeCalls_75 : decode cX0_writeCalls 75 = .ok (.aload_n 0, 1) := by decide +kernel
theorem dX0_writeCalls_76 : decode cX0_writeCalls 76 = .ok (.bipush 94, 2) := by decide +kernel
theorem dX0_writeCalls_78 : decode cX0_writeCalls 78 = .ok (.bipush 6, 2) := by decide +kernel
theorem dX0_writeCalls_80 : decode cX0_writeCalls 80 = .ok (.bipush 6, 2) := by decide +kernel
theorem dX0_writeCalls_82 : decode cX0_writeCalls 82 = .ok (.bipush 7, 2) := by decide +kernel
theorem dX0_writeCalls_84 : decode cX0_writeCalls 84 = .ok (.invokestatic 105, 3) := by decide +kernel
theorem dX0_writeCalls_87 : decode cX0_writeCalls 87 = .ok (.invokevirtual 51, 3) := by decide +kernel
theorem dX0_writeCalls_90 : decode cX0_writeCalls 90 = .ok (.aload_n 0, 1) := by decide +kernel
theorem dX0_writeCalls_91 : decode cX0_writeCalls 91 = .ok (.invokevirtual 99, 3) := by decide +kernel
theorem dX0_writeCalls_94 : decode cX0_writeCalls 94 = .ok (.aload_n 0, 1) := by decide +kernel
theorem dX0_writeCalls_95 : decode cX0_writeCalls 95 = .ok (.aload_n 0, 1) := by decide +kernel
theorem dX0_writeCalls_96 : decode cX0_writeCalls 96 = .ok (.getfield 35, 3) := by decide +kernel
theorem dX0_writeCalls_99 : decode cX0_writeCalls 99 = .ok (.putfield 109, 3) := by decide +kernel
theorem dX0_writeCalls_102 : decode cX0_writeCalls 102 = .ok (.aload_n 0, 1) := by decide +kernel
theorem dX0_writeCalls_103 : decode cX0_writeCalls 103 = .ok (.iconst 5, 1) := by decide +kernel
theorem dX0_writeCalls_104 : decode cX0_writeCalls 104 = .ok (.iconst 0, 1) := by decide +kernel
theorem dX0_writeCalls_105 : decode cX0_writeCalls 105 = .ok (.sipush 400, 3) := by decide +kernel
theorem dX0_writeCalls_108 : decode cX0_writeCalls 108 = .ok (.invokestatic 45, 3) := by decide +kernel
theorem dX0_writeCalls_111 : decode cX0_writeCalls 111 = .ok (.invokevirtual 51, 3) := by decide +kernel
theorem dX0_writeCalls_114 : decode cX0_writeCalls 114 = .ok (.aload_n 0, 1) := by decide +kernel
theorem dX0_writeCalls_115 : decode cX0_writeCalls 115 = .ok (.iconst 4, 1) := by decide +kernel
theorem dX0_writeCalls_116 : decode cX0_writeCalls 116 = .ok (.iconst 5, 1) := by decide +kernel
theorem dX0_writeCalls_117 : decode cX0_writeCalls 117 = .ok (.bipush 16, 2) := by decide +kernel
theorem dX0_writeCalls_119 : decode cX0_writeCalls 119 = .ok (.invokestatic 96, 3) := by decide +kernel
theorem dX0_writeCalls_122 : decode cX0_writeCalls 122 = .ok (.invokevirtual 51, 3) := by decide +kernel
theorem dX0_writeCalls_125 : decode cX0_writeCalls 125 = .ok (.aload_n 0, 1) := by decide +kernel
theorem dX0_writeCalls_126 : decode cX0_writeCalls 126 = .ok (.bipush 6, 2) := by decide +kernel
theorem dX0_writeCalls_128 : decode cX0_writeCalls 128 = .ok (.iconst 4, 1) := by decide +kernel
theorem dX0_writeCalls_129 : decode cX0_writeCalls 129 = .ok (.sipush 800, 3) := by decide +kernel
theorem dX0_writeCalls_132 : decode cX0_writeCalls 132 = .ok (.invokestatic 112, 3) := by decide +kernel
theorem dX0_writeCalls_135 : decode cX0_writeCalls 135 = .ok (.invokevirtual 51, 3) := by decide +kernel
theorem dX0_writeCalls_138 : decode cX0_writeCalls 138 = .ok (.aload_n 0, 1) := by decide +kernel
theorem dX0_writeCalls_139 : decode cX0_writeCalls 139 = .ok (.iconst 4, 1) := by decide +kernel
theorem dX0_writeCalls_140 : decode cX0_writeCalls 140 = .ok (.iconst 4, 1) := by decide +kernel
theorem dX0_writeCalls_141 : decode cX0_writeCalls 141 = .ok (.iconst 4, 1) := by decide +kernel
theorem dX0_writeCalls_142 : decode cX0_writeCalls 142 = .ok (.invokestatic 45, 3) := by decide +kernel
theorem dX0_writeCalls_145 : decode cX0_writeCalls 145 = .ok (.invokevirtual 51, 3) := by decide +kernel
theorem dX0_writeCalls_148 : decode cX0_writeCalls 148 = .ok (.aload_n 0, 1) := by decide +kernel
theorem dX0_writeCalls_149 : decode cX0_writeCalls 149 = .ok (.invokevirtual 99, 3) := by decide +kernel
theorem dX0_writeCalls_152 : decode cX0_writeCalls 152 = .ok (.aload_n 0, 1) := by decide +kernel
theorem dX0_writeCalls_153 : decode cX0_writeCalls 153 = .ok (.iconst 3, 1) := by decide +kernel
theorem dX0_writeCalls_154 : decode cX0_writeCalls 154 = .ok (.invokevirtual 72, 3) := by decide +kernel
theorem dX0_writeCalls_157 : decode cX0_writeCalls 157 = .ok (.return_, 1) := by decide +kernel
theorem dX0_writeRowCalls_0 : decode cX0_writeRowCalls 0 = .ok (.iconst 0, 1) := by decide +kernel
theorem dX0_writeRowCalls_1 : decode cX0_writeRowCalls 1 = .ok (.istore_n 1, 1) := by decide +kernel
theorem dX0_writeRowCalls_2 : decode cX0_writeRowCalls 2 = .ok (.iconst 0, 1) := by decide +kernel
theorem dX0_writeRowCalls_3 : decode cX0_writeRowCalls 3 = .ok (.istore_n 2, 1) := by decide +kernel
theorem dX0_writeRowCalls_4 : decode cX0_writeRowCalls 4 = .ok (.iload_n 2, 1) := by decide +kernel
theorem dX0_writeRowCalls_5 : decode cX0_writeRowCalls 5 = .ok (.aload_n 0, 1) := by decide +kernel
theorem dX0_writeRowCalls_6 : decode cX0_writeRowCalls 6 = .ok (.getfield 21, 3) := by decide +kernel
theorem dX0_writeRowCalls_9 : decode cX0_writeRowCalls 9 = .ok (.invokevirtual 115, 3) := by decide +kernel
theorem dX0_writeRowCalls_12 : decode cX0_writeRowCalls 12 = .ok (.if_icmp .ge 44, 3) := by decide +kernel
theorem dX0_writeRowCalls_15 : decode cX0_writeRowCalls 15 = .ok (.iload_n 2, 1) := by decide +kernel
theorem dX0_writeRowCalls_16 : decode cX0_writeRowCalls 16 = .ok (.aload_n 0, 1) := by decide +kernel
theorem dX0_writeRowCalls_17 : decode cX0_writeRowCalls 17 = .ok (.getfield 13, 3) := by decide +kernel
theorem dX0_writeRowCalls_20 : decode cX0_writeRowCalls 20 = .ok (.arraylength, 1) := by decide +kernel
theorem dX0_writeRowCalls_21 : decode cX0_writeRowCalls 21 = .ok (.if_icmp .ge 35, 3) := by decide +kernel
theorem dX0_writeRowCalls_24 : decode cX0_writeRowCalls 24 = .ok (.aload_n 0, 1) := by decide +kernel
theorem dX0_writeRowCalls_25 : decode cX0_writeRowCalls 25 = .ok (.getfield 13, 3) := by decide +kernel
theorem dX0_writeRowCalls_28 : decode cX0_writeRowCalls 28 = .ok (.iload_n 2, 1) := by decide +kernel
theorem dX0_writeRowCalls_29 : decode cX0_writeRowCalls 29 = .ok (.iload_n 1, 1) := by decide +kernel
theorem dX0_writeRowCalls_30 : decode cX0_writeRowCalls 30 = .ok (.iastore, 1) := by decide +kernel
theorem dX0_writeRowCalls_31 : decode cX0_writeRowCalls 31 = .ok (.iload_n 1, 1) := by decide +kernel
theorem dX0_writeRowCalls_32 : decode cX0_writeRowCalls 32 = .ok (.aload_n 0, 1) := by decide +kernel
theorem dX0_writeRowCalls_33 : decode cX0_writeRowCalls 33 = .ok (.getfield 21, 3) := by decide +kernel
theorem dX0_writeRowCalls_36 : decode cX0_writeRowCalls 36 = .ok (.iload_n 2, 1) := by decide +kernel
theorem dX0_writeRowCalls_37 : decode cX0_writeRowCalls 37 = .ok (.invokevirtual 116, 3) := by decide +kernel
theorem dX0_writeRowCalls_40 : decode cX0_writeRowCalls 40 = .ok (.ifCond .eq 7, 3) := by decide +kernel
theorem dX0_writeRowCalls_43 : decode cX0_writeRowCalls 43 = .ok (.iconst 1, 1) := by decide +kernel
theorem dX0_writeRowCalls_44 : decode cX0_writeRowCalls 44 = .ok (.goto 4, 3) := by decide +kernel
theorem dX0_writeRowCalls_47 : decode cX0_writeRowCalls 47 = .ok (.iconst 0, 1) := by decide +kernel
theorem dX0_writeRowCalls_48 : decode cX0_writeRowCalls 48 = .ok (.iadd, 1) := by decide +kernel
theorem dX0_writeRowCalls_49 : decode cX0_writeRowCalls 49 = .ok (.istore_n 1, 1) := by decide +kernel
theorem dX0_writeRowCalls_50 : decode cX0_writeRowCalls 50 = .ok (.iinc 2 1, 3) := by decide +kernel
theorem dX0_writeRowCalls_53 : decode cX0_writeRowCalls 53 = .ok (.goto (-49), 3) := by decide +kernel
theorem dX0_writeRowCalls_56 : decode cX0_writeRowCalls 56 = .ok (.aload_n 0, 1) := by decide +kernel
theorem dX0_writeRowCalls_57 : decode cX0_writeRowCalls 57 = .ok (.aload_n 0, 1) := by decide +kernel
theorem dX0_writeRowCalls_58 : decode cX0_writeRowCalls 58 = .ok (.getfield 35, 3) := by decide +kernel
theorem dX0_writeRowCalls_61 : decode cX0_writeRowCalls 61 = .ok (.putfield 120, 3) := by decide +kernel
theorem dX0_writeRowCalls_64 : decode cX0_writeRowCalls 64 = .ok (.aload_n 0, 1) := by decide +kernel
theorem dX0_writeRowCalls_65 : decode cX0_writeRowCalls 65 = .ok (.getfield 35, 3) := by decide +kernel
theorem dX0_writeRowCalls_68 : decode cX0_writeRowCalls 68 = .ok (.iload_n 1, 1) := by decide +kernel
theorem dX0_writeRowCalls_69 : decode cX0_writeRowCalls 69 = .ok (.bipush 20, 2) := by decide +kernel
theorem dX0_writeRowCalls_71 : decode cX0_writeRowCalls 71 = .ok (.imul, 1) := by decide +kernel
theorem dX0_writeRowCalls_72 : decode cX0_writeRowCalls 72 = .ok (.iadd, 1) := by decide +kernel
theorem dX0_writeRowCalls_73 : decode cX0_writeRowCalls 73 = .ok (.istore_n 2, 1) := by decide +kernel
theorem dX0_writeRowCalls_74 : decode cX0_writeRowCalls 74 = .ok (.iconst 0, 1) := by decide +kernel
theorem dX0_writeRowCalls_75 : decode cX0_writeRowCalls 75 = .ok (.istore_n 3, 1) := by decide +kernel
theorem dX0_writeRowCalls_76 : decode cX0_writeRowCalls 76 = .ok (.iload_n 3, 1) := by decide +kernel
theorem dX0_writeRowCalls_77 : decode cX0_writeRowCalls 77 = .ok (.aload_n 0, 1) := by decide +kernel
theorem dX0_writeRowCalls_78 : decode cX0_writeRowCalls 78 = .ok (.getfield 21, 3) := by decide +kernel
theorem dX0_writeRowCalls_81 : decode cX0_writeRowCalls 81 = .ok (.invokevirtual 115, 3) := by decide +kernel
theorem dX0_writeRowCalls_84 : decode cX0_writeRowCalls 84 = .ok (.if_icmp .ge 27, 3) := by decide +kernel
theorem dX0_writeRowCalls_87 : decode cX0_writeRowCalls 87 = .ok (.aload_n 0, 1) := by decide +kernel
theorem dX0_writeRowCalls_88 : decode cX0_writeRowCalls 88 = .ok (.iload_n 3, 1) := by decide +kernel
theorem dX0_writeRowCalls_89 : decode cX0_writeRowCalls 89 = .ok (.iload_n 2, 1) := by decide +kernel
theorem dX0_writeRowCalls_90 : decode cX0_writeRowCalls 90 = .ok (.bipush 6, 2) := by decide +kernel
theorem dX0_writeRowCalls_92 : decode cX0_writeRowCalls 92 = .ok (.bipush 6, 2) := by decide +kernel
theorem dX0_writeRowCalls_94 : decode cX0_writeRowCalls 94 = .ok (.aload_n 0, 1) := by decide +kernel
theorem dX0_writeRowCalls_95 : decode cX0_writeRowCalls 95 = .ok (.iload_n 3, 1) := by decide +kernel
theorem dX0_writeRowCalls_96 : decode cX0_writeRowCalls 96 = .ok (.invokevirtual 123, 3) := by decide +kernel
theorem dX0_writeRowCalls_99 : decode cX0_writeRowCalls 99 = .ok (.invokestatic 127, 3) := by decide +kernel
theorem dX0_writeRowCalls_102 : decode cX0_writeRowCalls 102 = .ok (.invokevirtual 130, 3) := by decide +kernel
theorem dX0_writeRowCalls_105 : decode cX0_writeRowCalls 105 = .ok (.iinc 3 1, 3) := by decide +kernel
theorem dX0_writeRowCalls_108 : decode cX0_writeRowCalls 108 = .ok (.goto (-32), 3) := by decide +kernel
theorem dX0_writeRowCalls_111 : decode cX0_writeRowCalls 111 = .ok (.aload_n 0, 1) := by decide +kernel
theorem dX0_writeRowCalls_112 : decode cX0_writeRowCalls 112 = .ok (.iconst 1, 1) := by decide +kernel
theorem dX0_writeRowCalls_113 : decode cX0_writeRowCalls 113 = .ok (.invokevirtual 72, 3) := by decide +kernel
theorem dX0_writeRowCalls_116 : decode cX0_writeRowCalls 116 = .ok (.aload_n 0, 1) := by decide +kernel
theorem dX0_writeRowCalls_117 : decode cX0_writeRowCalls 117 = .ok (.aload_n 0, 1) := by decide +kernel
theorem dX0_writeRowCalls_118 : decode cX0_writeRowCalls 118 = .ok (.getfield 35, 3) := by decide +kernel
theorem dX0_writeRowCalls_121 : decode cX0_writeRowCalls 121 = .ok (.putfield 134, 3) := by decide +kernel
theorem dX0_writeRowCalls_124 : decode cX0_writeRowCalls 124 = .ok (.iconst 0, 1) := by decide +kernel
theorem dX0_writeRowCalls_125 : decode cX0_writeRowCalls 125 = .ok (.istore_n 3, 1) := by decide +kernel
theorem dX0_writeRowCalls_126 : decode cX0_writeRowCalls 126 = .ok (.iload_n 3, 1) := by decide +kernel
theorem dX0_writeRowCalls_127 : decode cX0_writeRowCalls 127 = .ok (.aload_n 0, 1) := by decide +kernel
theorem dX0_writeRowCalls_128 : decode cX0_writeRowCalls 128 = .ok (.getfield 21, 3) := by decide +kernel
theorem dX0_writeRowCalls_131 : decode cX0_writeRowCalls 131 = .ok (.invokevirtual 115, 3) := by decide +kernel
theorem dX0_writeRowCalls_134 : decode cX0_writeRowCalls 134 = .ok (.if_icmp .ge 27, 3) := by decide +kernel
theorem dX0_writeRowCalls_137 : decode cX0_writeRowCalls 137 = .ok (.aload_n 0, 1) := by decide +kernel
theorem dX0_writeRowCalls_138 : decode cX0_writeRowCalls 138 = .ok (.iload_n 3, 1) := by decide +kernel
theorem dX0_writeRowCalls_139 : decode cX0_writeRowCalls 139 = .ok (.iload_n 2, 1) := by decide +kernel
theorem dX0_writeRowCalls_140 : decode cX0_writeRowCalls 140 = .ok (.bipush 6, 2) := by decide +kernel
theorem dX0_writeRowCalls_142 : decode cX0_writeRowCalls 142 = .ok (.bipush 6, 2) := by decide +kernel
theorem dX0_writeRowCalls_144 : decode cX0_writeRowCalls 144 = .ok (.aload_n 0, 1) := by decide +kernel
theorem dX0_writeRowCalls_145 : decode cX0_writeRowCalls 145 = .ok (.iload_n 3, 1) := by decide +kernel
theorem dX0_writeRowCalls_146 : decode cX0_writeRowCalls 146 = .ok (.invokevirtual 123, 3) := by decide +kernel
theorem dX0_writeRowCalls_149 : decode cX0_writeRowCalls 149 = .ok (.invokestatic 45, 3) := by decide +kernel
theorem dX0_writeRowCalls_152 : decode cX0_writeRowCalls 152 = .ok (.invokevirtual 130, 3) := by decide +kernel
theorem dX0_writeRowCalls_155 : decode cX0_writeRowCalls 155 = .ok (.iinc 3 1, 3) := by decide +kernel
theorem dX0_writeRowCalls_158 : decode cX0_writeRowCalls 158 = .ok (.goto (-32), 3) := by decide +kernel
theorem dX0_writeRowCalls_161 : decode cX0_writeRowCalls 161 = .ok (.return_, 1) := by decide +kernel
theorem dX0_writeRowCall_0 : decode cX0_writeRowCall 0 = .ok (.aload_n 0, 1) := by decide +kernel
theorem dX0_writeRowCall_1 : decode cX0_writeRowCall 1 = .ok (.getfield 21, 3) := by decide +kernel
theorem dX0_writeRowCall_4 : decode cX0_writeRowCall 4 = .ok (.iload_n 1, 1) := by decide +kernel
theorem dX0_writeRowCall_5 : decode cX0_writeRowCall 5 = .ok (.invokevirtual 116, 3) := by decide +kernel
theorem dX0_writeRowCall_8 : decode cX0_writeRowCall 8 = .ok (.ifCond .eq 57, 3) := by decide +kernel
theorem dX0_writeRowCall_11 : decode cX0_writeRowCall 11 = .ok (.aload_n 0, 1) := by decide +kernel
theorem dX0_writeRowCall_12 : decode cX0_writeRowCall 12 = .ok (.iconst 5, 1) := by decide +kernel
theorem dX0_writeRowCall_13 : decode cX0_writeRowCall 13 = .ok (.bipush 6, 2) := by decide +kernel
theorem dX0_writeRowCall_15 : decode cX0_writeRowCall 15 = .ok (.aload_n 0, 1) := by decide +kernel
theorem dX0_writeRowCall_16 : decode cX0_writeRowCall 16 = .ok (.getfield 21, 3) := by decide +kernel
theorem dX0_writeRowCall_19 : decode cX0_writeRowCall 19 = .ok (.iload_n 1, 1) := by decide +kernel
theorem dX0_writeRowCall_20 : decode cX0_writeRowCall 20 = .ok (.invokevirtual 137, 3) := by decide +kernel
theorem dX0_writeRowCall_23 : decode cX0_writeRowCall 23 = .ok (.invokestatic 140, 3) := by decide +kernel
theorem dX0_writeRowCall_26 : decode cX0_writeRowCall 26 = .ok (.invokevirtual 51, 3) := by decide +kernel
theorem dX0_writeRowCall_29 : decode cX0_writeRowCall 29 = .ok (.aload_n 0, 1) := by decide +kernel
theorem dX0_writeRowCall_30 : decode cX0_writeRowCall 30 = .ok (.iconst 5, 1) := by decide +kernel
theorem dX0_writeRowCall_31 : decode cX0_writeRowCall 31 = .ok (.iconst 0, 1) := by decide +kernel
theorem dX0_writeRowCall_32 : decode cX0_writeRowCall 32 = .ok (.iload_n 2, 1) := by decide +kernel
theorem dX0_writeRowCall_33 : decode cX0_writeRowCall 33 = .ok (.aload_n 0, 1) := by decide +kernel
theorem dX0_writeRowCall_34 : decode cX0_writeRowCall 34 = .ok (.getfield 35, 3) := by decide +kernel
theorem dX0_writeRowCall_37 : decode cX0_writeRowCall 37 = .ok (.isub, 1) := by decide +kernel
theorem dX0_writeRowCall_38 : decode cX0_writeRowCall 38 = .ok (.invokestatic 96, 3) := by decide +kernel
theorem dX0_writeRowCall_41 : decode cX0_writeRowCall 41 = .ok (.invokevirtual 51, 3) := by decide +kernel
theorem dX0_writeRowCall_44 : decode cX0_writeRowCall 44 = .ok (.aload_n 0, 1) := by decide +kernel
theorem dX0_writeRowCall_45 : decode cX0_writeRowCall 45 = .ok (.bipush 6, 2) := by decide +kernel
theorem dX0_writeRowCall_47 : decode cX0_writeRowCall 47 = .ok (.bipush 6, 2) := by decide +kernel
theorem dX0_writeRowCall_49 : decode cX0_writeRowCall 49 = .ok (.iconst 2, 1) := by decide +kernel
theorem dX0_writeRowCall_50 : decode cX0_writeRowCall 50 = .ok (.invokestatic 143, 3) := by decide +kernel
theorem dX0_writeRowCall_53 : decode cX0_writeRowCall 53 = .ok (.invokevirtual 51, 3) := by decide +kernel
theorem dX0_writeRowCall_56 : decode cX0_writeRowCall 56 = .ok (.aload_n 0, 1) := by decide +kernel
theorem dX0_writeRowCall_57 : decode cX0_writeRowCall 57 = .ok (.iload_n 3, 1) := by decide +kernel
theorem dX0_writeRowCall_58 : decode cX0_writeRowCall 58 = .ok (.invokevirtual 51, 3) := by decide +kernel
theorem dX0_writeRowCall_61 : decode cX0_writeRowCall 61 = .ok (.aload_n 0, 1) := by decide +kernel
theorem dX0_writeRowCall_62 : decode cX0_writeRowCall 62 = .ok (.invokevirtual 99, 3) := by decide +kernel
theorem dX0_writeRowCall_65 : decode cX0_writeRowCall 65 = .ok (.return_, 1) := by decide +kernel
theorem dX0_rowCall_0 : decode cX0_rowCall 0 = .ok (.iload_n 2, 1) := by decide +kernel
theorem dX0_rowCall_1 : decode cX0_rowCall 1 = .ok (.ifCond .lt 12, 3) := by decide +kernel
theorem dX0_rowCall_4 : decode cX0_rowCall 4 = .ok (.iload_n 2, 1) := by decide +kernel
theorem dX0_rowCall_5 : decode cX0_rowCall 5 = .ok (.aload_n 0, 1) := by decide +kernel
theorem dX0_rowCall_6 : decode cX0_rowCall 6 = .ok (.getfield 13, 3) := by decide +kernel
theorem dX0_rowCall_9 : decode cX0_rowCall 9 = .ok (.arraylength, 1) := by decide +kernel
theorem dX0_rowCall_10 : decode cX0_rowCall 10 = .ok (.if_icmp .lt 7, 3) := by decide +kernel
theorem dX0_rowCall_13 : decode cX0_rowCall 13 = .ok (.iload_n 1, 1) := by decide +kernel
theorem dX0_rowCall_14 : decode cX0_rowCall 14 = .ok (.goto 14, 3) := by decide +kernel
theorem dX0_rowCall_17 : decode cX0_rowCall 17 = .ok (.iload_n 1, 1) := by decide +kernel
theorem dX0_rowCall_18 : decode cX0_rowCall 18 = .ok (.aload_n 0, 1) := by decide +kernel
theorem dX0_rowCall_19 : decode cX0_rowCall 19 = .ok (.getfield 13, 3) := by decide +kernel
theorem dX0_rowCall_22 : decode cX0_rowCall 22 = .ok (.iload_n 2, 1) := by decide +kernel
theorem dX0_rowCall_23 : decode cX0_rowCall 23 = .ok (.iaload, 1) := by decide +kernel
theorem dX0_rowCall_24 : decode cX0_rowCall 24 = .ok (.bipush 20, 2) := by decide +kernel
theorem dX0_rowCall_26 : decode cX0_rowCall 26 = .ok (.imul, 1) := by decide +kernel
theorem dX0_rowCall_27 : decode cX0_rowCall 27 = .ok (.iadd, 1) := by decide +kernel
theorem dX0_rowCall_28 : decode cX0_rowCall 28 = .ok (.ireturn, 1) := by decide +kernel
theorem dX0_wordPlace_0 : decode cX0_wordPlace 0 = .ok (.iconst 0, 1) := by decide +kernel
theorem dX0_wordPlace_1 : decode cX0_wordPlace 1 = .ok (.aload_n 0, 1) := by decide +kernel
theorem dX0_wordPlace_2 : decode cX0_wordPlace 2 = .ok (.getfield 21, 3) := by decide +kernel
theorem dX0_wordPlace_5 : decode cX0_wordPlace 5 = .ok (.iload_n 1, 1) := by decide +kernel
theorem dX0_wordPlace_6 : decode cX0_wordPlace 6 = .ok (.invokevirtual 146, 3) := by decide +kernel
theorem dX0_wordPlace_9 : decode cX0_wordPlace 9 = .ok (.iconst 4, 1) := by decide +kernel
theorem dX0_wordPlace_10 : decode cX0_wordPlace 10 = .ok (.imul, 1) := by decide +kernel
theorem dX0_wordPlace_11 : decode cX0_wordPlace 11 = .ok (.iadd, 1) := by decide +kernel
theorem dX0_wordPlace_12 : decode cX0_wordPlace 12 = .ok (.ireturn, 1) := by decide +kernel
theorem dX0_hold_0 : decode cX0_hold 0 = .ok (.aload_n 0, 1) := by decide +kernel
theorem dX0_hold_1 : decode cX0_hold 1 = .ok (.iload_n 1, 1) := by decide +kernel
theorem dX0_hold_2 : decode cX0_hold 2 = .ok (.iconst 0, 1) := by decide +kernel
theorem dX0_hold_3 : decode cX0_hold 3 = .ok (.sipush 1200, 3) := by decide +kernel
theorem dX0_hold_6 : decode cX0_hold 6 = .ok (.aload_n 0, 1) := by decide +kernel
theorem dX0_hold_7 : decode cX0_hold 7 = .ok (.getfield 39, 3) := by decide +kernel
theorem dX0_hold_10 : decode cX0_hold 10 = .ok (.iconst 4, 1) := by decide +kernel
theorem dX0_hold_11 : decode cX0_hold 11 = .ok (.imul, 1) := by decide +kernel
theorem dX0_hold_12 : decode cX0_hold 12 = .ok (.iadd, 1) := by decide +kernel
theorem dX0_hold_13 : decode cX0_hold 13 = .ok (.invokestatic 112, 3) := by decide +kernel
theorem dX0_hold_16 : decode cX0_hold 16 = .ok (.invokevirtual 51, 3) := by decide +kernel
theorem dX0_hold_19 : decode cX0_hold 19 = .ok (.aload_n 0, 1) := by decide +kernel
theorem dX0_hold_20 : decode cX0_hold 20 = .ok (.dup, 1) := by decide +kernel
theorem dX0_hold_21 : decode cX0_hold 21 = .ok (.getfield 39, 3) := by decide +kernel
theorem dX0_hold_24 : decode cX0_hold 24 = .ok (.iconst 1, 1) := by decide +kernel
theorem dX0_hold_25 : decode cX0_hold 25 = .ok (.iadd, 1) := by decide +kernel
theorem dX0_hold_26 : decode cX0_hold 26 = .ok (.putfield 39, 3) := by decide +kernel
theorem dX0_hold_29 : decode cX0_hold 29 = .ok (.return_, 1) := by decide +kernel
theorem dX0_lookAtHeld_0 : decode cX0_lookAtHeld 0 = .ok (.aload_n 0, 1) := by decide +kernel
theorem dX0_lookAtHeld_1 : decode cX0_lookAtHeld 1 = .ok (.iload_n 1, 1) := by decide +kernel
theorem dX0_lookAtHeld_2 : decode cX0_lookAtHeld 2 = .ok (.iconst 0, 1) := by decide +kernel
theorem dX0_lookAtHeld_3 : decode cX0_lookAtHeld 3 = .ok (.sipush 1200, 3) := by decide +kernel
theorem dX0_lookAtHeld_6 : decode cX0_lookAtHeld 6 = .ok (.aload_n 0, 1) := by decide +kernel
theorem dX0_lookAtHeld_7 : decode cX0_lookAtHeld 7 = .ok (.getfield 39, 3) := by decide +kernel
theorem dX0_lookAtHeld_10 : decode cX0_lookAtHeld 10 = .ok (.iconst 1, 1) := by decide +kernel
theorem dX0_lookAtHeld_11 : decode cX0_lookAtHeld 11 = .ok (.isub, 1) := by decide +kernel
theorem dX0_lookAtHeld_12 : decode cX0_lookAtHeld 12 = .ok (.iconst 4, 1) := by decide +kernel
theorem dX0_lookAtHeld_13 : decode cX0_lookAtHeld 13 = .ok (.imul, 1) := by decide +kernel
theorem dX0_lookAtHeld_14 : decode cX0_lookAtHeld 14 = .ok (.iadd, 1) := by decide +kernel
theorem dX0_lookAtHeld_15 : decode cX0_lookAtHeld 15 = .ok (.invokestatic 127, 3) := by decide +kernel
theorem dX0_lookAtHeld_18 : decode cX0_lookAtHeld 18 = .ok (.invokevirtual 51, 3) := by decide +kernel
theorem dX0_lookAtHeld_21 : decode cX0_lookAtHeld 21 = .ok (.return_, 1) := by decide +kernel
theorem dX0_release_0 : decode cX0_release 0 = .ok (.aload_n 0, 1) := by decide +kernel
theorem dX0_release_1 : decode cX0_release 1 = .ok (.dup, 1) := by decide +kernel
theorem dX0_release_2 : decode cX0_release 2 = .ok (.getfield 39, 3) := by decide +kernel
theorem dX0_release_5 : decode cX0_release 5 = .ok (.iconst 1, 1) := by decide +kernel
theorem dX0_release_6 : decode cX0_release 6 = .ok (.isub, 1) := by decide +kernel
theorem dX0_release_7 : decode cX0_release 7 = .ok (.putfield 39, 3) := by decide +kernel
theorem dX0_release_10 : decode cX0_release 10 = .ok (.aload_n 0, 1) := by decide +kernel
theorem dX0_release_11 : decode cX0_release 11 = .ok (.iload_n 1, 1) := by decide +kernel
theorem dX0_release_12 : decode cX0_release 12 = .ok (.iconst 0, 1) := by decide +kernel
theorem dX0_release_13 : decode cX0_release 13 = .ok (.sipush 1200, 3) := by decide +kernel
theorem dX0_release_16 : decode cX0_release 16 = .ok (.aload_n 0, 1) := by decide +kernel
theorem dX0_release_17 : decode cX0_release 17 = .ok (.getfield 39, 3) := by decide +kernel
theorem dX0_release_20 : decode cX0_release 20 = .ok (.iconst 4, 1) := by decide +kernel
theorem dX0_release_21 : decode cX0_release 21 = .ok (.imul, 1) := by decide +kernel
theorem dX0_release_22 : decode cX0_release 22 = .ok (.iadd, 1) := by decide +kernel
theorem dX0_release_23 : decode cX0_release 23 = .ok (.invokestatic 127, 3) := by decide +kernel
theorem dX0_release_26 : decode cX0_release 26 = .ok (.invokevirtual 51, 3) := by decide +kernel
theorem dX0_release_29 : decode cX0_release 29 = .ok (.return_, 1) := by decide +kernel
theorem dX0_writeNode_0 : decode cX0_writeNode 0 = .ok (.aload_n 0, 1) := by decide +kernel
theorem dX0_writeNode_1 : decode cX0_writeNode 1 = .ok (.getfield 17, 3) := by decide +kernel
theorem dX0_writeNode_4 : decode cX0_writeNode 4 = .ok (.iload_n 1, 1) := by decide +kernel
theorem dX0_writeNode_5 : decode cX0_writeNode 5 = .ok (.invokevirtual 149, 3) := by decide +kernel
theorem dX0_writeNode_8 : decode cX0_writeNode 8 = .ok (.tableswitch 251 13 26 #[72, 72, 80, 126, 72, 203, 220, 236, 72, 72, 171, 188, 72, 150], 72) := by decide +kernel
theorem dX0_writeNode_80 : decode cX0_writeNode 80 = .ok (.aload_n 0, 1) := by decide +kernel
theorem dX0_writeNode_81 : decode cX0_writeNode 81 = .ok (.iload_n 1, 1) := by decide +kernel
theorem dX0_writeNode_82 : decode cX0_writeNode 82 = .ok (.invokevirtual 152, 3) := by decide +kernel
theorem dX0_writeNode_85 : decode cX0_writeNode 85 = .ok (.goto 174, 3) := by decide +kernel
theorem dX0_writeNode_88 : decode cX0_writeNode 88 = .ok (.aload_n 0, 1) := by decide +kernel
theorem dX0_writeNode_89 : decode cX0_writeNode 89 = .ok (.iload_n 1, 1) := by decide +kernel
theorem dX0_writeNode_90 : decode cX0_writeNode 90 = .ok (.iconst 1, 1) := by decide +kernel
theorem dX0_writeNode_91 : decode cX0_writeNode 91 = .ok (.isub, 1) := by decide +kernel
theorem dX0_writeNode_92 : decode cX0_writeNode 92 = .ok (.iconst 0, 1) := by decide +kernel
theorem dX0_writeNode_93 : decode cX0_writeNode 93 = .ok (.iconst 0, 1) := by decide +kernel
theorem dX0_writeNode_94 : decode cX0_writeNode 94 = .ok (.invokevirtual 155, 3) := by decide +kernel
theorem dX0_writeNode_97 : decode cX0_writeNode 97 = .ok (.aload_n 0, 1) := by decide +kernel
theorem dX0_writeNode_98 : decode cX0_writeNode 98 = .ok (.iload_n 1, 1) := by decide +kernel
theorem dX0_writeNode_99 : decode cX0_writeNode 99 = .ok (.aload_n 0, 1) := by decide +kernel
theorem dX0_writeNode_100 : decode cX0_writeNode 100 = .ok (.aload_n 0, 1) := by decide +kernel
theorem dX0_writeNode_101 : decode cX0_writeNode 101 = .ok (.getfield 134, 3) := by decide +kernel
theorem dX0_writeNode_104 : decode cX0_writeNode 104 = .ok (.aload_n 0, 1) := by decide +kernel
theorem dX0_writeNode_105 : decode cX0_writeNode 105 = .ok (.getfield 17, 3) := by decide +kernel
theorem dX0_writeNode_108 : decode cX0_writeNode 108 = .ok (.aload_n 0, 1) := by decide +kernel
theorem dX0_writeNode_109 : decode cX0_writeNode 109 = .ok (.getfield 17, 3) := by decide +kernel
theorem dX0_writeNode_112 : decode cX0_writeNode 112 = .ok (.iload_n 1, 1) := by decide +kernel
theorem dX0_writeNode_113 : decode cX0_writeNode 113 = .ok (.invokevirtual 158, 3) := by decide +kernel
theorem dX0_writeNode_116 : decode cX0_writeNode 116 = .ok (.invokevirtual 158, 3) := by decide +kernel
theorem dX0_writeNode_119 : decode cX0_writeNode 119 = .ok (.invokevirtual 161, 3) := by decide +kernel
theorem dX0_writeNode_122 : decode cX0_writeNode 122 = .ok (.invokevirtual 164, 3) := by decide +kernel
theorem dX0_writeNode_125 : decode cX0_writeNode 125 = .ok (.aload_n 0, 1) := by decide +kernel
theorem dX0_writeNode_126 : decode cX0_writeNode 126 = .ok (.bipush 6, 2) := by decide +kernel
theorem dX0_writeNode_128 : decode cX0_writeNode 128 = .ok (.invokevirtual 167, 3) := by decide +kernel
theorem dX0_writeNode_131 : decode cX0_writeNode 131 = .ok (.goto 128, 3) := by decide +kernel
theorem dX0_writeNode_134 : decode cX0_writeNode 134 = .ok (.aload_n 0, 1) := by decide +kernel
theorem dX0_writeNode_135 : decode cX0_writeNode 135 = .ok (.iload_n 1, 1) := by decide +kernel
theorem dX0_writeNode_136 : decode cX0_writeNode 136 = .ok (.iconst 1, 1) := by decide +kernel
theorem dX0_writeNode_137 : decode cX0_writeNode 137 = .ok (.isub, 1) := by decide +kernel
theorem dX0_writeNode_138 : decode cX0_writeNode 138 = .ok (.iconst 0, 1) := by decide +kernel
theorem dX0_writeNode_139 : decode cX0_writeNode 139 = .ok (.iconst 0, 1) := by decide +kernel
theorem dX0_writeNode_140 : decode cX0_writeNode 140 = .ok (.invokevirtual 155, 3) := by decide +kernel
theorem dX0_writeNode_143 : decode cX0_writeNode 143 = .ok (.aload_n 0, 1) := by decide +kernel
theorem dX0_writeNode_144 : decode cX0_writeNode 144 = .ok (.aload_n 0, 1) := by decide +kernel
theorem dX0_writeNode_145 : decode cX0_writeNode 145 = .ok (.getfield 17, 3) := by decide +kernel
theorem dX0_writeNode_148 : decode cX0_writeNode 148 = .ok (.iload_n 1, 1) := by decide +kernel
theorem dX0_writeNode_149 : decode cX0_writeNode 149 = .ok (.invokevirtual 158, 3) := by decide +kernel
theorem dX0_writeNode_152 : decode cX0_writeNode 152 = .ok (.invokevirtual 170, 3) := by decide +kernel
theorem dX0_writeNode_155 : decode cX0_writeNode 155 = .ok (.goto 104, 3) := by decide +kernel
theorem dX0_writeNode_158 : decode cX0_writeNode 158 = .ok (.aload_n 0, 1) := by decide +kernel
theorem dX0_writeNode_159 : decode cX0_writeNode 159 = .ok (.iload_n 1, 1) := by decide +kernel
theorem dX0_writeNode_160 : decode cX0_writeNode 160 = .ok (.iconst 1, 1) := by decide +kernel
theorem dX0_writeNode_161 : decode cX0_writeNode 161 = .ok (.isub, 1) := by decide +kernel
theorem dX0_writeNode_162 : decode cX0_writeNode 162 = .ok (.iconst 0, 1) := by decide +kernel
theorem dX0_writeNode_163 : decode cX0_writeNode 163 = .ok (.iconst 0, 1) := by decide +kernel
theorem dX0_writeNode_164 : decode cX0_writeNode 164 = .ok (.invokevirtual 155, 3) := by decide +kernel
theorem dX0_writeNode_167 : decode cX0_writeNode 167 = .ok (.aload_n 0, 1) := by decide +kernel
theorem dX0_writeNode_168 : decode cX0_writeNode 168 = .ok (.iload_n 1, 1) := by decide +kernel
theorem dX0_writeNode_169 : decode cX0_writeNode 169 = .ok (.aload_n 0, 1) := by decide +kernel
theorem dX0_writeNode_170 : decode cX0_writeNode 170 = .ok (.getfield 109, 3) := by decide +kernel
theorem dX0_writeNode_173 : decode cX0_writeNode 173 = .ok (.invokevirtual 164, 3) := by decide +kernel
theorem dX0_writeNode_176 : decode cX0_writeNode 176 = .ok (.goto 83, 3) := by decide +kernel
theorem dX0_writeNode_179 : decode cX0_writeNode 179 = .ok (.aload_n 0, 1) := by decide +kernel
theorem dX0_writeNode_180 : decode cX0_writeNode 180 = .ok (.iload_n 1, 1) := by decide +kernel
theorem dX0_writeNode_181 : decode cX0_writeNode 181 = .ok (.iconst 1, 1) := by decide +kernel
theorem dX0_writeNode_182 : decode cX0_writeNode 182 = .ok (.isub, 1) := by decide +kernel
theorem dX0_writeNode_183 : decode cX0_writeNode 183 = .ok (.iconst 0, 1) := by decide +kernel
theorem dX0_writeNode_184 : decode cX0_writeNode 184 = .ok (.iconst 0, 1) := by decide +kernel
theorem dX0_writeNode_185 : decode cX0_writeNode 185 = .ok (.invokevirtual 155, 3) := by decide +kernel
theorem dX0_writeNode_188 : decode cX0_writeNode 188 = .ok (.aload_n 0, 1) := by decide +kernel
theorem dX0_writeNode_189 : decode cX0_writeNode 189 = .ok (.iload_n 1, 1) := by decide +kernel
theorem dX0_writeNode_190 : decode cX0_writeNode 190 = .ok (.invokevirtual 173, 3) := by decide +kernel
theorem dX0_writeNode_193 : decode cX0_writeNode 193 = .ok (.goto 66, 3) := by decide +kernel
theorem dX0_writeNode_196 : decode cX0_writeNode 196 = .ok (.aload_n 0, 1) := by decide +kernel
theorem dX0_writeNode_197 : decode cX0_writeNode 197 = .ok (.aload_n 0, 1) := by decide +kernel
theorem dX0_writeNode_198 : decode cX0_writeNode 198 = .ok (.getfield 17, 3) := by decide +kernel
theorem dX0_writeNode_201 : decode cX0_writeNode 201 = .ok (.iload_n 1, 1) := by decide +kernel
theorem dX0_writeNode_202 : decode cX0_writeNode 202 = .ok (.invokevirtual 158, 3) := by decide +kernel
theorem dX0_writeNode_205 : decode cX0_writeNode 205 = .ok (.invokevirtual 176, 3) := by decide +kernel
theorem dX0_writeNode_208 : decode cX0_writeNode 208 = .ok (.goto 51, 3) := by decide +kernel
theorem dX0_writeNode_211 : decode cX0_writeNode 211 = .ok (.aload_n 0, 1) := by decide +kernel
theorem dX0_writeNode_212 : decode cX0_writeNode 212 = .ok (.iload_n 1, 1) := by decide +kernel
theorem dX0_writeNode_213 : decode cX0_writeNode 213 = .ok (.iconst 1, 1) := by decide +kernel
theorem dX0_writeNode_214 : decode cX0_writeNode 214 = .ok (.isub, 1) := by decide +kernel
theorem dX0_writeNode_215 : decode cX0_writeNode 215 = .ok (.iconst 0, 1) := by decide +kernel
theorem dX0_writeNode_216 : decode cX0_writeNode 216 = .ok (.iconst 0, 1) := by decide +kernel
theorem dX0_writeNode_217 : decode cX0_writeNode 217 = .ok (.invokevirtual 155, 3) := by decide +kernel
theorem dX0_writeNode_220 : decode cX0_writeNode 220 = .ok (.aload_n 0, 1) := by decide +kernel
theorem dX0_writeNode_221 : decode cX0_writeNode 221 = .ok (.iload_n 1, 1) := by decide +kernel
theorem dX0_writeNode_222 : decode cX0_writeNode 222 = .ok (.invokevirtual 179, 3) := by decide +kernel
theorem dX0_writeNode_225 : decode cX0_writeNode 225 = .ok (.goto 34, 3) := by decide +kernel
theorem dX0_writeNode_228 : decode cX0_writeNode 228 = .ok (.aload_n 0, 1) := by decide +kernel
theorem dX0_writeNode_229 : decode cX0_writeNode 229 = .ok (.iload_n 1, 1) := by decide +kernel
theorem dX0_writeNode_230 : decode cX0_writeNode 230 = .ok (.aload_n 0, 1) := by decide +kernel
theorem dX0_writeNode_231 : decode cX0_writeNode 231 = .ok (.getfield 17, 3) := by decide +kernel
theorem dX0_writeNode_234 : decode cX0_writeNode 234 = .ok (.iload_n 1, 1) := by decide +kernel
theorem dX0_writeNode_235 : decode cX0_writeNode 235 = .ok (.invokevirtual 158, 3) := by decide +kernel
theorem dX0_writeNode_238 : decode cX0_writeNode 238 = .ok (.invokevirtual 182, 3) := by decide +kernel
theorem dX0_writeNode_241 : decode cX0_writeNode 241 = .ok (.goto 18, 3) := by decide +kernel
theorem dX0_writeNode_244 : decode cX0_writeNode 244 = .ok (.aload_n 0, 1) := by decide +kernel
theorem dX0_writeNode_245 : decode cX0_writeNode 245 = .ok (.aload_n 0, 1) := by decide +kernel
theorem dX0_writeNode_246 : decode cX0_writeNode 246 = .ok (.getfield 17, 3) := by decide +kernel
theorem dX0_writeNode_249 : decode cX0_writeNode 249 = .ok (.iload_n 1, 1) := by decide +kernel
theorem dX0_writeNode_250 : decode cX0_writeNode 250 = .ok (.invokevirtual 158, 3) := by decide +kernel
theorem dX0_writeNode_253 : decode cX0_writeNode 253 = .ok (.invokevirtual 185, 3) := by decide +kernel
theorem dX0_writeNode_256 : decode cX0_writeNode 256 = .ok (.goto 3, 3) := by decide +kernel
theorem dX0_writeNode_259 : decode cX0_writeNode 259 = .ok (.return_, 1) := by decide +kernel
theorem dX0_writeStep_0 : decode cX0_writeStep 0 = .ok (.aload_n 0, 1) := by decide +kernel
theorem dX0_writeStep_1 : decode cX0_writeStep 1 = .ok (.getfield 42, 3) := by decide +kernel
theorem dX0_writeStep_4 : decode cX0_writeStep 4 = .ok (.ifCond .ne 12, 3) := by decide +kernel
theorem dX0_writeStep_7 : decode cX0_writeStep 7 = .ok (.aload_n 0, 1) := by decide +kernel
theorem dX0_writeStep_8 : decode cX0_writeStep 8 = .ok (.iload_n 1, 1) := by decide +kernel
theorem dX0_writeStep_9 : decode cX0_writeStep 9 = .ok (.aload_n 0, 1) := by decide +kernel
theorem dX0_writeStep_10 : decode cX0_writeStep 10 = .ok (.getfield 93, 3) := by decide +kernel
theorem dX0_writeStep_13 : decode cX0_writeStep 13 = .ok (.invokevirtual 164, 3) := by decide +kernel
theorem dX0_writeStep_16 : decode cX0_writeStep 16 = .ok (.return_, 1) := by decide +kernel
theorem dX0_writePut_0 : decode cX0_writePut 0 = .ok (.aload_n 0, 1) := by decide +kernel
theorem dX0_writePut_1 : decode cX0_writePut 1 = .ok (.getfield 17, 3) := by decide +kernel
theorem dX0_writePut_4 : decode cX0_writePut 4 = .ok (.iload_n 1, 1) := by decide +kernel
theorem dX0_writePut_5 : decode cX0_writePut 5 = .ok (.invokevirtual 149, 3) := by decide +kernel
theorem dX0_writePut_8 : decode cX0_writePut 8 = .ok (.bipush 14, 2) := by decide +kernel
theorem dX0_writePut_10 : decode cX0_writePut 10 = .ok (.if_icmp .ne 22, 3) := by decide +kernel
theorem dX0_writePut_13 : decode cX0_writePut 13 = .ok (.aload_n 0, 1) := by decide +kernel
theorem dX0_writePut_14 : decode cX0_writePut 14 = .ok (.bipush 7, 2) := by decide +kernel
theorem dX0_writePut_16 : decode cX0_writePut 16 = .ok (.invokevirtual 188, 3) := by decide +kernel
theorem dX0_writePut_19 : decode cX0_writePut 19 = .ok (.aload_n 0, 1) := by decide +kernel
theorem dX0_writePut_20 : decode cX0_writePut 20 = .ok (.bipush 6, 2) := by decide +kernel
theorem dX0_writePut_22 : decode cX0_writePut 22 = .ok (.bipush 7, 2) := by decide +kernel
theorem dX0_writePut_24 : decode cX0_writePut 24 = .ok (.iconst 0, 1) := by decide +kernel
theorem dX0_writePut_25 : decode cX0_writePut 25 = .ok (.invokestatic 112, 3) := by decide +kernel
theorem dX0_writePut_28 : decode cX0_writePut 28 = .ok (.invokevirtual 51, 3) := by decide +kernel
theorem dX0_writePut_31 : decode cX0_writePut 31 = .ok (.return_, 1) := by decide +kernel
theorem dX0_writePut_32 : decode cX0_writePut 32 = .ok (.aload_n 0, 1) := by decide +kernel
theorem dX0_writePut_33 : decode cX0_writePut 33 = .ok (.aload_n 0, 1) := by decide +kernel
theorem dX0_writePut_34 : decode cX0_writePut 34 = .ok (.getfield 17, 3) := by decide +kernel
theorem dX0_writePut_37 : decode cX0_writePut 37 = .ok (.iload_n 1, 1) := by decide +kernel
theorem dX0_writePut_38 : decode cX0_writePut 38 = .ok (.invokevirtual 158, 3) := by decide +kernel
theorem dX0_writePut_41 : decode cX0_writePut 41 = .ok (.invokevirtual 123, 3) := by decide +kernel
theorem dX0_writePut_44 : decode cX0_writePut 44 = .ok (.istore_n 2, 1) := by decide +kernel
theorem dX0_writePut_45 : decode cX0_writePut 45 = .ok (.aload_n 0, 1) := by decide +kernel
theorem dX0_writePut_46 : decode cX0_writePut 46 = .ok (.getfield 42, 3) := by decide +kernel
theorem dX0_writePut_49 : decode cX0_writePut 49 = .ok (.ifCond .le 31, 3) := by decide +kernel
theorem dX0_writePut_52 : decode cX0_writePut 52 = .ok (.aload_n 0, 1) := by decide +kernel
theorem dX0_writePut_53 : decode cX0_writePut 53 = .ok (.bipush 7, 2) := by decide +kernel
theorem dX0_writePut_55 : decode cX0_writePut 55 = .ok (.iconst 0, 1) := by decide +kernel
theorem dX0_writePut_56 : decode cX0_writePut 56 = .ok (.iload_n 2, 1) := by decide +kernel
theorem dX0_writePut_57 : decode cX0_writePut 57 = .ok (.invokestatic 127, 3) := by decide +kernel
theorem dX0_writePut_60 : decode cX0_writePut 60 = .ok (.invokevirtual 51, 3) := by decide +kernel
theorem dX0_writePut_63 : decode cX0_writePut 63 = .ok (.aload_n 0, 1) := by decide +kernel
theorem dX0_writePut_64 : decode cX0_writePut 64 = .ok (.iconst 1, 1) := by decide +kernel
theorem dX0_writePut_65 : decode cX0_writePut 65 = .ok (.aload_n 0, 1) := by decide +kernel
theorem dX0_writePut_66 : decode cX0_writePut 66 = .ok (.getfield 102, 3) := by decide +kernel
theorem dX0_writePut_69 : decode cX0_writePut 69 = .ok (.aload_n 0, 1) := by decide +kernel
theorem dX0_writePut_70 : decode cX0_writePut 70 = .ok (.getfield 35, 3) := by decide +kernel
theorem dX0_writePut_73 : decode cX0_writePut 73 = .ok (.isub, 1) := by decide +kernel
theorem dX0_writePut_74 : decode cX0_writePut 74 = .ok (.invokestatic 79, 3) := by decide +kernel
theorem dX0_writePut_77 : decode cX0_writePut 77 = .ok (.invokevirtual 51, 3) := by decide +kernel
theorem dX0_writePut_80 : decode cX0_writePut 80 = .ok (.aload_n 0, 1) := by decide +kernel
theorem dX0_writePut_81 : decode cX0_writePut 81 = .ok (.bipush 6, 2) := by decide +kernel
theorem dX0_writePut_83 : decode cX0_writePut 83 = .ok (.iconst 0, 1) := by decide +kernel
theorem dX0_writePut_84 : decode cX0_writePut 84 = .ok (.iload_n 2, 1) := by decide +kernel
theorem dX0_writePut_85 : decode cX0_writePut 85 = .ok (.invokestatic 112, 3) := by decide +kernel
theorem dX0_writePut_88 : decode cX0_writePut 88 = .ok (.invokevirtual 51, 3) := by decide +kernel
theorem dX0_writePut_91 : decode cX0_writePut 91 = .ok (.return_, 1) := by decide +kernel
theorem dX0_writeOpenJump_0 : decode cX0_writeOpenJump 0 = .ok (.aload_n 0, 1) := by decide +kernel
theorem dX0_writeOpenJump_1 : decode cX0_writeOpenJump 1 = .ok (.bipush 6, 2) := by decide +kernel
theorem dX0_writeOpenJump_3 : decode cX0_writeOpenJump 3 = .ok (.iconst 0, 1) := by decide +kernel
theorem dX0_writeOpenJump_4 : decode cX0_writeOpenJump 4 = .ok (.bipush 8, 2) := by decide +kernel
theorem dX0_writeOpenJump_6 : decode cX0_writeOpenJump 6 = .ok (.invokestatic 191, 3) := by decide +kernel
theorem dX0_writeOpenJump_9 : decode cX0_writeOpenJump 9 = .ok (.invokevirtual 51, 3) := by decide +kernel
theorem dX0_writeOpenJump_12 : decode cX0_writeOpenJump 12 = .ok (.aload_n 0, 1) := by decide +kernel
theorem dX0_writeOpenJump_13 : decode cX0_writeOpenJump 13 = .ok (.getfield 17, 3) := by decide +kernel
theorem dX0_writeOpenJump_16 : decode cX0_writeOpenJump 16 = .ok (.iload_n 1, 1) := by decide +kernel
theorem dX0_writeOpenJump_17 : decode cX0_writeOpenJump 17 = .ok (.aload_n 0, 1) := by decide +kernel
theorem dX0_writeOpenJump_18 : decode cX0_writeOpenJump 18 = .ok (.getfield 35, 3) := by decide +kernel
theorem dX0_writeOpenJump_21 : decode cX0_writeOpenJump 21 = .ok (.invokevirtual 194, 3) := by decide +kernel
theorem dX0_writeOpenJump_24 : decode cX0_writeOpenJump 24 = .ok (.aload_n 0, 1) := by decide +kernel
theorem dX0_writeOpenJump_25 : decode cX0_writeOpenJump 25 = .ok (.iconst 0, 1) := by decide +kernel
theorem dX0_writeOpenJump_26 : decode cX0_writeOpenJump 26 = .ok (.invokevirtual 51, 3) := by decide +kernel
theorem dX0_writeOpenJump_29 : decode cX0_writeOpenJump 29 = .ok (.return_, 1) := by decide +kernel
theorem dX0_writeThen_0 : decode cX0_writeThen 0 = .ok (.aload_n 0, 1) := by decide +kernel
theorem dX0_writeThen_1 : decode cX0_writeThen 1 = .ok (.getfield 17, 3) := by decide +kernel
theorem dX0_writeThen_4 : decode cX0_writeThen 4 = .ok (.iload_n 1, 1) := by decide +kernel
theorem dX0_writeThen_5 : decode cX0_writeThen 5 = .ok (.invokevirtual 197, 3) := by decide +kernel
theorem dX0_writeThen_8 : decode cX0_writeThen 8 = .ok (.ifCond .ne 9, 3) := by decide +kernel
theorem dX0_writeThen_11 : decode cX0_writeThen 11 = .ok (.aload_n 0, 1) := by decide +kernel
theorem dX0_writeThen_12 : decode cX0_writeThen 12 = .ok (.iload_n 1, 1) := by decide +kernel
theorem dX0_writeThen_13 : decode cX0_writeThen 13 = .ok (.invokevirtual 173, 3) := by decide +kernel
theorem dX0_writeThen_16 : decode cX0_writeThen 16 = .ok (.return_, 1) := by decide +kernel
theorem dX0_writeThen_17 : decode cX0_writeThen 17 = .ok (.aload_n 0, 1) := by decide +kernel
theorem dX0_writeThen_18 : decode cX0_writeThen 18 = .ok (.dup, 1) := by decide +kernel
theorem dX0_writeThen_19 : decode cX0_writeThen 19 = .ok (.getfield 42, 3) := by decide +kernel
theorem dX0_writeThen_22 : decode cX0_writeThen 22 = .ok (.iconst 1, 1) := by decide +kernel
theorem dX0_writeThen_23 : decode cX0_writeThen 23 = .ok (.iadd, 1) := by decide +kernel
theorem dX0_writeThen_24 : decode cX0_writeThen 24 = .ok (.putfield 42, 3) := by decide +kernel
theorem dX0_writeThen_27 : decode cX0_writeThen 27 = .ok (.aload_n 0, 1) := by decide +kernel
theorem dX0_writeThen_28 : decode cX0_writeThen 28 = .ok (.iconst 3, 1) := by decide +kernel
theorem dX0_writeThen_29 : decode cX0_writeThen 29 = .ok (.invokevirtual 167, 3) := by decide +kernel
theorem dX0_writeThen_32 : decode cX0_writeThen 32 = .ok (.aload_n 0, 1) := by decide +kernel
theorem dX0_writeThen_33 : decode cX0_writeThen 33 = .ok (.bipush 6, 2) := by decide +kernel
theorem dX0_writeThen_35 : decode cX0_writeThen 35 = .ok (.bipush 6, 2) := by decide +kernel
theorem dX0_writeThen_37 : decode cX0_writeThen 37 = .ok (.iconst 1, 1) := by decide +kernel
theorem dX0_writeThen_38 : decode cX0_writeThen 38 = .ok (.invokestatic 140, 3) := by decide +kernel
theorem dX0_writeThen_41 : decode cX0_writeThen 41 = .ok (.invokevirtual 51, 3) := by decide +kernel
theorem dX0_writeThen_44 : decode cX0_writeThen 44 = .ok (.aload_n 0, 1) := by decide +kernel
theorem dX0_writeThen_45 : decode cX0_writeThen 45 = .ok (.bipush 6, 2) := by decide +kernel
theorem dX0_writeThen_47 : decode cX0_writeThen 47 = .ok (.bipush 6, 2) := by decide +kernel
theorem dX0_writeThen_49 : decode cX0_writeThen 49 = .ok (.iconst (-1), 1) := by decide +kernel
theorem dX0_writeThen_50 : decode cX0_writeThen 50 = .ok (.invokestatic 45, 3) := by decide +kernel
theorem dX0_writeThen_53 : decode cX0_writeThen 53 = .ok (.invokevirtual 51, 3) := by decide +kernel
theorem dX0_writeThen_56 : decode cX0_writeThen 56 = .ok (.aload_n 0, 1) := by decide +kernel
theorem dX0_writeThen_57 : decode cX0_writeThen 57 = .ok (.bipush 38, 2) := by decide +kernel
theorem dX0_writeThen_59 : decode cX0_writeThen 59 = .ok (.iconst 3, 1) := by decide +kernel
theorem dX0_writeThen_60 : decode cX0_writeThen 60 = .ok (.iconst 3, 1) := by decide +kernel
theorem dX0_writeThen_61 : decode cX0_writeThen 61 = .ok (.bipush 6, 2) := by decide +kernel
theorem dX0_writeThen_63 : decode cX0_writeThen 63 = .ok (.invokestatic 105, 3) := by decide +kernel
theorem dX0_writeThen_66 : decode cX0_writeThen 66 = .ok (.invokevirtual 51, 3) := by decide +kernel
theorem dX0_writeThen_69 : decode cX0_writeThen 69 = .ok (.return_, 1) := by decide +kernel
theorem dX0_writeElse_0 : decode cX0_writeElse 0 = .ok (.aload_n 0, 1) := by decide +kernel
theorem dX0_writeElse_1 : decode cX0_writeElse 1 = .ok (.getfield 17, 3) := by decide +kernel
theorem dX0_writeElse_4 : decode cX0_writeElse 4 = .ok (.iload_n 2, 1) := by decide +kernel
theorem dX0_writeElse_5 : decode cX0_writeElse 5 = .ok (.invokevirtual 197, 3) := by decide +kernel
theorem dX0_writeElse_8 : decode cX0_writeElse 8 = .ok (.ifCond .eq 21, 3) := by decide +kernel
theorem dX0_writeElse_11 : decode cX0_writeElse 11 = .ok (.aload_n 0, 1) := by decide +kernel
theorem dX0_writeElse_12 : decode cX0_writeElse 12 = .ok (.iconst 5, 1) := by decide +kernel
theorem dX0_writeElse_13 : decode cX0_writeElse 13 = .ok (.invokevirtual 200, 3) := by decide +kernel
theorem dX0_writeElse_16 : decode cX0_writeElse 16 = .ok (.aload_n 0, 1) := by decide +kernel
theorem dX0_writeElse_17 : decode cX0_writeElse 17 = .ok (.bipush 94, 2) := by decide +kernel
theorem dX0_writeElse_19 : decode cX0_writeElse 19 = .ok (.iconst 3, 1) := by decide +kernel
theorem dX0_writeElse_20 : decode cX0_writeElse 20 = .ok (.iconst 3, 1) := by decide +kernel
theorem dX0_writeElse_21 : decode cX0_writeElse 21 = .ok (.iconst 5, 1) := by decide +kernel
theorem dX0_writeElse_22 : decode cX0_writeElse 22 = .ok (.invokestatic 105, 3) := by decide +kernel
theorem dX0_writeElse_25 : decode cX0_writeElse 25 = .ok (.invokevirtual 51, 3) := by decide +kernel
theorem dX0_writeElse_28 : decode cX0_writeElse 28 = .ok (.return_, 1) := by decide +kernel
theorem dX0_writeElse_29 : decode cX0_writeElse 29 = .ok (.aload_n 0, 1) := by decide +kernel
theorem dX0_writeElse_30 : decode cX0_writeElse 30 = .ok (.getfield 17, 3) := by decide +kernel
theorem dX0_writeElse_33 : decode cX0_writeElse 33 = .ok (.iload_n 1, 1) := by decide +kernel
theorem dX0_writeElse_34 : decode cX0_writeElse 34 = .ok (.aload_n 0, 1) := by decide +kernel
theorem dX0_writeElse_35 : decode cX0_writeElse 35 = .ok (.getfield 35, 3) := by decide +kernel
theorem dX0_writeElse_38 : decode cX0_writeElse 38 = .ok (.invokevirtual 194, 3) := by decide +kernel
theorem dX0_writeElse_41 : decode cX0_writeElse 41 = .ok (.aload_n 0, 1) := by decide +kernel
theorem dX0_writeElse_42 : decode cX0_writeElse 42 = .ok (.iconst 0, 1) := by decide +kernel
theorem dX0_writeElse_43 : decode cX0_writeElse 43 = .ok (.invokevirtual 51, 3) := by decide +kernel
theorem dX0_writeElse_46 : decode cX0_writeElse 46 = .ok (.aload_n 0, 1) := by decide +kernel
theorem dX0_writeElse_47 : decode cX0_writeElse 47 = .ok (.aload_n 0, 1) := by decide +kernel
theorem dX0_writeElse_48 : decode cX0_writeElse 48 = .ok (.getfield 17, 3) := by decide +kernel
theorem dX0_writeElse_51 : decode cX0_writeElse 51 = .ok (.iload_n 2, 1) := by decide +kernel
theorem dX0_writeElse_52 : decode cX0_writeElse 52 = .ok (.invokevirtual 203, 3) := by decide +kernel
theorem dX0_writeElse_55 : decode cX0_writeElse 55 = .ok (.invokevirtual 60, 3) := by decide +kernel
theorem dX0_writeElse_58 : decode cX0_writeElse 58 = .ok (.return_, 1) := by decide +kernel
theorem dX0_writeEndOfIf_0 : decode cX0_writeEndOfIf 0 = .ok (.aload_n 0, 1) := by decide +kernel
theorem dX0_writeEndOfIf_1 : decode cX0_writeEndOfIf 1 = .ok (.getfield 17, 3) := by decide +kernel
theorem dX0_writeEndOfIf_4 : decode cX0_writeEndOfIf 4 = .ok (.iload_n 1, 1) := by decide +kernel
theorem dX0_writeEndOfIf_5 : decode cX0_writeEndOfIf 5 = .ok (.invokevirtual 197, 3) := by decide +kernel
theorem dX0_writeEndOfIf_8 : decode cX0_writeEndOfIf 8 = .ok (.ifCond .eq 19, 3) := by decide +kernel
theorem dX0_writeEndOfIf_11 : decode cX0_writeEndOfIf 11 = .ok (.aload_n 0, 1) := by decide +kernel
theorem dX0_writeEndOfIf_12 : decode cX0_writeEndOfIf 12 = .ok (.iconst 3, 1) := by decide +kernel
theorem dX0_writeEndOfIf_13 : decode cX0_writeEndOfIf 13 = .ok (.invokevirtual 188, 3) := by decide +kernel
theorem dX0_writeEndOfIf_16 : decode cX0_writeEndOfIf 16 = .ok (.aload_n 0, 1) := by decide +kernel
theorem dX0_writeEndOfIf_17 : decode cX0_writeEndOfIf 17 = .ok (.dup, 1) := by decide +kernel
theorem dX0_writeEndOfIf_18 : decode cX0_writeEndOfIf 18 = .ok (.getfield 42, 3) := by decide +kernel
theorem dX0_writeEndOfIf_21 : decode cX0_writeEndOfIf 21 = .ok (.iconst 1, 1) := by decide +kernel
theorem dX0_writeEndOfIf_22 : decode cX0_writeEndOfIf 22 = .ok (.isub, 1) := by decide +kernel
theorem dX0_writeEndOfIf_23 : decode cX0_writeEndOfIf 23 = .ok (.putfield 42, 3) := by decide +kernel
theorem dX0_writeEndOfIf_26 : decode cX0_writeEndOfIf 26 = .ok (.return_, 1) := by decide +kernel
theorem dX0_writeEndOfIf_27 : decode cX0_writeEndOfIf 27 = .ok (.aload_n 0, 1) := by decide +kernel
theorem dX0_writeEndOfIf_28 : decode cX0_writeEndOfIf 28 = .ok (.getfield 17, 3) := by decide +kernel
theorem dX0_writeEndOfIf_31 : decode cX0_writeEndOfIf 31 = .ok (.iload_n 1, 1) := by decide +kernel
theorem dX0_writeEndOfIf_32 : decode cX0_writeEndOfIf 32 = .ok (.invokevirtual 158, 3) := by decide +kernel
theorem dX0_writeEndOfIf_35 : decode cX0_writeEndOfIf 35 = .ok (.istore_n 2, 1) := by decide +kernel
theorem dX0_writeEndOfIf_36 : decode cX0_writeEndOfIf 36 = .ok (.aload_n 0, 1) := by decide +kernel
theorem dX0_writeEndOfIf_37 : decode cX0_writeEndOfIf 37 = .ok (.aload_n 0, 1) := by decide +kernel
theorem dX0_writeEndOfIf_38 : decode cX0_writeEndOfIf 38 = .ok (.getfield 17, 3) := by decide +kernel
theorem dX0_writeEndOfIf_41 : decode cX0_writeEndOfIf 41 = .ok (.iload_n 2, 1) := by decide +kernel
theorem dX0_writeEndOfIf_42 : decode cX0_writeEndOfIf 42 = .ok (.iconst (-1), 1) := by decide +kernel
theorem dX0_writeEndOfIf_43 : decode cX0_writeEndOfIf 43 = .ok (.if_icmp .ne 7, 3) := by decide +kernel
theorem dX0_writeEndOfIf_46 : decode cX0_writeEndOfIf 46 = .ok (.iload_n 1, 1) := by decide +kernel
theorem dX0_writeEndOfIf_47 : decode cX0_writeEndOfIf 47 = .ok (.goto 4, 3) := by decide +kernel
theorem dX0_writeEndOfIf_50 : decode cX0_writeEndOfIf 50 = .ok (.iload_n 2, 1) := by decide +kernel
theorem dX0_writeEndOfIf_51 : decode cX0_writeEndOfIf 51 = .ok (.invokevirtual 203, 3) := by decide +kernel
theorem dX0_writeEndOfIf_54 : decode cX0_writeEndOfIf 54 = .ok (.invokevirtual 60, 3) := by decide +kernel
theorem dX0_writeEndOfIf_57 : decode cX0_writeEndOfIf 57 = .ok (.return_, 1) := by decide +kernel
theorem dX0_writeEndOfWhile_0 : decode cX0_writeEndOfWhile 0 = .ok (.aload_n 0, 1) := by decide +kernel
theorem dX0_writeEndOfWhile_1 : decode cX0_writeEndOfWhile 1 = .ok (.getfield 17, 3) := by decide +kernel
theorem dX0_writeEndOfWhile_4 : decode cX0_writeEndOfWhile 4 = .ok (.aload_n 0, 1) := by decide +kernel
theorem dX0_writeEndOfWhile_5 : decode cX0_writeEndOfWhile 5 = .ok (.getfield 17, 3) := by decide +kernel
theorem dX0_writeEndOfWhile_8 : decode cX0_writeEndOfWhile 8 = .ok (.iload_n 1, 1) := by decide +kernel
theorem dX0_writeEndOfWhile_9 : decode cX0_writeEndOfWhile 9 = .ok (.invokevirtual 158, 3) := by decide +kernel
theorem dX0_writeEndOfWhile_12 : decode cX0_writeEndOfWhile 12 = .ok (.invokevirtual 206, 3) := by decide +kernel
theorem dX0_writeEndOfWhile_15 : decode cX0_writeEndOfWhile 15 = .ok (.iconst 4, 1) := by decide +kernel
theorem dX0_writeEndOfWhile_16 : decode cX0_writeEndOfWhile 16 = .ok (.isub, 1) := by decide +kernel
theorem dX0_writeEndOfWhile_17 : decode cX0_writeEndOfWhile 17 = .ok (.istore_n 2, 1) := by decide +kernel
theorem dX0_writeEndOfWhile_18 : decode cX0_writeEndOfWhile 18 = .ok (.aload_n 0, 1) := by decide +kernel
theorem dX0_writeEndOfWhile_19 : decode cX0_writeEndOfWhile 19 = .ok (.iconst 0, 1) := by decide +kernel
theorem dX0_writeEndOfWhile_20 : decode cX0_writeEndOfWhile 20 = .ok (.iload_n 2, 1) := by decide +kernel
theorem dX0_writeEndOfWhile_21 : decode cX0_writeEndOfWhile 21 = .ok (.aload_n 0, 1) := by decide +kernel
theorem dX0_writeEndOfWhile_22 : decode cX0_writeEndOfWhile 22 = .ok (.getfield 35, 3) := by decide +kernel
theorem dX0_writeEndOfWhile_25 : decode cX0_writeEndOfWhile 25 = .ok (.isub, 1) := by decide +kernel
theorem dX0_writeEndOfWhile_26 : decode cX0_writeEndOfWhile 26 = .ok (.invokestatic 79, 3) := by decide +kernel
theorem dX0_writeEndOfWhile_29 : decode cX0_writeEndOfWhile 29 = .ok (.invokevirtual 51, 3) := by decide +kernel
theorem dX0_writeEndOfWhile_32 : decode cX0_writeEndOfWhile 32 = .ok (.aload_n 0, 1) := by decide +kernel
theorem dX0_writeEndOfWhile_33 : decode cX0_writeEndOfWhile 33 = .ok (.aload_n 0, 1) := by decide +kernel
theorem dX0_writeEndOfWhile_34 : decode cX0_writeEndOfWhile 34 = .ok (.getfield 17, 3) := by decide +kernel
theorem dX0_writeEndOfWhile_37 : decode cX0_writeEndOfWhile 37 = .ok (.iload_n 1, 1) := by decide +kernel
theorem dX0_writeEndOfWhile_38 : decode cX0_writeEndOfWhile 38 = .ok (.invokevirtual 203, 3) := by decide +kernel
theorem dX0_writeEndOfWhile_41 : decode cX0_writeEndOfWhile 41 = .ok (.invokevirtual 60, 3) := by decide +kernel
theorem dX0_writeEndOfWhile_44 : decode cX0_writeEndOfWhile 44 = .ok (.return_, 1) := by decide +kernel
theorem dX0_writeValue_0 : decode cX0_writeValue 0 = .ok (.iload_n 3, 1) := by decide +kernel
theorem dX0_writeValue_1 : decode cX0_writeValue 1 = .ok (.bipush 120, 2) := by decide +kernel
theorem dX0_writeValue_3 : decode cX0_writeValue 3 = .ok (.if_icmp .le 4, 3) := by decide +kernel
theorem dX0_writeValue_6 : decode cX0_writeValue 6 = .ok (.return_, 1) := by decide +kernel
theorem dX0_writeValue_7 : decode cX0_writeValue 7 = .ok (.iload_n 1, 1) := by decide +kernel
theorem dX0_writeValue_8 : decode cX0_writeValue 8 = .ok (.istore 4, 2) := by decide +kernel
theorem dX0_writeValue_10 : decode cX0_writeValue 10 = .ok (.iload_n 2, 1) := by decide +kernel
theorem dX0_writeValue_11 : decode cX0_writeValue 11 = .ok (.istore 5, 2) := by decide +kernel
theorem dX0_writeValue_13 : decode cX0_writeValue 13 = .ok (.iconst 0, 1) := by decide +kernel
theorem dX0_writeValue_14 : decode cX0_writeValue 14 = .ok (.istore 6, 2) := by decide +kernel
theorem dX0_writeValue_16 : decode cX0_writeValue 16 = .ok (.iload 6, 2) := by decide +kernel
theorem dX0_writeValue_18 : decode cX0_writeValue 18 = .ok (.aload_n 0, 1) := by decide +kernel
theorem dX0_writeValue_19 : decode cX0_writeValue 19 = .ok (.getfield 17, 3) := by decide +kernel
theorem dX0_writeValue_22 : decode cX0_writeValue 22 = .ok (.invokevirtual 63, 3) := by decide +kernel
theorem dX0_writeValue_25 : decode cX0_writeValue 25 = .ok (.if_icmp .ge 85, 3) := by decide +kernel
theorem dX0_writeValue_28 : decode cX0_writeValue 28 = .ok (.aload_n 0, 1) := by decide +kernel
theorem dX0_writeValue_29 : decode cX0_writeValue 29 = .ok (.iload 4, 2) := by decide +kernel
theorem dX0_writeValue_31 : decode cX0_writeValue 31 = .ok (.invokevirtual 209, 3) := by decide +kernel
theorem dX0_writeValue_34 : decode cX0_writeValue 34 = .ok (.ifCond .ne 76, 3) := by decide +kernel
theorem dX0_writeValue_37 : decode cX0_writeValue 37 = .ok (.aload_n 0, 1) := by decide +kernel
theorem dX0_writeValue_38 : decode cX0_writeValue 38 = .ok (.iload 4, 2) := by decide +kernel
theorem dX0_writeValue_40 : decode cX0_writeValue 40 = .ok (.invokevirtual 212, 3) := by decide +kernel
theorem dX0_writeValue_43 : decode cX0_writeValue 43 = .ok (.ifCond .eq 15, 3) := by decide +kernel
theorem dX0_writeValue_46 : decode cX0_writeValue 46 = .ok (.aload_n 0, 1) := by decide +kernel
theorem dX0_writeValue_47 : decode cX0_writeValue 47 = .ok (.getfield 17, 3) := by decide +kernel
theorem dX0_writeValue_50 : decode cX0_writeValue 50 = .ok (.iload 4, 2) := by decide +kernel
theorem dX0_writeValue_52 : decode cX0_writeValue 52 = .ok (.invokevirtual 215, 3) := by decide +kernel
theorem dX0_writeValue_55 : decode cX0_writeValue 55 = .ok (.goto 7, 3) := by decide +kernel
theorem dX0_writeValue_58 : decode cX0_writeValue 58 = .ok (.iload 4, 2) := by decide +kernel
theorem dX0_writeValue_60 : decode cX0_writeValue 60 = .ok (.iconst 1, 1) := by decide +kernel
theorem dX0_writeValue_61 : decode cX0_writeValue 61 = .ok (.isub, 1) := by decide +kernel
theorem dX0_writeValue_62 : decode cX0_writeValue 62 = .ok (.istore 7, 2) := by decide +kernel
theorem dX0_writeValue_64 : decode cX0_writeValue 64 = .ok (.aload_n 0, 1) := by decide +kernel
theorem dX0_writeValue_65 : decode cX0_writeValue 65 = .ok (.getfield 17, 3) := by decide +kernel
theorem dX0_writeValue_68 : decode cX0_writeValue 68 = .ok (.iload 7, 2) := by decide +kernel
theorem dX0_writeValue_70 : decode cX0_writeValue 70 = .ok (.iload 4, 2) := by decide +kernel
theorem dX0_writeValue_72 : decode cX0_writeValue 72 = .ok (.invokevirtual 194, 3) := by decide +kernel
theorem dX0_writeValue_75 : decode cX0_writeValue 75 = .ok (.aload_n 0, 1) := by decide +kernel
theorem dX0_writeValue_76 : decode cX0_writeValue 76 = .ok (.iload 4, 2) := by decide +kernel
theorem dX0_writeValue_78 : decode cX0_writeValue 78 = .ok (.invokevirtual 218, 3) := by decide +kernel
theorem dX0_writeValue_81 : decode cX0_writeValue 81 = .ok (.ifCond .eq 19, 3) := by decide +kernel
theorem dX0_writeValue_84 : decode cX0_writeValue 84 = .ok (.aload_n 0, 1) := by decide +kernel
theorem dX0_writeValue_85 : decode cX0_writeValue 85 = .ok (.iload 4, 2) := by decide +kernel
theorem dX0_writeValue_87 : decode cX0_writeValue 87 = .ok (.iconst 1, 1) := by decide +kernel
theorem dX0_writeValue_88 : decode cX0_writeValue 88 = .ok (.isub, 1) := by decide +kernel
theorem dX0_writeValue_89 : decode cX0_writeValue 89 = .ok (.iload 5, 2) := by decide +kernel
theorem dX0_writeValue_91 : decode cX0_writeValue 91 = .ok (.iload_n 3, 1) := by decide +kernel
theorem dX0_writeValue_92 : decode cX0_writeValue 92 = .ok (.iconst 1, 1) := by decide +kernel
theorem dX0_writeValue_93 : decode cX0_writeValue 93 = .ok (.iadd, 1) := by decide +kernel
theorem dX0_writeValue_94 : decode cX0_writeValue 94 = .ok (.invokevirtual 155, 3) := by decide +kernel
theorem dX0_writeValue_97 : decode cX0_writeValue 97 = .ok (.iinc 5 1, 3) := by decide +kernel
theorem dX0_writeValue_100 : decode cX0_writeValue 100 = .ok (.iload 7, 2) := by decide +kernel
theorem dX0_writeValue_102 : decode cX0_writeValue 102 = .ok (.istore 4, 2) := by decide +kernel
theorem dX0_writeValue_104 : decode cX0_writeValue 104 = .ok (.iinc 6 1, 3) := by decide +kernel
theorem dX0_writeValue_107 : decode cX0_writeValue 107 = .ok (.goto (-91), 3) := by decide +kernel
theorem dX0_writeValue_110 : decode cX0_writeValue 110 = .ok (.aload_n 0, 1) := by decide +kernel
theorem dX0_writeValue_111 : decode cX0_writeValue 111 = .ok (.iload 4, 2) := by decide +kernel
theorem dX0_writeValue_113 : decode cX0_writeValue 113 = .ok (.iload 5, 2) := by decide +kernel
theorem dX0_writeValue_115 : decode cX0_writeValue 115 = .ok (.invokevirtual 221, 3) := by decide +kernel
theorem dX0_writeValue_118 : decode cX0_writeValue 118 = .ok (.iconst 0, 1) := by decide +kernel
theorem dX0_writeValue_119 : decode cX0_writeValue 119 = .ok (.istore 6, 2) := by decide +kernel
theorem dX0_writeValue_121 : decode cX0_writeValue 121 = .ok (.iload 6, 2) := by decide +kernel
theorem dX0_writeValue_123 : decode cX0_writeValue 123 = .ok (.aload_n 0, 1) := by decide +kernel
theorem dX0_writeValue_124 : decode cX0_writeValue 124 = .ok (.getfield 17, 3) := by decide +kernel
theorem dX0_writeValue_127 : decode cX0_writeValue 127 = .ok (.invokevirtual 63, 3) := by decide +kernel
theorem dX0_writeValue_130 : decode cX0_writeValue 130 = .ok (.if_icmp .ge 197, 3) := by decide +kernel
theorem dX0_writeValue_133 : decode cX0_writeValue 133 = .ok (.iload 4, 2) := by decide +kernel
theorem dX0_writeValue_135 : decode cX0_writeValue 135 = .ok (.iload_n 1, 1) := by decide +kernel
theorem dX0_writeValue_136 : decode cX0_writeValue 136 = .ok (.if_icmp .eq 191, 3) := by decide +kernel
theorem dX0_writeValue_139 : decode cX0_writeValue 139 = .ok (.aload_n 0, 1) := by decide +kernel
theorem dX0_writeValue_140 : decode cX0_writeValue 140 = .ok (.getfield 17, 3) := by decide +kernel
theorem dX0_writeValue_143 : decode cX0_writeValue 143 = .ok (.iload 4, 2) := by decide +kernel
theorem dX0_writeValue_145 : decode cX0_writeValue 145 = .ok (.invokevirtual 203, 3) := by decide +kernel
theorem dX0_writeValue_148 : decode cX0_writeValue 148 = .ok (.istore 4, 2) := by decide +kernel
theorem dX0_writeValue_150 : decode cX0_writeValue 150 = .ok (.aload_n 0, 1) := by decide +kernel
theorem dX0_writeValue_151 : decode cX0_writeValue 151 = .ok (.getfield 17, 3) := by decide +kernel
theorem dX0_writeValue_154 : decode cX0_writeValue 154 = .ok (.iload 4, 2) := by decide +kernel
theorem dX0_writeValue_156 : decode cX0_writeValue 156 = .ok (.invokevirtual 149, 3) := by decide +kernel
theorem dX0_writeValue_159 : decode cX0_writeValue 159 = .ok (.bipush 28, 2) := by decide +kernel
theorem dX0_writeValue_161 : decode cX0_writeValue 161 = .ok (.if_icmp .ne 29, 3) := by decide +kernel
theorem dX0_writeValue_164 : decode cX0_writeValue 164 = .ok (.aload_n 0, 1) := by decide +kernel
theorem dX0_writeValue_165 : decode cX0_writeValue 165 = .ok (.iload 4, 2) := by decide +kernel
theorem dX0_writeValue_167 : decode cX0_writeValue 167 = .ok (.aload_n 0, 1) := by decide +kernel
theorem dX0_writeValue_168 : decode cX0_writeValue 168 = .ok (.aload_n 0, 1) := by decide +kernel
theorem dX0_writeValue_169 : decode cX0_writeValue 169 = .ok (.getfield 120, 3) := by decide +kernel
theorem dX0_writeValue_172 : decode cX0_writeValue 172 = .ok (.aload_n 0, 1) := by decide +kernel
theorem dX0_writeValue_173 : decode cX0_writeValue 173 = .ok (.getfield 17, 3) := by decide +kernel
theorem dX0_writeValue_176 : decode cX0_writeValue 176 = .ok (.iload 4, 2) := by decide +kernel
theorem dX0_writeValue_178 : decode cX0_writeValue 178 = .ok (.invokevirtual 158, 3) := by decide +kernel
theorem dX0_writeValue_181 : decode cX0_writeValue 181 = .ok (.invokevirtual 161, 3) := by decide +kernel
theorem dX0_writeValue_184 : decode cX0_writeValue 184 = .ok (.invokevirtual 164, 3) := by decide +kernel
theorem dX0_writeValue_187 : decode cX0_writeValue 187 = .ok (.goto 134, 3) := by decide +kernel
theorem dX0_writeValue_190 : decode cX0_writeValue 190 = .ok (.aload_n 0, 1) := by decide +kernel
theorem dX0_writeValue_191 : decode cX0_writeValue 191 = .ok (.iload 4, 2) := by decide +kernel
theorem dX0_writeValue_193 : decode cX0_writeValue 193 = .ok (.invokevirtual 212, 3) := by decide +kernel
theorem dX0_writeValue_196 : decode cX0_writeValue 196 = .ok (.ifCond .ne 17, 3) := by decide +kernel
theorem dX0_writeValue_199 : decode cX0_writeValue 199 = .ok (.aload_n 0, 1) := by decide +kernel
theorem dX0_writeValue_200 : decode cX0_writeValue 200 = .ok (.iload 4, 2) := by decide +kernel
theorem dX0_writeValue_202 : decode cX0_writeValue 202 = .ok (.iload 5, 2) := by decide +kernel
theorem dX0_writeValue_204 : decode cX0_writeValue 204 = .ok (.invokestatic 224, 3) := by decide +kernel
theorem dX0_writeValue_207 : decode cX0_writeValue 207 = .ok (.invokevirtual 227, 3) := by decide +kernel
theorem dX0_writeValue_210 : decode cX0_writeValue 210 = .ok (.goto 111, 3) := by decide +kernel
theorem dX0_writeValue_213 : decode cX0_writeValue 213 = .ok (.aload_n 0, 1) := by decide +kernel
theorem dX0_writeValue_214 : decode cX0_writeValue 214 = .ok (.iload 4, 2) := by decide +kernel
theorem dX0_writeValue_216 : decode cX0_writeValue 216 = .ok (.invokevirtual 218, 3) := by decide +kernel
theorem dX0_writeValue_219 : decode cX0_writeValue 219 = .ok (.ifCond .eq 23, 3) := by decide +kernel
theorem dX0_writeValue_222 : decode cX0_writeValue 222 = .ok (.iinc 5 (-1), 3) := by decide +kernel
theorem dX0_writeValue_225 : decode cX0_writeValue 225 = .ok (.aload_n 0, 1) := by decide +kernel
theorem dX0_writeValue_226 : decode cX0_writeValue 226 = .ok (.iload 4, 2) := by decide +kernel
theorem dX0_writeValue_228 : decode cX0_writeValue 228 = .ok (.iload 5, 2) := by decide +kernel
theorem dX0_writeValue_230 : decode cX0_writeValue 230 = .ok (.iload 5, 2) := by decide +kernel
theorem dX0_writeValue_232 : decode cX0_writeValue 232 = .ok (.iconst 1, 1) := by decide +kernel
theorem dX0_writeValue_233 : decode cX0_writeValue 233 = .ok (.iadd, 1) := by decide +kernel
theorem dX0_writeValue_234 : decode cX0_writeValue 234 = .ok (.iload 5, 2) := by decide +kernel
theorem dX0_writeValue_236 : decode cX0_writeValue 236 = .ok (.invokevirtual 230, 3) := by decide +kernel
theorem dX0_writeValue_239 : decode cX0_writeValue 239 = .ok (.goto 82, 3) := by decide +kernel
theorem dX0_writeValue_242 : decode cX0_writeValue 242 = .ok (.aload_n 0, 1) := by decide +kernel
theorem dX0_writeValue_243 : decode cX0_writeValue 243 = .ok (.getfield 17, 3) := by decide +kernel
theorem dX0_writeValue_246 : decode cX0_writeValue 246 = .ok (.iload 4, 2) := by decide +kernel
theorem dX0_writeValue_248 : decode cX0_writeValue 248 = .ok (.iconst 1, 1) := by decide +kernel
theorem dX0_writeValue_249 : decode cX0_writeValue 249 = .ok (.isub, 1) := by decide +kernel
theorem dX0_writeValue_250 : decode cX0_writeValue 250 = .ok (.invokevirtual 234, 3) := by decide +kernel
theorem dX0_writeValue_253 : decode cX0_writeValue 253 = .ok (.ifCond .eq 39, 3) := by decide +kernel
theorem dX0_writeValue_256 : decode cX0_writeValue 256 = .ok (.aload_n 0, 1) := by decide +kernel
theorem dX0_writeValue_257 : decode cX0_writeValue 257 = .ok (.bipush 6, 2) := by decide +kernel
theorem dX0_writeValue_259 : decode cX0_writeValue 259 = .ok (.invokevirtual 167, 3) := by decide +kernel
theorem dX0_writeValue_262 : decode cX0_writeValue 262 = .ok (.aload_n 0, 1) := by decide +kernel
theorem dX0_writeValue_263 : decode cX0_writeValue 263 = .ok (.iload 4, 2) := by decide +kernel
theorem dX0_writeValue_265 : decode cX0_writeValue 265 = .ok (.iconst 1, 1) := by decide +kernel
theorem dX0_writeValue_266 : decode cX0_writeValue 266 = .ok (.isub, 1) := by decide +kernel
theorem dX0_writeValue_267 : decode cX0_writeValue 267 = .ok (.iconst 0, 1) := by decide +kernel
theorem dX0_writeValue_268 : decode cX0_writeValue 268 = .ok (.iload_n 3, 1) := by decide +kernel
theorem dX0_writeValue_269 : decode cX0_writeValue 269 = .ok (.iconst 1, 1) := by decide +kernel
theorem dX0_writeValue_270 : decode cX0_writeValue 270 = .ok (.iadd, 1) := by decide +kernel
theorem dX0_writeValue_271 : decode cX0_writeValue 271 = .ok (.invokevirtual 155, 3) := by decide +kernel
theorem dX0_writeValue_274 : decode cX0_writeValue 274 = .ok (.aload_n 0, 1) := by decide +kernel
theorem dX0_writeValue_275 : decode cX0_writeValue 275 = .ok (.bipush 7, 2) := by decide +kernel
theorem dX0_writeValue_277 : decode cX0_writeValue 277 = .ok (.invokevirtual 188, 3) := by decide +kernel
theorem dX0_writeValue_280 : decode cX0_writeValue 280 = .ok (.aload_n 0, 1) := by decide +kernel
theorem dX0_writeValue_281 : decode cX0_writeValue 281 = .ok (.iload 4, 2) := by decide +kernel
theorem dX0_writeValue_283 : decode cX0_writeValue 283 = .ok (.iconst 0, 1) := by decide +kernel
theorem dX0_writeValue_284 : decode cX0_writeValue 284 = .ok (.iconst 1, 1) := by decide +kernel
theorem dX0_writeValue_285 : decode cX0_writeValue 285 = .ok (.iconst 0, 1) := by decide +kernel
theorem dX0_writeValue_286 : decode cX0_writeValue 286 = .ok (.invokevirtual 230, 3) := by decide +kernel
theorem dX0_writeValue_289 : decode cX0_writeValue 289 = .ok (.goto 32, 3) := by decide +kernel
theorem dX0_writeValue_292 : decode cX0_writeValue 292 = .ok (.aload_n 0, 1) := by decide +kernel
theorem dX0_writeValue_293 : decode cX0_writeValue 293 = .ok (.iload 4, 2) := by decide +kernel
theorem dX0_writeValue_295 : decode cX0_writeValue 295 = .ok (.iconst 1, 1) := by decide +kernel
theorem dX0_writeValue_296 : decode cX0_writeValue 296 = .ok (.isub, 1) := by decide +kernel
theorem dX0_writeValue_297 : decode cX0_writeValue 297 = .ok (.iload 5, 2) := by decide +kernel
theorem dX0_writeValue_299 : decode cX0_writeValue 299 = .ok (.iconst 1, 1) := by decide +kernel
theorem dX0_writeValue_300 : decode cX0_writeValue 300 = .ok (.iadd, 1) := by decide +kernel
theorem dX0_writeValue_301 : decode cX0_writeValue 301 = .ok (.iload_n 3, 1) := by decide +kernel
theorem dX0_writeValue_302 : decode cX0_writeValue 302 = .ok (.iconst 1, 1) := by decide +kernel
theorem dX0_writeValue_303 : decode cX0_writeValue 303 = .ok (.iadd, 1) := by decide +kernel
theorem dX0_writeValue_304 : decode cX0_writeValue 304 = .ok (.invokevirtual 155, 3) := by decide +kernel
theorem dX0_writeValue_307 : decode cX0_writeValue 307 = .ok (.aload_n 0, 1) := by decide +kernel
theorem dX0_writeValue_308 : decode cX0_writeValue 308 = .ok (.iload 4, 2) := by decide +kernel
theorem dX0_writeValue_310 : decode cX0_writeValue 310 = .ok (.iload 5, 2) := by decide +kernel
theorem dX0_writeValue_312 : decode cX0_writeValue 312 = .ok (.iload 5, 2) := by decide +kernel
theorem dX0_writeValue_314 : decode cX0_writeValue 314 = .ok (.iload 5, 2) := by decide +kernel
theorem dX0_writeValue_316 : decode cX0_writeValue 316 = .ok (.iconst 1, 1) := by decide +kernel
theorem dX0_writeValue_317 : decode cX0_writeValue 317 = .ok (.iadd, 1) := by decide +kernel
theorem dX0_writeValue_318 : decode cX0_writeValue 318 = .ok (.invokevirtual 230, 3) := by decide +kernel
theorem dX0_writeValue_321 : decode cX0_writeValue 321 = .ok (.iinc 6 1, 3) := by decide +kernel
theorem dX0_writeValue_324 : decode cX0_writeValue 324 = .ok (.goto (-203), 3) := by decide +kernel
theorem dX0_writeValue_327 : decode cX0_writeValue 327 = .ok (.return_, 1) := by decide +kernel
theorem dX0_isLeaf_0 : decode cX0_isLeaf 0 = .ok (.aload_n 0, 1) := by decide +kernel
theorem dX0_isLeaf_1 : decode cX0_isLeaf 1 = .ok (.getfield 17, 3) := by decide +kernel
theorem dX0_isLeaf_4 : decode cX0_isLeaf 4 = .ok (.iload_n 1, 1) := by decide +kernel
theorem dX0_isLeaf_5 : decode cX0_isLeaf 5 = .ok (.invokevirtual 149, 3) := by decide +kernel
theorem dX0_isLeaf_8 : decode cX0_isLeaf 8 = .ok (.istore_n 2, 1) := by decide +kernel
theorem dX0_isLeaf_9 : decode cX0_isLeaf 9 = .ok (.iload_n 2, 1) := by decide +kernel
theorem dX0_isLeaf_10 : decode cX0_isLeaf 10 = .ok (.iconst 3, 1) := by decide +kernel
theorem dX0_isLeaf_11 : decode cX0_isLeaf 11 = .ok (.if_icmp .eq 14, 3) := by decide +kernel
theorem dX0_isLeaf_14 : decode cX0_isLeaf 14 = .ok (.iload_n 2, 1) := by decide +kernel
theorem dX0_isLeaf_15 : decode cX0_isLeaf 15 = .ok (.iconst 2, 1) := by decide +kernel
theorem dX0_isLeaf_16 : decode cX0_isLeaf 16 = .ok (.if_icmp .eq 9, 3) := by decide +kernel
theorem dX0_isLeaf_19 : decode cX0_isLeaf 19 = .ok (.iload_n 2, 1) := by decide +kernel
theorem dX0_isLeaf_20 : decode cX0_isLeaf 20 = .ok (.bipush 30, 2) := by decide +kernel
theorem dX0_isLeaf_22 : decode cX0_isLeaf 22 = .ok (.if_icmp .ne 7, 3) := by decide +kernel
theorem dX0_isLeaf_25 : decode cX0_isLeaf 25 = .ok (.iconst 1, 1) := by decide +kernel
theorem dX0_isLeaf_26 : decode cX0_isLeaf 26 = .ok (.goto 4, 3) := by decide +kernel
theorem dX0_isLeaf_29 : decode cX0_isLeaf 29 = .ok (.iconst 0, 1) := by decide +kernel
theorem dX0_isLeaf_30 : decode cX0_isLeaf 30 = .ok (.ireturn, 1) := by decide +kernel
theorem dX0_isPair_0 : decode cX0_isPair 0 = .ok (.aload_n 0, 1) := by decide +kernel
theorem dX0_isPair_1 : decode cX0_isPair 1 = .ok (.getfield 17, 3) := by decide +kernel
theorem dX0_isPair_4 : decode cX0_isPair 4 = .ok (.iload_n 1, 1) := by decide +kernel
theorem dX0_isPair_5 : decode cX0_isPair 5 = .ok (.invokevirtual 149, 3) := by decide +kernel
theorem dX0_isPair_8 : decode cX0_isPair 8 = .ok (.invokestatic 237, 3) := by decide +kernel
theorem dX0_isPair_11 : decode cX0_isPair 11 = .ok (.iconst (-1), 1) := by decide +kernel
theorem dX0_isPair_12 : decode cX0_isPair 12 = .ok (.if_icmp .eq 7, 3) := by decide +kernel
theorem dX0_isPair_15 : decode cX0_isPair 15 = .ok (.iconst 1, 1) := by decide +kernel
theorem dX0_isPair_16 : decode cX0_isPair 16 = .ok (.goto 4, 3) := by decide +kernel
theorem dX0_isPair_19 : decode cX0_isPair 19 = .ok (.iconst 0, 1) := by decide +kernel
theorem dX0_isPair_20 : decode cX0_isPair 20 = .ok (.ireturn, 1) := by decide +kernel
theorem dX0_rightFirst_0 : decode cX0_rightFirst 0 = .ok (.aload_n 0, 1) := by decide +kernel
theorem dX0_rightFirst_1 : decode cX0_rightFirst 1 = .ok (.iload_n 1, 1) := by decide +kernel
theorem dX0_rightFirst_2 : decode cX0_rightFirst 2 = .ok (.invokevirtual 212, 3) := by decide +kernel
theorem dX0_rightFirst_5 : decode cX0_rightFirst 5 = .ok (.ifCond .ne 5, 3) := by decide +kernel
theorem dX0_rightFirst_8 : decode cX0_rightFirst 8 = .ok (.iconst 0, 1) := by decide +kernel
theorem dX0_rightFirst_9 : decode cX0_rightFirst 9 = .ok (.ireturn, 1) := by decide +kernel
theorem dX0_rightFirst_10 : decode cX0_rightFirst 10 = .ok (.aload_n 0, 1) := by decide +kernel
theorem dX0_rightFirst_11 : decode cX0_rightFirst 11 = .ok (.getfield 17, 3) := by decide +kernel
theorem dX0_rightFirst_14 : decode cX0_rightFirst 14 = .ok (.iload_n 1, 1) := by decide +kernel
theorem dX0_rightFirst_15 : decode cX0_rightFirst 15 = .ok (.invokevirtual 215, 3) := by decide +kernel
theorem dX0_rightFirst_18 : decode cX0_rightFirst 18 = .ok (.istore_n 2, 1) := by decide +kernel
theorem dX0_rightFirst_19 : decode cX0_rightFirst 19 = .ok (.iload_n 1, 1) := by decide +kernel
theorem dX0_rightFirst_20 : decode cX0_rightFirst 20 = .ok (.iconst 1, 1) := by decide +kernel
theorem dX0_rightFirst_21 : decode cX0_rightFirst 21 = .ok (.isub, 1) := by decide +kernel
theorem dX0_rightFirst_22 : decode cX0_rightFirst 22 = .ok (.istore_n 3, 1) := by decide +kernel
theorem dX0_rightFirst_23 : decode cX0_rightFirst 23 = .ok (.aload_n 0, 1) := by decide +kernel
theorem dX0_rightFirst_24 : decode cX0_rightFirst 24 = .ok (.getfield 17, 3) := by decide +kernel
theorem dX0_rightFirst_27 : decode cX0_rightFirst 27 = .ok (.iload_n 2, 1) := by decide +kernel
theorem dX0_rightFirst_28 : decode cX0_rightFirst 28 = .ok (.invokevirtual 234, 3) := by decide +kernel
theorem dX0_rightFirst_31 : decode cX0_rightFirst 31 = .ok (.ifCond .ne 14, 3) := by decide +kernel
theorem dX0_rightFirst_34 : decode cX0_rightFirst 34 = .ok (.aload_n 0, 1) := by decide +kernel
theorem dX0_rightFirst_35 : decode cX0_rightFirst 35 = .ok (.getfield 17, 3) := by decide +kernel
theorem dX0_rightFirst_38 : decode cX0_rightFirst 38 = .ok (.iload_n 3, 1) := by decide +kernel
theorem dX0_rightFirst_39 : decode cX0_rightFirst 39 = .ok (.invokevirtual 234, 3) := by decide +kernel
theorem dX0_rightFirst_42 : decode cX0_rightFirst 42 = .ok (.ifCond .eq 20, 3) := by decide +kernel
theorem dX0_rightFirst_45 : decode cX0_rightFirst 45 = .ok (.aload_n 0, 1) := by decide +kernel
theorem dX0_rightFirst_46 : decode cX0_rightFirst 46 = .ok (.getfield 17, 3) := by decide +kernel
theorem dX0_rightFirst_49 : decode cX0_rightFirst 49 = .ok (.iload_n 2, 1) := by decide +kernel
theorem dX0_rightFirst_50 : decode cX0_rightFirst 50 = .ok (.invokevirtual 234, 3) := by decide +kernel
theorem dX0_rightFirst_53 : decode cX0_rightFirst 53 = .ok (.ifCond .ne 7, 3) := by decide +kernel
theorem dX0_rightFirst_56 : decode cX0_rightFirst 56 = .ok (.iconst 1, 1) := by decide +kernel
theorem dX0_rightFirst_57 : decode cX0_rightFirst 57 = .ok (.goto 4, 3) := by decide +kernel
theorem dX0_rightFirst_60 : decode cX0_rightFirst 60 = .ok (.iconst 0, 1) := by decide +kernel
theorem dX0_rightFirst_61 : decode cX0_rightFirst 61 = .ok (.ireturn, 1) := by decide +kernel
theorem dX0_rightFirst_62 : decode cX0_rightFirst 62 = .ok (.aload_n 0, 1) := by decide +kernel
theorem dX0_rightFirst_63 : decode cX0_rightFirst 63 = .ok (.getfield 17, 3) := by decide +kernel
theorem dX0_rightFirst_66 : decode cX0_rightFirst 66 = .ok (.iload_n 3, 1) := by decide +kernel
theorem dX0_rightFirst_67 : decode cX0_rightFirst 67 = .ok (.invokevirtual 240, 3) := by decide +kernel
theorem dX0_rightFirst_70 : decode cX0_rightFirst 70 = .ok (.aload_n 0, 1) := by decide +kernel
theorem dX0_rightFirst_71 : decode cX0_rightFirst 71 = .ok (.getfield 17, 3) := by decide +kernel
theorem dX0_rightFirst_74 : decode cX0_rightFirst 74 = .ok (.iload_n 2, 1) := by decide +kernel
theorem dX0_rightFirst_75 : decode cX0_rightFirst 75 = .ok (.invokevirtual 240, 3) := by decide +kernel
theorem dX0_rightFirst_78 : decode cX0_rightFirst 78 = .ok (.if_icmp .le 7, 3) := by decide +kernel
theorem dX0_rightFirst_81 : decode cX0_rightFirst 81 = .ok (.iconst 1, 1) := by decide +kernel
theorem dX0_rightFirst_82 : decode cX0_rightFirst 82 = .ok (.goto 4, 3) := by decide +kernel
theorem dX0_rightFirst_85 : decode cX0_rightFirst 85 = .ok (.iconst 0, 1) := by decide +kernel
theorem dX0_rightFirst_86 : decode cX0_rightFirst 86 = .ok (.ireturn, 1) := by decide +kernel
theorem dX0_register_0 : decode cX0_register 0 = .ok (.bipush 6, 2) := by decide +kernel
theorem dX0_register_2 : decode cX0_register 2 = .ok (.iload_n 0, 1) := by decide +kernel
theorem dX0_register_3 : decode cX0_register 3 = .ok (.iadd, 1) := by decide +kernel
theorem dX0_register_4 : decode cX0_register 4 = .ok (.bipush 31, 2) := by decide +kernel
theorem dX0_register_6 : decode cX0_register 6 = .ok (.invokestatic 243, 3) := by decide +kernel
theorem dX0_register_9 : decode cX0_register 9 = .ok (.ireturn, 1) := by decide +kernel
theorem dX0_writeLeaf_0 : decode cX0_writeLeaf 0 = .ok (.aload_n 0, 1) := by decide +kernel
theorem dX0_writeLeaf_1 : decode cX0_writeLeaf 1 = .ok (.getfield 17, 3) := by decide +kernel
theorem dX0_writeLeaf_4 : decode cX0_writeLeaf 4 = .ok (.iload_n 1, 1) := by decide +kernel
theorem dX0_writeLeaf_5 : decode cX0_writeLeaf 5 = .ok (.invokevirtual 149, 3) := by decide +kernel
theorem dX0_writeLeaf_8 : decode cX0_writeLeaf 8 = .ok (.iconst 2, 1) := by decide +kernel
theorem dX0_writeLeaf_9 : decode cX0_writeLeaf 9 = .ok (.if_icmp .ne 28, 3) := by decide +kernel
theorem dX0_writeLeaf_12 : decode cX0_writeLeaf 12 = .ok (.aload_n 0, 1) := by decide +kernel
theorem dX0_writeLeaf_13 : decode cX0_writeLeaf 13 = .ok (.iload_n 2, 1) := by decide +kernel
theorem dX0_writeLeaf_14 : decode cX0_writeLeaf 14 = .ok (.invokestatic 224, 3) := by decide +kernel
theorem dX0_writeLeaf_17 : decode cX0_writeLeaf 17 = .ok (.iconst 0, 1) := by decide +kernel
theorem dX0_writeLeaf_18 : decode cX0_writeLeaf 18 = .ok (.aload_n 0, 1) := by decide +kernel
theorem dX0_writeLeaf_19 : decode cX0_writeLeaf 19 = .ok (.aload_n 0, 1) := by decide +kernel
theorem dX0_writeLeaf_20 : decode cX0_writeLeaf 20 = .ok (.getfield 17, 3) := by decide +kernel
theorem dX0_writeLeaf_23 : decode cX0_writeLeaf 23 = .ok (.iload_n 1, 1) := by decide +kernel
theorem dX0_writeLeaf_24 : decode cX0_writeLeaf 24 = .ok (.invokevirtual 158, 3) := by decide +kernel
theorem dX0_writeLeaf_27 : decode cX0_writeLeaf 27 = .ok (.invokevirtual 123, 3) := by decide +kernel
theorem dX0_writeLeaf_30 : decode cX0_writeLeaf 30 = .ok (.invokestatic 127, 3) := by decide +kernel
theorem dX0_writeLeaf_33 : decode cX0_writeLeaf 33 = .ok (.invokevirtual 51, 3) := by decide +kernel
theorem dX0_writeLeaf_36 : decode cX0_writeLeaf 36 = .ok (.return_, 1) := by decide +kernel
theorem dX0_writeLeaf_37 : decode cX0_writeLeaf 37 = .ok (.aload_n 0, 1) := by decide +kernel
theorem dX0_writeLeaf_38 : decode cX0_writeLeaf 38 = .ok (.getfield 17, 3) := by decide +kernel
theorem dX0_writeLeaf_41 : decode cX0_writeLeaf 41 = .ok (.iload_n 1, 1) := by decide +kernel
theorem dX0_writeLeaf_42 : decode cX0_writeLeaf 42 = .ok (.invokevirtual 158, 3) := by decide +kernel
theorem dX0_writeLeaf_45 : decode cX0_writeLeaf 45 = .ok (.istore_n 3, 1) := by decide +kernel
theorem dX0_writeLeaf_46 : decode cX0_writeLeaf 46 = .ok (.iload_n 3, 1) := by decide +kernel
theorem dX0_writeLeaf_47 : decode cX0_writeLeaf 47 = .ok (.bipush 20, 2) := by decide +kernel
theorem dX0_writeLeaf_49 : decode cX0_writeLeaf 49 = .ok (.ishl, 1) := by decide +kernel
theorem dX0_writeLeaf_50 : decode cX0_writeLeaf 50 = .ok (.bipush 20, 2) := by decide +kernel
theorem dX0_writeLeaf_52 : decode cX0_writeLeaf 52 = .ok (.ishr, 1) := by decide +kernel
theorem dX0_writeLeaf_53 : decode cX0_writeLeaf 53 = .ok (.istore 4, 2) := by decide +kernel
theorem dX0_writeLeaf_55 : decode cX0_writeLeaf 55 = .ok (.iload 4, 2) := by decide +kernel
theorem dX0_writeLeaf_57 : decode cX0_writeLeaf 57 = .ok (.iload_n 3, 1) := by decide +kernel
theorem dX0_writeLeaf_58 : decode cX0_writeLeaf 58 = .ok (.if_icmp .ne 17, 3) := by decide +kernel
theorem dX0_writeLeaf_61 : decode cX0_writeLeaf 61 = .ok (.aload_n 0, 1) := by decide +kernel
theorem dX0_writeLeaf_62 : decode cX0_writeLeaf 62 = .ok (.iload_n 2, 1) := by decide +kernel
theorem dX0_writeLeaf_63 : decode cX0_writeLeaf 63 = .ok (.invokestatic 224, 3) := by decide +kernel
theorem dX0_writeLeaf_66 : decode cX0_writeLeaf 66 = .ok (.iconst 0, 1) := by decide +kernel
theorem dX0_writeLeaf_67 : decode cX0_writeLeaf 67 = .ok (.iload_n 3, 1) := by decide +kernel
theorem dX0_writeLeaf_68 : decode cX0_writeLeaf 68 = .ok (.invokestatic 45, 3) := by decide +kernel
theorem dX0_writeLeaf_71 : decode cX0_writeLeaf 71 = .ok (.invokevirtual 51, 3) := by decide +kernel
theorem dX0_writeLeaf_74 : decode cX0_writeLeaf 74 = .ok (.return_, 1) := by decide +kernel
theorem dX0_writeLeaf_75 : decode cX0_writeLeaf 75 = .ok (.aload_n 0, 1) := by decide +kernel
theorem dX0_writeLeaf_76 : decode cX0_writeLeaf 76 = .ok (.iload_n 2, 1) := by decide +kernel
theorem dX0_writeLeaf_77 : decode cX0_writeLeaf 77 = .ok (.invokestatic 224, 3) := by decide +kernel
theorem dX0_writeLeaf_80 : decode cX0_writeLeaf 80 = .ok (.iload_n 3, 1) := by decide +kernel
theorem dX0_writeLeaf_81 : decode cX0_writeLeaf 81 = .ok (.iload 4, 2) := by decide +kernel
theorem dX0_writeLeaf_83 : decode cX0_writeLeaf 83 = .ok (.isub, 1) := by decide +kernel
theorem dX0_writeLeaf_84 : decode cX0_writeLeaf 84 = .ok (.invokestatic 248, 3) := by decide +kernel
theorem dX0_writeLeaf_87 : decode cX0_writeLeaf 87 = .ok (.invokevirtual 51, 3) := by decide +kernel
theorem dX0_writeLeaf_90 : decode cX0_writeLeaf 90 = .ok (.aload_n 0, 1) := by decide +kernel
theorem dX0_writeLeaf_91 : decode cX0_writeLeaf 91 = .ok (.iload_n 2, 1) := by decide +kernel
theorem dX0_writeLeaf_92 : decode cX0_writeLeaf 92 = .ok (.invokestatic 224, 3) := by decide +kernel
theorem dX0_writeLeaf_95 : decode cX0_writeLeaf 95 = .ok (.iload_n 2, 1) := by decide +kernel
theorem dX0_writeLeaf_96 : decode cX0_writeLeaf 96 = .ok (.invokestatic 224, 3) := by decide +kernel
theorem dX0_writeLeaf_99 : decode cX0_writeLeaf 99 = .ok (.iload 4, 2) := by decide +kernel
theorem dX0_writeLeaf_101 : decode cX0_writeLeaf 101 = .ok (.invokestatic 45, 3) := by decide +kernel
theorem dX0_writeLeaf_104 : decode cX0_writeLeaf 104 = .ok (.invokevirtual 51, 3) := by decide +kernel
theorem dX0_writeLeaf_107 : decode cX0_writeLeaf 107 = .ok (.return_, 1) := by decide +kernel
theorem dX0_writeUnary_0 : decode cX0_writeUnary 0 = .ok (.aload_n 0, 1) := by decide +kernel
theorem dX0_writeUnary_1 : decode cX0_writeUnary 1 = .ok (.getfield 17, 3) := by decide +kernel
theorem dX0_writeUnary_4 : decode cX0_writeUnary 4 = .ok (.iload_n 1, 1) := by decide +kernel
theorem dX0_writeUnary_5 : decode cX0_writeUnary 5 = .ok (.invokevirtual 149, 3) := by decide +kernel
theorem dX0_writeUnary_8 : decode cX0_writeUnary 8 = .ok (.lookupswitch 56 #[(29, 28), (126, 43)], 28) := by decide +kernel
theorem dX0_writeUnary_36 : decode cX0_writeUnary 36 = .ok (.aload_n 0, 1) := by decide +kernel
theorem dX0_writeUnary_37 : decode cX0_writeUnary 37 = .ok (.bipush 45, 2) := by decide +kernel
theorem dX0_writeUnary_39 : decode cX0_writeUnary 39 = .ok (.iload_n 2, 1) := by decide +kernel
theorem dX0_writeUnary_40 : decode cX0_writeUnary 40 = .ok (.iconst 0, 1) := by decide +kernel
theorem dX0_writeUnary_41 : decode cX0_writeUnary 41 = .ok (.iload_n 2, 1) := by decide +kernel
theorem dX0_writeUnary_42 : decode cX0_writeUnary 42 = .ok (.invokestatic 105, 3) := by decide +kernel
theorem dX0_writeUnary_45 : decode cX0_writeUnary 45 = .ok (.invokevirtual 51, 3) := by decide +kernel
theorem dX0_writeUnary_48 : decode cX0_writeUnary 48 = .ok (.goto 26, 3) := by decide +kernel
theorem dX0_writeUnary_51 : decode cX0_writeUnary 51 = .ok (.aload_n 0, 1) := by decide +kernel
theorem dX0_writeUnary_52 : decode cX0_writeUnary 52 = .ok (.iload_n 2, 1) := by decide +kernel
theorem dX0_writeUnary_53 : decode cX0_writeUnary 53 = .ok (.iload_n 2, 1) := by decide +kernel
theorem dX0_writeUnary_54 : decode cX0_writeUnary 54 = .ok (.iconst (-1), 1) := by decide +kernel
theorem dX0_writeUnary_55 : decode cX0_writeUnary 55 = .ok (.invokestatic 251, 3) := by decide +kernel
theorem dX0_writeUnary_58 : decode cX0_writeUnary 58 = .ok (.invokevirtual 51, 3) := by decide +kernel
theorem dX0_writeUnary_61 : decode cX0_writeUnary 61 = .ok (.goto 13, 3) := by decide +kernel
theorem dX0_writeUnary_64 : decode cX0_writeUnary 64 = .ok (.aload_n 0, 1) := by decide +kernel
theorem dX0_writeUnary_65 : decode cX0_writeUnary 65 = .ok (.iload_n 2, 1) := by decide +kernel
theorem dX0_writeUnary_66 : decode cX0_writeUnary 66 = .ok (.iload_n 2, 1) := by decide +kernel
theorem dX0_writeUnary_67 : decode cX0_writeUnary 67 = .ok (.iconst 1, 1) := by decide +kernel
theorem dX0_writeUnary_68 : decode cX0_writeUnary 68 = .ok (.invokestatic 140, 3) := by decide +kernel
theorem dX0_writeUnary_71 : decode cX0_writeUnary 71 = .ok (.invokevirtual 51, 3) := by decide +kernel
theorem dX0_writeUnary_74 : decode cX0_writeUnary 74 = .ok (.return_, 1) := by decide +kernel
theorem dX0_writePair_0 : decode cX0_writePair 0 = .ok (.aload_n 0, 1) := by decide +kernel
theorem dX0_writePair_1 : decode cX0_writePair 1 = .ok (.getfield 17, 3) := by decide +kernel
theorem dX0_writePair_4 : decode cX0_writePair 4 = .ok (.iload_n 1, 1) := by decide +kernel
theorem dX0_writePair_5 : decode cX0_writePair 5 = .ok (.invokevirtual 149, 3) := by decide +kernel
theorem dX0_writePair_8 : decode cX0_writePair 8 = .ok (.istore 5, 2) := by decide +kernel
theorem dX0_writePair_10 : decode cX0_writePair 10 = .ok (.iload_n 2, 1) := by decide +kernel
theorem dX0_writePair_11 : decode cX0_writePair 11 = .ok (.invokestatic 224, 3) := by decide +kernel
theorem dX0_writePair_14 : decode cX0_writePair 14 = .ok (.istore 6, 2) := by decide +kernel
theorem dX0_writePair_16 : decode cX0_writePair 16 = .ok (.iload 5, 2) := by decide +kernel
theorem dX0_writePair_18 : decode cX0_writePair 18 = .ok (.lookupswitch 96 #[(128, 61), (129, 26)], 26) := by decide +kernel
theorem dX0_writePair_44 : decode cX0_writePair 44 = .ok (.aload_n 0, 1) := by decide +kernel
theorem dX0_writePair_45 : decode cX0_writePair 45 = .ok (.bipush 94, 2) := by decide +kernel
theorem dX0_writePair_47 : decode cX0_writePair 47 = .ok (.iload 6, 2) := by decide +kernel
theorem dX0_writePair_49 : decode cX0_writePair 49 = .ok (.iload_n 3, 1) := by decide +kernel
theorem dX0_writePair_50 : decode cX0_writePair 50 = .ok (.invokestatic 224, 3) := by decide +kernel
theorem dX0_writePair_53 : decode cX0_writePair 53 = .ok (.iload 4, 2) := by decide +kernel
theorem dX0_writePair_55 : decode cX0_writePair 55 = .ok (.invokestatic 224, 3) := by decide +kernel
theorem dX0_writePair_58 : decode cX0_writePair 58 = .ok (.invokestatic 105, 3) := by decide +kernel
theorem dX0_writePair_61 : decode cX0_writePair 61 = .ok (.invokevirtual 51, 3) := by decide +kernel
theorem dX0_writePair_64 : decode cX0_writePair 64 = .ok (.aload_n 0, 1) := by decide +kernel
theorem dX0_writePair_65 : decode cX0_writePair 65 = .ok (.iload 6, 2) := by decide +kernel
theorem dX0_writePair_67 : decode cX0_writePair 67 = .ok (.iload 6, 2) := by decide +kernel
theorem dX0_writePair_69 : decode cX0_writePair 69 = .ok (.iconst 1, 1) := by decide +kernel
theorem dX0_writePair_70 : decode cX0_writePair 70 = .ok (.invokestatic 140, 3) := by decide +kernel
theorem dX0_writePair_73 : decode cX0_writePair 73 = .ok (.invokevirtual 51, 3) := by decide +kernel
theorem dX0_writePair_76 : decode cX0_writePair 76 = .ok (.goto 58, 3) := by decide +kernel
theorem dX0_writePair_79 : decode cX0_writePair 79 = .ok (.aload_n 0, 1) := by decide +kernel
theorem dX0_writePair_80 : decode cX0_writePair 80 = .ok (.bipush 60, 2) := by decide +kernel
theorem dX0_writePair_82 : decode cX0_writePair 82 = .ok (.iload 6, 2) := by decide +kernel
theorem dX0_writePair_84 : decode cX0_writePair 84 = .ok (.iload 4, 2) := by decide +kernel
theorem dX0_writePair_86 : decode cX0_writePair 86 = .ok (.invokestatic 224, 3) := by decide +kernel
theorem dX0_writePair_89 : decode cX0_writePair 89 = .ok (.iload_n 3, 1) := by decide +kernel
theorem dX0_writePair_90 : decode cX0_writePair 90 = .ok (.invokestatic 224, 3) := by decide +kernel
theorem dX0_writePair_93 : decode cX0_writePair 93 = .ok (.invokestatic 105, 3) := by decide +kernel
theorem dX0_writePair_96 : decode cX0_writePair 96 = .ok (.invokevirtual 51, 3) := by decide +kernel
theorem dX0_writePair_99 : decode cX0_writePair 99 = .ok (.aload_n 0, 1) := by decide +kernel
theorem dX0_writePair_100 : decode cX0_writePair 100 = .ok (.iload 6, 2) := by decide +kernel
theorem dX0_writePair_102 : decode cX0_writePair 102 = .ok (.iload 6, 2) := by decide +kernel
theorem dX0_writePair_104 : decode cX0_writePair 104 = .ok (.iconst 1, 1) := by decide +kernel
theorem dX0_writePair_105 : decode cX0_writePair 105 = .ok (.invokestatic 251, 3) := by decide +kernel
theorem dX0_writePair_108 : decode cX0_writePair 108 = .ok (.invokevirtual 51, 3) := by decide +kernel
theorem dX0_writePair_111 : decode cX0_writePair 111 = .ok (.goto 23, 3) := by decide +kernel
theorem dX0_writePair_114 : decode cX0_writePair 114 = .ok (.aload_n 0, 1) := by decide +kernel
theorem dX0_writePair_115 : decode cX0_writePair 115 = .ok (.iload 5, 2) := by decide +kernel
theorem dX0_writePair_117 : decode cX0_writePair 117 = .ok (.iload 6, 2) := by decide +kernel
theorem dX0_writePair_119 : decode cX0_writePair 119 = .ok (.iload_n 3, 1) := by decide +kernel
theorem dX0_writePair_120 : decode cX0_writePair 120 = .ok (.invokestatic 224, 3) := by decide +kernel
theorem dX0_writePair_123 : decode cX0_writePair 123 = .ok (.iload 4, 2) := by decide +kernel
theorem dX0_writePair_125 : decode cX0_writePair 125 = .ok (.invokestatic 224, 3) := by decide +kernel
theorem dX0_writePair_128 : decode cX0_writePair 128 = .ok (.invokestatic 105, 3) := by decide +kernel
theorem dX0_writePair_131 : decode cX0_writePair 131 = .ok (.invokevirtual 51, 3) := by decide +kernel
theorem dX0_writePair_134 : decode cX0_writePair 134 = .ok (.return_, 1) := by decide +kernel
abbrev MX0_callFor : aw_M := (yX0_callFor, cX0_callFor, 3, none)
theorem codX0_callFor : Cond.code yX0_callFor cX0_callFor 3 none ∈ aw_T := aw_in 1025 (by decide +kernel) rfl
theorem iniX0 : Cond.initialized RX0 ∈ aw_T := aw_in 121 (by decide +kernel) rfl
theorem insX0_callFor : Cond.instanceMethod yX0_callFor ∈ aw_T := aw_in 1024 (by decide +kernel) rfl
theorem selX0_callFor : Cond.selects RX0 yX0_callFor yX0_callFor ∈ aw_T := aw_in 40 (by decide +kernel) rfl
abbrev MX0_closeJump : aw_M := (yX0_closeJump, cX0_closeJump, 2, none)
theorem codX0_closeJump : Cond.code yX0_closeJump cX0_closeJump 2 none ∈ aw_T := aw_in 1008 (by decide +kernel) rfl
theorem insX0_closeJump : Cond.instanceMethod yX0_closeJump ∈ aw_T := aw_in 1007 (by decide +kernel) rfl
theorem selX0_closeJump : Cond.selects RX0 yX0_closeJump yX0_closeJump ∈ aw_T := aw_in 37 (by decide +kernel) rfl
abbrev MX0_comeBack : aw_M := (yX0_comeBack, cX0_comeBack, 1, none)
theorem codX0_comeBack : Cond.code yX0_comeBack cX0_comeBack 1 none ∈ aw_T := aw_in 954 (by decide +kernel) rfl
theorem insX0_comeBack : Cond.instanceMethod yX0_comeBack ∈ aw_T := aw_in 953 (by decide +kernel) rfl
theorem selX0_comeBack : Cond.selects RX0 yX0_comeBack yX0_comeBack ∈ aw_T := aw_in 32 (by decide +kernel) rfl
abbrev MX0_emit : aw_M := (yX0_emit, cX0_emit, 2, none)
theorem codX0_emit : Cond.code yX0_emit cX0_emit 2 none ∈ aw_T := aw_in 933 (by decide +kernel) rfl
theorem insX0_emit : Cond.instanceMethod yX0_emit ∈ aw_T := aw_in 932 (by decide +kernel) rfl
theorem selX0_emit : Cond.selects RX0 yX0_emit yX0_emit ∈ aw_T := aw_in 30 (by decide +kernel) rfl
abbrev MX0_hold : aw_M := (yX0_hold, cX0_hold, 2, none)
theorem codX0_hold : Cond.code yX0_hold cX0_hold 2 none ∈ aw_T := aw_in 1094 (by decide +kernel) rfl
theorem insX0_hold : Cond.instanceMethod yX0_hold ∈ aw_T := aw_in 1093 (by decide +kernel) rfl
theorem selX0_hold : Cond.selects RX0 yX0_hold yX0_hold ∈ aw_T := aw_in 49 (by decide +kernel) rfl
abbrev MX0_isLeaf : aw_M := (yX0_isLeaf, cX0_isLeaf, 3, (some .boolean))
theorem codX0_isLeaf : Cond.code yX0_isLeaf cX0_isLeaf 3 (some .boolean) ∈ aw_T := aw_in 1037 (by decide +kernel) rfl
theorem insX0_isLeaf : Cond.instanceMethod yX0_isLeaf ∈ aw_T := aw_in 1036 (by decide +kernel) rfl
theorem selX0_isLeaf : Cond.selects RX0 yX0_isLeaf yX0_isLeaf ∈ aw_T := aw_in 42 (by decide +kernel) rfl
abbrev MX0_isPair : aw_M := (yX0_isPair, cX0_isPair, 2, (some .boolean))
theorem codX0_isPair : Cond.code yX0_isPair cX0_isPair 2 (some .boolean) ∈ aw_T := aw_in 1041 (by decide +kernel) rfl
theorem insX0_isPair : Cond.instanceMethod yX0_isPair ∈ aw_T := aw_in 1040 (by decide +kernel) rfl
theorem selX0_isPair : Cond.selects RX0 yX0_isPair yX0_isPair ∈ aw_T := aw_in 43 (by decide +kernel) rfl
abbrev MX0_lookAtHeld : aw_M := (yX0_lookAtHeld, cX0_lookAtHeld, 2, none)
theorem codX0_lookAtHeld : Cond.code yX0_lookAtHeld cX0_lookAtHeld 2 none ∈ aw_T := aw_in 1130 (by decide +kernel) rfl
theorem insX0_lookAtHeld : Cond.instanceMethod yX0_lookAtHeld ∈ aw_T := aw_in 1129 (by decide +kernel) rfl
theorem selX0_lookAtHeld : Cond.selects RX0 yX0_lookAtHeld yX0_lookAtHeld ∈ aw_T := aw_in 56 (by decide +kernel) rfl
abbrev MX0_register : aw_M := (yX0_register, cX0_register, 1, (some .int))
theorem codX0_register : Cond.code yX0_register cX0_register 1 (some .int) ∈ aw_T := aw_in 1066 (by decide +kernel) rfl
theorem sttX0_register : Cond.static yX0_register ∈ aw_T := aw_in 1065 (by decide +kernel) rfl
abbrev MX0_release : aw_M := (yX0_release, cX0_release, 2, none)
theorem codX0_release : Cond.code yX0_release cX0_release 2 none ∈ aw_T := aw_in 1098 (by decide +kernel) rfl
theorem insX0_release : Cond.instanceMethod yX0_release ∈ aw_T := aw_in 1097 (by decide +kernel) rfl
theorem selX0_release : Cond.selects RX0 yX0_release yX0_release ∈ aw_T := aw_in 50 (by decide +kernel) rfl
abbrev MX0_rightFirst : aw_M := (yX0_rightFirst, cX0_rightFirst, 4, (some .boolean))
theorem codX0_rightFirst : Cond.code yX0_rightFirst cX0_rightFirst 4 (some .boolean) ∈ aw_T := aw_in 1051 (by decide +kernel) rfl
theorem insX0_rightFirst : Cond.instanceMethod yX0_rightFirst ∈ aw_T := aw_in 1050 (by decide +kernel) rfl
theorem selX0_rightFirst : Cond.selects RX0 yX0_rightFirst yX0_rightFirst ∈ aw_T := aw_in 44 (by decide +kernel) rfl
abbrev MX0_rowCall : aw_M := (yX0_rowCall, cX0_rowCall, 3, (some .int))
theorem codX0_rowCall : Cond.code yX0_rowCall cX0_rowCall 3 (some .int) ∈ aw_T := aw_in 1079 (by decide +kernel) rfl
theorem insX0_rowCall : Cond.instanceMethod yX0_rowCall ∈ aw_T := aw_in 1078 (by decide +kernel) rfl
theorem selX0_rowCall : Cond.selects RX0 yX0_rowCall yX0_rowCall ∈ aw_T := aw_in 46 (by decide +kernel) rfl
abbrev MX0_wordPlace : aw_M := (yX0_wordPlace, cX0_wordPlace, 2, (some .int))
theorem codX0_wordPlace : Cond.code yX0_wordPlace cX0_wordPlace 2 (some .int) ∈ aw_T := aw_in 986 (by decide +kernel) rfl
theorem insX0_wordPlace : Cond.instanceMethod yX0_wordPlace ∈ aw_T := aw_in 985 (by decide +kernel) rfl
theorem selX0_wordPlace : Cond.selects RX0 yX0_wordPlace yX0_wordPlace ∈ aw_T := aw_in 35 (by decide +kernel) rfl
abbrev MX0_write : aw_M := (yX0_write, cX0_write, 3, none)
theorem codX0_write : Cond.code yX0_write cX0_write 3 none ∈ aw_T := aw_in 918 (by decide +kernel) rfl
theorem insX0_write : Cond.instanceMethod yX0_write ∈ aw_T := aw_in 916 (by decide +kernel) rfl
theorem selX0_write : Cond.selects RX0 yX0_write yX0_write ∈ aw_T := aw_in 917 (by decide +kernel) rfl
abbrev MX0_writeCalls : aw_M := (yX0_writeCalls, cX0_writeCalls, 1, none)
theorem codX0_writeCalls : Cond.code yX0_writeCalls cX0_writeCalls 1 none ∈ aw_T := aw_in 944 (by decide +kernel) rfl
theorem insX0_writeCalls : Cond.instanceMethod yX0_writeCalls ∈ aw_T := aw_in 943 (by decide +kernel) rfl
theorem selX0_writeCalls : Cond.selects RX0 yX0_writeCalls yX0_writeCalls ∈ aw_T := aw_in 31 (by decide +kernel) rfl
abbrev MX0_writeElse : aw_M := (yX0_writeElse, cX0_writeElse, 3, none)
theorem codX0_writeElse : Cond.code yX0_writeElse cX0_writeElse 3 none ∈ aw_T := aw_in 1126 (by decide +kernel) rfl
theorem insX0_writeElse : Cond.instanceMethod yX0_writeElse ∈ aw_T := aw_in 1125 (by decide +kernel) rfl
theorem selX0_writeElse : Cond.selects RX0 yX0_writeElse yX0_writeElse ∈ aw_T := aw_in 55 (by decide +kernel) rfl
abbrev MX0_writeEnd : aw_M := (yX0_writeEnd, cX0_writeEnd, 2, none)
theorem codX0_writeEnd : Cond.code yX0_writeEnd cX0_writeEnd 2 none ∈ aw_T := aw_in 961 (by decide +kernel) rfl
theorem insX0_writeEnd : Cond.instanceMethod yX0_writeEnd ∈ aw_T := aw_in 960 (by decide +kernel) rfl
theorem selX0_writeEnd : Cond.selects RX0 yX0_writeEnd yX0_writeEnd ∈ aw_T := aw_in 33 (by decide +kernel) rfl
abbrev MX0_writeEndOfIf : aw_M := (yX0_writeEndOfIf, cX0_writeEndOfIf, 3, none)
theorem codX0_writeEndOfIf : Cond.code yX0_writeEndOfIf cX0_writeEndOfIf 3 none ∈ aw_T := aw_in 1134 (by decide +kernel) rfl
theorem insX0_writeEndOfIf : Cond.instanceMethod yX0_writeEndOfIf ∈ aw_T := aw_in 1133 (by decide +kernel) rfl
theorem selX0_writeEndOfIf : Cond.selects RX0 yX0_writeEndOfIf yX0_writeEndOfIf ∈ aw_T := aw_in 57 (by decide +kernel) rfl
abbrev MX0_writeEndOfWhile : aw_M := (yX0_writeEndOfWhile, cX0_writeEndOfWhile, 3, none)
theorem codX0_writeEndOfWhile : Cond.code yX0_writeEndOfWhile cX0_writeEndOfWhile 3 none ∈ aw_T := aw_in 1113 (by decide +kernel) rfl
theorem insX0_writeEndOfWhile : Cond.instanceMethod yX0_writeEndOfWhile ∈ aw_T := aw_in 1112 (by decide +kernel) rfl
theorem selX0_writeEndOfWhile : Cond.selects RX0 yX0_writeEndOfWhile yX0_writeEndOfWhile ∈ aw_T := aw_in 53 (by decide +kernel) rfl
abbrev MX0_writeLeaf : aw_M := (yX0_writeLeaf, cX0_writeLeaf, 5, none)
theorem codX0_writeLeaf : Cond.code yX0_writeLeaf cX0_writeLeaf 5 none ∈ aw_T := aw_in 1063 (by decide +kernel) rfl
theorem insX0_writeLeaf : Cond.instanceMethod yX0_writeLeaf ∈ aw_T := aw_in 1062 (by decide +kernel) rfl
theorem selX0_writeLeaf : Cond.selects RX0 yX0_writeLeaf yX0_writeLeaf ∈ aw_T := aw_in 45 (by decide +kernel) rfl
abbrev MX0_writeNode : aw_M := (yX0_writeNode, cX0_writeNode, 2, none)
theorem codX0_writeNode : Cond.code yX0_writeNode cX0_writeNode 2 none ∈ aw_T := aw_in 1016 (by decide +kernel) rfl
theorem insX0_writeNode : Cond.instanceMethod yX0_writeNode ∈ aw_T := aw_in 1015 (by decide +kernel) rfl
theorem selX0_writeNode : Cond.selects RX0 yX0_writeNode yX0_writeNode ∈ aw_T := aw_in 38 (by decide +kernel) rfl
abbrev MX0_writeOpenJump : aw_M := (yX0_writeOpenJump, cX0_writeOpenJump, 2, none)
theorem codX0_writeOpenJump : Cond.code yX0_writeOpenJump cX0_writeOpenJump 2 none ∈ aw_T := aw_in 1106 (by decide +kernel) rfl
theorem insX0_writeOpenJump : Cond.instanceMethod yX0_writeOpenJump ∈ aw_T := aw_in 1105 (by decide +kernel) rfl
theorem selX0_writeOpenJump : Cond.selects RX0 yX0_writeOpenJump yX0_writeOpenJump ∈ aw_T := aw_in 52 (by decide +kernel) rfl
abbrev MX0_writePair : aw_M := (yX0_writePair, cX0_writePair, 7, none)
theorem codX0_writePair : Cond.code yX0_writePair cX0_writePair 7 none ∈ aw_T := aw_in 1090 (by decide +kernel) rfl
theorem insX0_writePair : Cond.instanceMethod yX0_writePair ∈ aw_T := aw_in 1089 (by decide +kernel) rfl
theorem selX0_writePair : Cond.selects RX0 yX0_writePair yX0_writePair ∈ aw_T := aw_in 48 (by decide +kernel) rfl
abbrev MX0_writePut : aw_M := (yX0_writePut, cX0_writePut, 3, none)
theorem codX0_writePut : Cond.code yX0_writePut cX0_writePut 3 none ∈ aw_T := aw_in 1102 (by decide +kernel) rfl
theorem insX0_writePut : Cond.instanceMethod yX0_writePut ∈ aw_T := aw_in 1101 (by decide +kernel) rfl
theorem selX0_writePut : Cond.selects RX0 yX0_writePut yX0_writePut ∈ aw_T := aw_in 51 (by decide +kernel) rfl
abbrev MX0_writeRowCall : aw_M := (yX0_writeRowCall, cX0_writeRowCall, 4, none)
theorem codX0_writeRowCall : Cond.code yX0_writeRowCall cX0_writeRowCall 4 none ∈ aw_T := aw_in 997 (by decide +kernel) rfl
theorem insX0_writeRowCall : Cond.instanceMethod yX0_writeRowCall ∈ aw_T := aw_in 996 (by decide +kernel) rfl
theorem selX0_writeRowCall : Cond.selects RX0 yX0_writeRowCall yX0_writeRowCall ∈ aw_T := aw_in 36 (by decide +kernel) rfl
abbrev MX0_writeRowCalls : aw_M := (yX0_writeRowCalls, cX0_writeRowCalls, 4, none)
theorem codX0_writeRowCalls : Cond.code yX0_writeRowCalls cX0_writeRowCalls 4 none ∈ aw_T := aw_in 977 (by decide +kernel) rfl
theorem insX0_writeRowCalls : Cond.instanceMethod yX0_writeRowCalls ∈ aw_T := aw_in 976 (by decide +kernel) rfl
theorem selX0_writeRowCalls : Cond.selects RX0 yX0_writeRowCalls yX0_writeRowCalls ∈ aw_T := aw_in 34 (by decide +kernel) rfl
abbrev MX0_writeStep : aw_M := (yX0_writeStep, cX0_writeStep, 2, none)
theorem codX0_writeStep : Cond.code yX0_writeStep cX0_writeStep 2 none ∈ aw_T := aw_in 1021 (by decide +kernel) rfl
theorem insX0_writeStep : Cond.instanceMethod yX0_writeStep ∈ aw_T := aw_in 1020 (by decide +kernel) rfl
theorem selX0_writeStep : Cond.selects RX0 yX0_writeStep yX0_writeStep ∈ aw_T := aw_in 39 (by decide +kernel) rfl
abbrev MX0_writeThen : aw_M := (yX0_writeThen, cX0_writeThen, 2, none)
theorem codX0_writeThen : Cond.code yX0_writeThen cX0_writeThen 2 none ∈ aw_T := aw_in 1121 (by decide +kernel) rfl
theorem insX0_writeThen : Cond.instanceMethod yX0_writeThen ∈ aw_T := aw_in 1120 (by decide +kernel) rfl
theorem selX0_writeThen : Cond.selects RX0 yX0_writeThen yX0_writeThen ∈ aw_T := aw_in 54 (by decide +kernel) rfl
abbrev MX0_writeUnary : aw_M := (yX0_writeUnary, cX0_writeUnary, 3, none)
theorem codX0_writeUnary : Cond.code yX0_writeUnary cX0_writeUnary 3 none ∈ aw_T := aw_in 1083 (by decide +kernel) rfl
theorem insX0_writeUnary : Cond.instanceMethod yX0_writeUnary ∈ aw_T := aw_in 1082 (by decide +kernel) rfl
theorem selX0_writeUnary : Cond.selects RX0 yX0_writeUnary yX0_writeUnary ∈ aw_T := aw_in 47 (by decide +kernel) rfl
abbrev MX0_writeValue : aw_M := (yX0_writeValue, cX0_writeValue, 8, none)
theorem codX0_writeValue : Cond.code yX0_writeValue cX0_writeValue 8 none ∈ aw_T := aw_in 1033 (by decide +kernel) rfl
theorem insX0_writeValue : Cond.instanceMethod yX0_writeValue ∈ aw_T := aw_in 1032 (by decide +kernel) rfl
theorem selX0_writeValue : Cond.selects RX0 yX0_writeValue yX0_writeValue ∈ aw_T := aw_in 41 (by decide +kernel) rfl
theorem hX0_w : ∀ w ∈ u_ws RX0 TX0 12, w ∈ aw_T := by
  show ∀ w ∈ [u_lay RX0 TX0 0, u_lay RX0 TX0 1, u_lay RX0 TX0 2, u_lay RX0 TX0 3, u_lay RX0 TX0 4, u_lay RX0 TX0 5, u_lay RX0 TX0 6, u_lay RX0 TX0 7, u_lay RX0 TX0 8, u_lay RX0 TX0 9, u_lay RX0 TX0 10, u_lay RX0 TX0 11], w ∈ aw_T
  exact List.forall_mem_cons.mpr ⟨aw_in 352 (by decide +kernel) rfl, List.forall_mem_cons.mpr ⟨aw_in 354 (by decide +kernel) rfl, List.forall_mem_cons.mpr ⟨aw_in 356 (by decide +kernel) rfl, List.forall_mem_cons.mpr ⟨aw_in 358 (by decide +kernel) rfl, List.forall_mem_cons.mpr ⟨aw_in 360 (by decide +kernel) rfl, List.forall_mem_cons.mpr ⟨aw_in 362 (by decide +kernel) rfl, List.forall_mem_cons.mpr ⟨aw_in 364 (by decide +kernel) rfl, List.forall_mem_cons.mpr ⟨aw_in 366 (by decide +kernel) rfl, List.forall_mem_cons.mpr ⟨aw_in 368 (by decide +kernel) rfl, List.forall_mem_cons.mpr ⟨aw_in 370 (by decide +kernel) rfl, List.forall_mem_cons.mpr ⟨aw_in 372 (by decide +kernel) rfl, List.forall_mem_cons.mpr ⟨aw_in 374 (by decide +kernel) rfl, fun _ h => absurd h List.not_mem_nil⟩⟩⟩⟩⟩⟩⟩⟩⟩⟩⟩⟩
theorem hX0 : aw_C 0 RX0 TX0 12 tyX0 := ⟨rfl, hX0_w, tyX0_ok, nmX0⟩
theorem fX0_102 : aw_F RX0 102 0 6 .int false := aw_F.of hX0 6 (by decide) (aw_in 346 (by decide +kernel) rfl) rfl rfl rfl
theorem fX0_109 : aw_F RX0 109 0 7 .int false := aw_F.of hX0 7 (by decide) (aw_in 347 (by decide +kernel) rfl) rfl rfl rfl
theorem fX0_120 : aw_F RX0 120 0 8 .int false := aw_F.of hX0 8 (by decide) (aw_in 348 (by decide +kernel) rfl) rfl rfl rfl
theorem fX0_13 : aw_F RX0 13 0 3 (.array .int) true := aw_F.of hX0 3 (by decide) (aw_in 343 (by decide +kernel) rfl) rfl rfl rfl
theorem fX0_134 : aw_F RX0 134 0 9 .int false := aw_F.of hX0 9 (by decide) (aw_in 349 (by decide +kernel) rfl) rfl rfl rfl
theorem fX0_17 : aw_F RX0 17 0 0 (.object "QuietDesk$Nodes") true := aw_F.of hX0 0 (by decide) (aw_in 340 (by decide +kernel) rfl) rfl rfl rfl
theorem fX0_21 : aw_F RX0 21 0 1 (.object "QuietDesk$Names") true := aw_F.of hX0 1 (by decide) (aw_in 341 (by decide +kernel) rfl) rfl rfl rfl
theorem fX0_25 : aw_F RX0 25 0 2 (.object "QuietDesk$Machine") true := aw_F.of hX0 2 (by decide) (aw_in 342 (by decide +kernel) rfl) rfl rfl rfl
theorem fX0_35 : aw_F RX0 35 0 4 .int false := aw_F.of hX0 4 (by decide) (aw_in 344 (by decide +kernel) rfl) rfl rfl rfl
theorem fX0_39 : aw_F RX0 39 0 10 .int false := aw_F.of hX0 10 (by decide) (aw_in 350 (by decide +kernel) rfl) rfl rfl rfl
theorem fX0_42 : aw_F RX0 42 0 11 .int false := aw_F.of hX0 11 (by decide) (aw_in 351 (by decide +kernel) rfl) rfl rfl rfl
theorem fX0_93 : aw_F RX0 93 0 5 .int false := aw_F.of hX0 5 (by decide) (aw_in 345 (by decide +kernel) rfl) rfl rfl rfl
theorem qX0_243 : Cond.methodLink RX0 243 Lib.Math.min.name ∈ aw_T := aw_in 1067 (by decide +kernel) rfl
theorem lX0_105 : aw_L RX0 105 MX5_join 4 := ⟨aw_in 965 (by decide +kernel) rfl, iniX5, codX5_join, ⟨by decide, by decide, by decide +kernel⟩, by decide⟩
theorem lX0_112 : aw_L RX0 112 MX5_toMemory 3 := ⟨aw_in 971 (by decide +kernel) rfl, iniX5, codX5_toMemory, ⟨by decide, by decide, by decide +kernel⟩, by decide⟩
theorem lX0_115 : aw_L RX0 115 MX3_size 0 := ⟨aw_in 978 (by decide +kernel) rfl, iniX3, codX3_size, ⟨by decide, by decide, by decide +kernel⟩, by decide⟩
theorem lX0_116 : aw_L RX0 116 MX3_isRow 1 := ⟨aw_in 982 (by decide +kernel) rfl, iniX3, codX3_isRow, ⟨by decide, by decide, by decide +kernel⟩, by decide⟩
theorem lX0_123 : aw_L RX0 123 MX0_wordPlace 1 := ⟨aw_in 983 (by decide +kernel) rfl, iniX0, codX0_wordPlace, ⟨by decide, by decide, by decide +kernel⟩, by decide⟩
theorem lX0_127 : aw_L RX0 127 MX5_fromMemory 3 := ⟨aw_in 991 (by decide +kernel) rfl, iniX5, codX5_fromMemory, ⟨by decide, by decide, by decide +kernel⟩, by decide⟩
theorem lX0_130 : aw_L RX0 130 MX0_writeRowCall 3 := ⟨aw_in 994 (by decide +kernel) rfl, iniX0, codX0_writeRowCall, ⟨by decide, by decide, by decide +kernel⟩, by decide⟩
theorem lX0_137 : aw_L RX0 137 MX3_length 1 := ⟨aw_in 998 (by decide +kernel) rfl, iniX3, codX3_length, ⟨by decide, by decide, by decide +kernel⟩, by decide⟩
theorem lX0_140 : aw_L RX0 140 MX5_isBelow 3 := ⟨aw_in 999 (by decide +kernel) rfl, iniX5, codX5_isBelow, ⟨by decide, by decide, by decide +kernel⟩, by decide⟩
theorem lX0_143 : aw_L RX0 143 MX5_shiftLeft 3 := ⟨aw_in 1002 (by decide +kernel) rfl, iniX5, codX5_shiftLeft, ⟨by decide, by decide, by decide +kernel⟩, by decide⟩
theorem lX0_146 : aw_L RX0 146 MX3_firstWord 1 := ⟨aw_in 987 (by decide +kernel) rfl, iniX3, codX3_firstWord, ⟨by decide, by decide, by decide +kernel⟩, by decide⟩
theorem lX0_149 : aw_L RX0 149 MX4_kind 1 := ⟨aw_in 1017 (by decide +kernel) rfl, iniX4, codX4_kind, ⟨by decide, by decide, by decide +kernel⟩, by decide⟩
theorem lX0_152 : aw_L RX0 152 MX0_writeStep 1 := ⟨aw_in 1018 (by decide +kernel) rfl, iniX0, codX0_writeStep, ⟨by decide, by decide, by decide +kernel⟩, by decide⟩
theorem lX0_155 : aw_L RX0 155 MX0_writeValue 3 := ⟨aw_in 1030 (by decide +kernel) rfl, iniX0, codX0_writeValue, ⟨by decide, by decide, by decide +kernel⟩, by decide⟩
theorem lX0_158 : aw_L RX0 158 MX4_value 1 := ⟨aw_in 1068 (by decide +kernel) rfl, iniX4, codX4_value, ⟨by decide, by decide, by decide +kernel⟩, by decide⟩
theorem lX0_161 : aw_L RX0 161 MX0_rowCall 2 := ⟨aw_in 1076 (by decide +kernel) rfl, iniX0, codX0_rowCall, ⟨by decide, by decide, by decide +kernel⟩, by decide⟩
theorem lX0_164 : aw_L RX0 164 MX0_callFor 2 := ⟨aw_in 1022 (by decide +kernel) rfl, iniX0, codX0_callFor, ⟨by decide, by decide, by decide +kernel⟩, by decide⟩
theorem lX0_167 : aw_L RX0 167 MX0_hold 1 := ⟨aw_in 1091 (by decide +kernel) rfl, iniX0, codX0_hold, ⟨by decide, by decide, by decide +kernel⟩, by decide⟩
theorem lX0_170 : aw_L RX0 170 MX0_writePut 1 := ⟨aw_in 1099 (by decide +kernel) rfl, iniX0, codX0_writePut, ⟨by decide, by decide, by decide +kernel⟩, by decide⟩
theorem lX0_173 : aw_L RX0 173 MX0_writeOpenJump 1 := ⟨aw_in 1103 (by decide +kernel) rfl, iniX0, codX0_writeOpenJump, ⟨by decide, by decide, by decide +kernel⟩, by decide⟩
theorem lX0_176 : aw_L RX0 176 MX0_writeEndOfWhile 1 := ⟨aw_in 1110 (by decide +kernel) rfl, iniX0, codX0_writeEndOfWhile, ⟨by decide, by decide, by decide +kernel⟩, by decide⟩
theorem lX0_179 : aw_L RX0 179 MX0_writeThen 1 := ⟨aw_in 1118 (by decide +kernel) rfl, iniX0, codX0_writeThen, ⟨by decide, by decide, by decide +kernel⟩, by decide⟩
theorem lX0_182 : aw_L RX0 182 MX0_writeElse 2 := ⟨aw_in 1123 (by decide +kernel) rfl, iniX0, codX0_writeElse, ⟨by decide, by decide, by decide +kernel⟩, by decide⟩
theorem lX0_185 : aw_L RX0 185 MX0_writeEndOfIf 1 := ⟨aw_in 1131 (by decide +kernel) rfl, iniX0, codX0_writeEndOfIf, ⟨by decide, by decide, by decide +kernel⟩, by decide⟩
theorem lX0_188 : aw_L RX0 188 MX0_release 1 := ⟨aw_in 1095 (by decide +kernel) rfl, iniX0, codX0_release, ⟨by decide, by decide, by decide +kernel⟩, by decide⟩
theorem lX0_191 : aw_L RX0 191 MX5_branchIfNotEqual 3 := ⟨aw_in 1107 (by decide +kernel) rfl, iniX5, codX5_branchIfNotEqual, ⟨by decide, by decide, by decide +kernel⟩, by decide⟩
theorem lX0_194 : aw_L RX0 194 MX4_keepTie 2 := ⟨aw_in 1044 (by decide +kernel) rfl, iniX4, codX4_keepTie, ⟨by decide, by decide, by decide +kernel⟩, by decide⟩
theorem lX0_197 : aw_L RX0 197 MX4_secret 1 := ⟨aw_in 1122 (by decide +kernel) rfl, iniX4, codX4_secret, ⟨by decide, by decide, by decide +kernel⟩, by decide⟩
theorem lX0_200 : aw_L RX0 200 MX0_lookAtHeld 1 := ⟨aw_in 1127 (by decide +kernel) rfl, iniX0, codX0_lookAtHeld, ⟨by decide, by decide, by decide +kernel⟩, by decide⟩
theorem lX0_203 : aw_L RX0 203 MX4_tie 1 := ⟨aw_in 1072 (by decide +kernel) rfl, iniX4, codX4_tie, ⟨by decide, by decide, by decide +kernel⟩, by decide⟩
theorem lX0_206 : aw_L RX0 206 MX4_back 1 := ⟨aw_in 1114 (by decide +kernel) rfl, iniX4, codX4_back, ⟨by decide, by decide, by decide +kernel⟩, by decide⟩
theorem lX0_209 : aw_L RX0 209 MX0_isLeaf 1 := ⟨aw_in 1034 (by decide +kernel) rfl, iniX0, codX0_isLeaf, ⟨by decide, by decide, by decide +kernel⟩, by decide⟩
theorem lX0_212 : aw_L RX0 212 MX0_isPair 1 := ⟨aw_in 1038 (by decide +kernel) rfl, iniX0, codX0_isPair, ⟨by decide, by decide, by decide +kernel⟩, by decide⟩
theorem lX0_215 : aw_L RX0 215 MX4_left 1 := ⟨aw_in 1043 (by decide +kernel) rfl, iniX4, codX4_left, ⟨by decide, by decide, by decide +kernel⟩, by decide⟩
theorem lX0_218 : aw_L RX0 218 MX0_rightFirst 1 := ⟨aw_in 1048 (by decide +kernel) rfl, iniX0, codX0_rightFirst, ⟨by decide, by decide, by decide +kernel⟩, by decide⟩
theorem lX0_221 : aw_L RX0 221 MX0_writeLeaf 2 := ⟨aw_in 1060 (by decide +kernel) rfl, iniX0, codX0_writeLeaf, ⟨by decide, by decide, by decide +kernel⟩, by decide⟩
theorem lX0_224 : aw_L RX0 224 MX0_register 1 := ⟨aw_in 1064 (by decide +kernel) rfl, iniX0, codX0_register, ⟨by decide, by decide, by decide +kernel⟩, by decide⟩
theorem lX0_227 : aw_L RX0 227 MX0_writeUnary 2 := ⟨aw_in 1080 (by decide +kernel) rfl, iniX0, codX0_writeUnary, ⟨by decide, by decide, by decide +kernel⟩, by decide⟩
theorem lX0_230 : aw_L RX0 230 MX0_writePair 4 := ⟨aw_in 1087 (by decide +kernel) rfl, iniX0, codX0_writePair, ⟨by decide, by decide, by decide +kernel⟩, by decide⟩
theorem lX0_234 : aw_L RX0 234 MX4_calls 1 := ⟨aw_in 1052 (by decide +kernel) rfl, iniX4, codX4_calls, ⟨by decide, by decide, by decide +kernel⟩, by decide⟩
theorem lX0_237 : aw_L RX0 237 MX4_level 1 := ⟨aw_in 1042 (by decide +kernel) rfl, iniX4, codX4_level, ⟨by decide, by decide, by decide +kernel⟩, by decide⟩
theorem lX0_240 : aw_L RX0 240 MX4_need 1 := ⟨aw_in 1056 (by decide +kernel) rfl, iniX4, codX4_need, ⟨by decide, by decide, by decide +kernel⟩, by decide⟩
theorem lX0_248 : aw_L RX0 248 MX5_upper 2 := ⟨aw_in 1069 (by decide +kernel) rfl, iniX5, codX5_upper, ⟨by decide, by decide, by decide +kernel⟩, by decide⟩
theorem lX0_251 : aw_L RX0 251 MX5_turn 3 := ⟨aw_in 1084 (by decide +kernel) rfl, iniX5, codX5_turn, ⟨by decide, by decide, by decide +kernel⟩, by decide⟩
theorem lX0_31 : aw_L RX0 31 MX2_wipe 1 := ⟨aw_in 919 (by decide +kernel) rfl, iniX2, codX2_wipe, ⟨by decide, by decide, by decide +kernel⟩, by decide⟩
theorem lX0_45 : aw_L RX0 45 MX5_add 3 := ⟨aw_in 924 (by decide +kernel) rfl, iniX5, codX5_add, ⟨by decide, by decide, by decide +kernel⟩, by decide⟩
theorem lX0_51 : aw_L RX0 51 MX0_emit 1 := ⟨aw_in 930 (by decide +kernel) rfl, iniX0, codX0_emit, ⟨by decide, by decide, by decide +kernel⟩, by decide⟩
theorem lX0_54 : aw_L RX0 54 MX0_writeCalls 0 := ⟨aw_in 941 (by decide +kernel) rfl, iniX0, codX0_writeCalls, ⟨by decide, by decide, by decide +kernel⟩, by decide⟩
theorem lX0_57 : aw_L RX0 57 MX0_writeRowCalls 0 := ⟨aw_in 974 (by decide +kernel) rfl, iniX0, codX0_writeRowCalls, ⟨by decide, by decide, by decide +kernel⟩, by decide⟩
theorem lX0_60 : aw_L RX0 60 MX0_closeJump 1 := ⟨aw_in 1005 (by decide +kernel) rfl, iniX0, codX0_closeJump, ⟨by decide, by decide, by decide +kernel⟩, by decide⟩
theorem lX0_63 : aw_L RX0 63 MX4_size 0 := ⟨aw_in 1012 (by decide +kernel) rfl, iniX4, codX4_size, ⟨by decide, by decide, by decide +kernel⟩, by decide⟩
theorem lX0_69 : aw_L RX0 69 MX0_writeNode 1 := ⟨aw_in 1013 (by decide +kernel) rfl, iniX0, codX0_writeNode, ⟨by decide, by decide, by decide +kernel⟩, by decide⟩
theorem lX0_72 : aw_L RX0 72 MX0_writeEnd 1 := ⟨aw_in 958 (by decide +kernel) rfl, iniX0, codX0_writeEnd, ⟨by decide, by decide, by decide +kernel⟩, by decide⟩
theorem lX0_75 : aw_L RX0 75 MX2_store 2 := ⟨aw_in 934 (by decide +kernel) rfl, iniX2, codX2_store, ⟨by decide, by decide, by decide +kernel⟩, by decide⟩
theorem lX0_79 : aw_L RX0 79 MX5_jump 2 := ⟨aw_in 1009 (by decide +kernel) rfl, iniX5, codX5_jump, ⟨by decide, by decide, by decide +kernel⟩, by decide⟩
theorem lX0_83 : aw_L RX0 83 MX5_call 0 := ⟨aw_in 962 (by decide +kernel) rfl, iniX5, codX5_call, ⟨by decide, by decide, by decide +kernel⟩, by decide⟩
theorem lX0_86 : aw_L RX0 86 MX5_jumpByRegister 2 := ⟨aw_in 955 (by decide +kernel) rfl, iniX5, codX5_jumpByRegister, ⟨by decide, by decide, by decide +kernel⟩, by decide⟩
theorem lX0_89 : aw_L RX0 89 MX4_keepBack 2 := ⟨aw_in 1026 (by decide +kernel) rfl, iniX4, codX4_keepBack, ⟨by decide, by decide, by decide +kernel⟩, by decide⟩
theorem lX0_96 : aw_L RX0 96 MX5_branchIfEqual 3 := ⟨aw_in 945 (by decide +kernel) rfl, iniX5, codX5_branchIfEqual, ⟨by decide, by decide, by decide +kernel⟩, by decide⟩
theorem lX0_99 : aw_L RX0 99 MX0_comeBack 0 := ⟨aw_in 951 (by decide +kernel) rfl, iniX0, codX0_comeBack, ⟨by decide, by decide, by decide +kernel⟩, by decide⟩
