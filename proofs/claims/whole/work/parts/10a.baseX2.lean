theorem dX2_place_0 : decode cX2_place 0 = .ok (.aload_n 0, 1) := by decide +kernel
theorem dX2_place_1 : decode cX2_place 1 = .ok (.getfield 19, 3) := by decide +kernel
theorem dX2_place_4 : decode cX2_place 4 = .ok (.ireturn, 1) := by decide +kernel
theorem dX2_ordersDone_0 : decode cX2_ordersDone 0 = .ok (.aload_n 0, 1) := by decide +kernel
theorem dX2_ordersDone_1 : decode cX2_ordersDone 1 = .ok (.getfield 23, 3) := by decide +kernel
theorem dX2_ordersDone_4 : decode cX2_ordersDone 4 = .ok (.ireturn, 1) := by decide +kernel
theorem dX2_cycles_0 : decode cX2_cycles 0 = .ok (.aload_n 0, 1) := by decide +kernel
theorem dX2_cycles_1 : decode cX2_cycles 1 = .ok (.getfield 26, 3) := by decide +kernel
theorem dX2_cycles_4 : decode cX2_cycles 4 = .ok (.lreturn, 1) := by decide +kernel
theorem dX2_misses_0 : decode cX2_misses 0 = .ok (.aload_n 0, 1) := by decide +kernel
theorem dX2_misses_1 : decode cX2_misses 1 = .ok (.getfield 30, 3) := by decide +kernel
theorem dX2_misses_4 : decode cX2_misses 4 = .ok (.ireturn, 1) := by decide +kernel
theorem dX2_events_0 : decode cX2_events 0 = .ok (.aload_n 0, 1) := by decide +kernel
theorem dX2_events_1 : decode cX2_events 1 = .ok (.getfield 33, 3) := by decide +kernel
theorem dX2_events_4 : decode cX2_events 4 = .ok (.lreturn, 1) := by decide +kernel
theorem dX2_isPlace_0 : decode cX2_isPlace 0 = .ok (.iload_n 0, 1) := by decide +kernel
theorem dX2_isPlace_1 : decode cX2_isPlace 1 = .ok (.ifCond .lt 20, 3) := by decide +kernel
theorem dX2_isPlace_4 : decode cX2_isPlace 4 = .ok (.iload_n 0, 1) := by decide +kernel
theorem dX2_isPlace_5 : decode cX2_isPlace 5 = .ok (.sipush 16384, 3) := by decide +kernel
theorem dX2_isPlace_8 : decode cX2_isPlace 8 = .ok (.if_icmp .ge 13, 3) := by decide +kernel
theorem dX2_isPlace_11 : decode cX2_isPlace 11 = .ok (.iload_n 0, 1) := by decide +kernel
theorem dX2_isPlace_12 : decode cX2_isPlace 12 = .ok (.iconst 3, 1) := by decide +kernel
theorem dX2_isPlace_13 : decode cX2_isPlace 13 = .ok (.iand, 1) := by decide +kernel
theorem dX2_isPlace_14 : decode cX2_isPlace 14 = .ok (.ifCond .ne 7, 3) := by decide +kernel
theorem dX2_isPlace_17 : decode cX2_isPlace 17 = .ok (.iconst 1, 1) := by decide +kernel
theorem dX2_isPlace_18 : decode cX2_isPlace 18 = .ok (.goto 4, 3) := by decide +kernel
theorem dX2_isPlace_21 : decode cX2_isPlace 21 = .ok (.iconst 0, 1) := by decide +kernel
theorem dX2_isPlace_22 : decode cX2_isPlace 22 = .ok (.ireturn, 1) := by decide +kernel
theorem dX2_store_0 : decode cX2_store 0 = .ok (.iload_n 1, 1) := by decide +kernel
theorem dX2_store_1 : decode cX2_store 1 = .ok (.invokestatic 36, 3) := by decide +kernel
theorem dX2_store_4 : decode cX2_store 4 = .ok (.ifCond .ne 5, 3) := by decide +kernel
theorem dX2_store_7 : decode cX2_store 7 = .ok (.iconst 0, 1) := by decide +kernel
theorem dX2_store_8 : decode cX2_store 8 = .ok (.ireturn, 1) := by decide +kernel
theorem dX2_store_9 : decode cX2_store 9 = .ok (.aload_n 0, 1) := by decide +kernel
theorem dX2_store_10 : decode cX2_store 10 = .ok (.getfield 9, 3) := by decide +kernel
theorem dX2_store_13 : decode cX2_store 13 = .ok (.iload_n 1, 1) := by decide +kernel
theorem dX2_store_14 : decode cX2_store 14 = .ok (.iconst 2, 1) := by decide +kernel
theorem dX2_store_15 : decode cX2_store 15 = .ok (.ishr, 1) := by decide +kernel
theorem dX2_store_16 : decode cX2_store 16 = .ok (.iload_n 2, 1) := by decide +kernel
theorem dX2_store_17 : decode cX2_store 17 = .ok (.iastore, 1) := by decide +kernel
theorem dX2_store_18 : decode cX2_store 18 = .ok (.iconst 1, 1) := by decide +kernel
theorem dX2_store_19 : decode cX2_store 19 = .ok (.ireturn, 1) := by decide +kernel
theorem dX2_fetch_0 : decode cX2_fetch 0 = .ok (.iload_n 1, 1) := by decide +kernel
theorem dX2_fetch_1 : decode cX2_fetch 1 = .ok (.invokestatic 36, 3) := by decide +kernel
theorem dX2_fetch_4 : decode cX2_fetch 4 = .ok (.ifCond .eq 14, 3) := by decide +kernel
theorem dX2_fetch_7 : decode cX2_fetch 7 = .ok (.aload_n 0, 1) := by decide +kernel
theorem dX2_fetch_8 : decode cX2_fetch 8 = .ok (.getfield 9, 3) := by decide +kernel
theorem dX2_fetch_11 : decode cX2_fetch 11 = .ok (.iload_n 1, 1) := by decide +kernel
theorem dX2_fetch_12 : decode cX2_fetch 12 = .ok (.iconst 2, 1) := by decide +kernel
theorem dX2_fetch_13 : decode cX2_fetch 13 = .ok (.ishr, 1) := by decide +kernel
theorem dX2_fetch_14 : decode cX2_fetch 14 = .ok (.iaload, 1) := by decide +kernel
theorem dX2_fetch_15 : decode cX2_fetch 15 = .ok (.goto 4, 3) := by decide +kernel
theorem dX2_fetch_18 : decode cX2_fetch 18 = .ok (.iconst 0, 1) := by decide +kernel
theorem dX2_fetch_19 : decode cX2_fetch 19 = .ok (.ireturn, 1) := by decide +kernel
theorem dX2_fill_0 : decode cX2_fill 0 = .ok (.iload_n 1, 1) := by decide +kernel
theorem dX2_fill_1 : decode cX2_fill 1 = .ok (.ifCond .lt 9, 3) := by decide +kernel
theorem dX2_fill_4 : decode cX2_fill 4 = .ok (.iload_n 1, 1) := by decide +kernel
theorem dX2_fill_5 : decode cX2_fill 5 = .ok (.bipush 32, 2) := by decide +kernel
theorem dX2_fill_7 : decode cX2_fill 7 = .ok (.if_icmp .lt 5, 3) := by decide +kernel
theorem dX2_fill_10 : decode cX2_fill 10 = .ok (.iconst 0, 1) := by decide +kernel
theorem dX2_fill_11 : decode cX2_fill 11 = .ok (.ireturn, 1) := by decide +kernel
theorem dX2_fill_12 : decode cX2_fill 12 = .ok (.iload_n 1, 1) := by decide +kernel
theorem dX2_fill_13 : decode cX2_fill 13 = .ok (.ifCond .eq 10, 3) := by decide +kernel
theorem dX2_fill_16 : decode cX2_fill 16 = .ok (.aload_n 0, 1) := by decide +kernel
theorem dX2_fill_17 : decode cX2_fill 17 = .ok (.getfield 13, 3) := by decide +kernel
theorem dX2_fill_20 : decode cX2_fill 20 = .ok (.iload_n 1, 1) := by decide +kernel
theorem dX2_fill_21 : decode cX2_fill 21 = .ok (.iload_n 2, 1) := by decide +kernel
theorem dX2_fill_22 : decode cX2_fill 22 = .ok (.iastore, 1) := by decide +kernel
theorem dX2_fill_23 : decode cX2_fill 23 = .ok (.iconst 1, 1) := by decide +kernel
theorem dX2_fill_24 : decode cX2_fill 24 = .ok (.ireturn, 1) := by decide +kernel
theorem dX2_register_0 : decode cX2_register 0 = .ok (.iload_n 1, 1) := by decide +kernel
theorem dX2_register_1 : decode cX2_register 1 = .ok (.ifCond .lt 9, 3) := by decide +kernel
theorem dX2_register_4 : decode cX2_register 4 = .ok (.iload_n 1, 1) := by decide +kernel
theorem dX2_register_5 : decode cX2_register 5 = .ok (.bipush 32, 2) := by decide +kernel
theorem dX2_register_7 : decode cX2_register 7 = .ok (.if_icmp .lt 7, 3) := by decide +kernel
theorem dX2_register_10 : decode cX2_register 10 = .ok (.iconst 0, 1) := by decide +kernel
theorem dX2_register_11 : decode cX2_register 11 = .ok (.goto 9, 3) := by decide +kernel
theorem dX2_register_14 : decode cX2_register 14 = .ok (.aload_n 0, 1) := by decide +kernel
theorem dX2_register_15 : decode cX2_register 15 = .ok (.getfield 13, 3) := by decide +kernel
theorem dX2_register_18 : decode cX2_register 18 = .ok (.iload_n 1, 1) := by decide +kernel
theorem dX2_register_19 : decode cX2_register 19 = .ok (.iaload, 1) := by decide +kernel
theorem dX2_register_20 : decode cX2_register 20 = .ok (.ireturn, 1) := by decide +kernel
theorem dX2_beginAt_0 : decode cX2_beginAt 0 = .ok (.iload_n 1, 1) := by decide +kernel
theorem dX2_beginAt_1 : decode cX2_beginAt 1 = .ok (.invokestatic 36, 3) := by decide +kernel
theorem dX2_beginAt_4 : decode cX2_beginAt 4 = .ok (.ifCond .ne 5, 3) := by decide +kernel
theorem dX2_beginAt_7 : decode cX2_beginAt 7 = .ok (.iconst 0, 1) := by decide +kernel
theorem dX2_beginAt_8 : decode cX2_beginAt 8 = .ok (.ireturn, 1) := by decide +kernel
theorem dX2_beginAt_9 : decode cX2_beginAt 9 = .ok (.aload_n 0, 1) := by decide +kernel
theorem dX2_beginAt_10 : decode cX2_beginAt 10 = .ok (.iload_n 1, 1) := by decide +kernel
theorem dX2_beginAt_11 : decode cX2_beginAt 11 = .ok (.putfield 19, 3) := by decide +kernel
theorem dX2_beginAt_14 : decode cX2_beginAt 14 = .ok (.aload_n 0, 1) := by decide +kernel
theorem dX2_beginAt_15 : decode cX2_beginAt 15 = .ok (.iconst 0, 1) := by decide +kernel
theorem dX2_beginAt_16 : decode cX2_beginAt 16 = .ok (.putfield 23, 3) := by decide +kernel
theorem dX2_beginAt_19 : decode cX2_beginAt 19 = .ok (.aload_n 0, 1) := by decide +kernel
theorem dX2_beginAt_20 : decode cX2_beginAt 20 = .ok (.lconst 0, 1) := by decide +kernel
theorem dX2_beginAt_21 : decode cX2_beginAt 21 = .ok (.putfield 26, 3) := by decide +kernel
theorem dX2_beginAt_24 : decode cX2_beginAt 24 = .ok (.aload_n 0, 1) := by decide +kernel
theorem dX2_beginAt_25 : decode cX2_beginAt 25 = .ok (.iconst 0, 1) := by decide +kernel
theorem dX2_beginAt_26 : decode cX2_beginAt 26 = .ok (.putfield 30, 3) := by decide +kernel
theorem dX2_beginAt_29 : decode cX2_beginAt 29 = .ok (.aload_n 0, 1) := by decide +kernel
theorem dX2_beginAt_30 : decode cX2_beginAt 30 = .ok (.lconst 0, 1) := by decide +kernel
theorem dX2_beginAt_31 : decode cX2_beginAt 31 = .ok (.putfield 33, 3) := by decide +kernel
theorem dX2_beginAt_34 : decode cX2_beginAt 34 = .ok (.aload_n 0, 1) := by decide +kernel
theorem dX2_beginAt_35 : decode cX2_beginAt 35 = .ok (.getfield 16, 3) := by decide +kernel
theorem dX2_beginAt_38 : decode cX2_beginAt 38 = .ok (.iconst 0, 1) := by decide +kernel
theorem dX2_beginAt_39 : decode cX2_beginAt 39 = .ok (.invokestatic 40, 3) := by decide +kernel
theorem dX2_beginAt_42 : decode cX2_beginAt 42 = .ok (.iconst 1, 1) := by decide +kernel
theorem dX2_beginAt_43 : decode cX2_beginAt 43 = .ok (.ireturn, 1) := by decide +kernel
theorem dX2_wipe_0 : decode cX2_wipe 0 = .ok (.iconst 0, 1) := by decide +kernel
theorem dX2_wipe_1 : decode cX2_wipe 1 = .ok (.istore_n 2, 1) := by decide +kernel
theorem dX2_wipe_2 : decode cX2_wipe 2 = .ok (.iload_n 2, 1) := by decide +kernel
theorem dX2_wipe_3 : decode cX2_wipe 3 = .ok (.iload_n 1, 1) := by decide +kernel
theorem dX2_wipe_4 : decode cX2_wipe 4 = .ok (.iconst 2, 1) := by decide +kernel
theorem dX2_wipe_5 : decode cX2_wipe 5 = .ok (.ishr, 1) := by decide +kernel
theorem dX2_wipe_6 : decode cX2_wipe 6 = .ok (.if_icmp .ge 23, 3) := by decide +kernel
theorem dX2_wipe_9 : decode cX2_wipe 9 = .ok (.iload_n 2, 1) := by decide +kernel
theorem dX2_wipe_10 : decode cX2_wipe 10 = .ok (.sipush 4096, 3) := by decide +kernel
theorem dX2_wipe_13 : decode cX2_wipe 13 = .ok (.if_icmp .ge 16, 3) := by decide +kernel
theorem dX2_wipe_16 : decode cX2_wipe 16 = .ok (.aload_n 0, 1) := by decide +kernel
theorem dX2_wipe_17 : decode cX2_wipe 17 = .ok (.getfield 9, 3) := by decide +kernel
theorem dX2_wipe_20 : decode cX2_wipe 20 = .ok (.iload_n 2, 1) := by decide +kernel
theorem dX2_wipe_21 : decode cX2_wipe 21 = .ok (.iconst 0, 1) := by decide +kernel
theorem dX2_wipe_22 : decode cX2_wipe 22 = .ok (.iastore, 1) := by decide +kernel
theorem dX2_wipe_23 : decode cX2_wipe 23 = .ok (.iinc 2 1, 3) := by decide +kernel
theorem dX2_wipe_26 : decode cX2_wipe 26 = .ok (.goto (-24), 3) := by decide +kernel
theorem dX2_wipe_29 : decode cX2_wipe 29 = .ok (.aload_n 0, 1) := by decide +kernel
theorem dX2_wipe_30 : decode cX2_wipe 30 = .ok (.getfield 13, 3) := by decide +kernel
theorem dX2_wipe_33 : decode cX2_wipe 33 = .ok (.iconst 0, 1) := by decide +kernel
theorem dX2_wipe_34 : decode cX2_wipe 34 = .ok (.invokestatic 40, 3) := by decide +kernel
theorem dX2_wipe_37 : decode cX2_wipe 37 = .ok (.return_, 1) := by decide +kernel
theorem dX2_work_0 : decode cX2_work 0 = .ok (.iconst 0, 1) := by decide +kernel
theorem dX2_work_1 : decode cX2_work 1 = .ok (.istore_n 2, 1) := by decide +kernel
theorem dX2_work_2 : decode cX2_work 2 = .ok (.iload_n 2, 1) := by decide +kernel
theorem dX2_work_3 : decode cX2_work 3 = .ok (.iload_n 1, 1) := by decide +kernel
theorem dX2_work_4 : decode cX2_work 4 = .ok (.if_icmp .ge 20, 3) := by decide +kernel
theorem dX2_work_7 : decode cX2_work 7 = .ok (.aload_n 0, 1) := by decide +kernel
theorem dX2_work_8 : decode cX2_work 8 = .ok (.invokevirtual 46, 3) := by decide +kernel
theorem dX2_work_11 : decode cX2_work 11 = .ok (.istore_n 3, 1) := by decide +kernel
theorem dX2_work_12 : decode cX2_work 12 = .ok (.iload_n 3, 1) := by decide +kernel
theorem dX2_work_13 : decode cX2_work 13 = .ok (.ifCond .eq 5, 3) := by decide +kernel
theorem dX2_work_16 : decode cX2_work 16 = .ok (.iload_n 3, 1) := by decide +kernel
theorem dX2_work_17 : decode cX2_work 17 = .ok (.ireturn, 1) := by decide +kernel
theorem dX2_work_18 : decode cX2_work 18 = .ok (.iinc 2 1, 3) := by decide +kernel
theorem dX2_work_21 : decode cX2_work 21 = .ok (.goto (-19), 3) := by decide +kernel
theorem dX2_work_24 : decode cX2_work 24 = .ok (.iconst 0, 1) := by decide +kernel
theorem dX2_work_25 : decode cX2_work 25 = .ok (.ireturn, 1) := by decide +kernel
theorem dX2_doOrder_0 : decode cX2_doOrder 0 = .ok (.aload_n 0, 1) := by decide +kernel
theorem dX2_doOrder_1 : decode cX2_doOrder 1 = .ok (.getfield 19, 3) := by decide +kernel
theorem dX2_doOrder_4 : decode cX2_doOrder 4 = .ok (.invokestatic 36, 3) := by decide +kernel
theorem dX2_doOrder_7 : decode cX2_doOrder 7 = .ok (.ifCond .ne 5, 3) := by decide +kernel
theorem dX2_doOrder_10 : decode cX2_doOrder 10 = .ok (.iconst 3, 1) := by decide +kernel
theorem dX2_doOrder_11 : decode cX2_doOrder 11 = .ok (.ireturn, 1) := by decide +kernel
theorem dX2_doOrder_12 : decode cX2_doOrder 12 = .ok (.aload_n 0, 1) := by decide +kernel
theorem dX2_doOrder_13 : decode cX2_doOrder 13 = .ok (.getfield 9, 3) := by decide +kernel
theorem dX2_doOrder_16 : decode cX2_doOrder 16 = .ok (.aload_n 0, 1) := by decide +kernel
theorem dX2_doOrder_17 : decode cX2_doOrder 17 = .ok (.getfield 19, 3) := by decide +kernel
theorem dX2_doOrder_20 : decode cX2_doOrder 20 = .ok (.iconst 2, 1) := by decide +kernel
theorem dX2_doOrder_21 : decode cX2_doOrder 21 = .ok (.ishr, 1) := by decide +kernel
theorem dX2_doOrder_22 : decode cX2_doOrder 22 = .ok (.iaload, 1) := by decide +kernel
theorem dX2_doOrder_23 : decode cX2_doOrder 23 = .ok (.istore_n 1, 1) := by decide +kernel
theorem dX2_doOrder_24 : decode cX2_doOrder 24 = .ok (.iload_n 1, 1) := by decide +kernel
theorem dX2_doOrder_25 : decode cX2_doOrder 25 = .ok (.bipush 127, 2) := by decide +kernel
theorem dX2_doOrder_27 : decode cX2_doOrder 27 = .ok (.iand, 1) := by decide +kernel
theorem dX2_doOrder_28 : decode cX2_doOrder 28 = .ok (.lookupswitch 174 #[(3, 150), (19, 162), (23, 99), (35, 156), (51, 168), (55, 84), (99, 144), (103, 138), (111, 119)], 84) := by decide +kernel
theorem dX2_doOrder_112 : decode cX2_doOrder 112 = .ok (.aload_n 0, 1) := by decide +kernel
theorem dX2_doOrder_113 : decode cX2_doOrder 113 = .ok (.invokevirtual 50, 3) := by decide +kernel
theorem dX2_doOrder_116 : decode cX2_doOrder 116 = .ok (.aload_n 0, 1) := by decide +kernel
theorem dX2_doOrder_117 : decode cX2_doOrder 117 = .ok (.iload_n 1, 1) := by decide +kernel
theorem dX2_doOrder_118 : decode cX2_doOrder 118 = .ok (.iload_n 1, 1) := by decide +kernel
theorem dX2_doOrder_119 : decode cX2_doOrder 119 = .ok (.sipush (-4096), 3) := by decide +kernel
theorem dX2_doOrder_122 : decode cX2_doOrder 122 = .ok (.iand, 1) := by decide +kernel
theorem dX2_doOrder_123 : decode cX2_doOrder 123 = .ok (.invokevirtual 53, 3) := by decide +kernel
theorem dX2_doOrder_126 : decode cX2_doOrder 126 = .ok (.ireturn, 1) := by decide +kernel
theorem dX2_doOrder_127 : decode cX2_doOrder 127 = .ok (.aload_n 0, 1) := by decide +kernel
theorem dX2_doOrder_128 : decode cX2_doOrder 128 = .ok (.invokevirtual 50, 3) := by decide +kernel
theorem dX2_doOrder_131 : decode cX2_doOrder 131 = .ok (.aload_n 0, 1) := by decide +kernel
theorem dX2_doOrder_132 : decode cX2_doOrder 132 = .ok (.iload_n 1, 1) := by decide +kernel
theorem dX2_doOrder_133 : decode cX2_doOrder 133 = .ok (.aload_n 0, 1) := by decide +kernel
theorem dX2_doOrder_134 : decode cX2_doOrder 134 = .ok (.getfield 19, 3) := by decide +kernel
theorem dX2_doOrder_137 : decode cX2_doOrder 137 = .ok (.iload_n 1, 1) := by decide +kernel
theorem dX2_doOrder_138 : decode cX2_doOrder 138 = .ok (.sipush (-4096), 3) := by decide +kernel
theorem dX2_doOrder_141 : decode cX2_doOrder 141 = .ok (.iand, 1) := by decide +kernel
theorem dX2_doOrder_142 : decode cX2_doOrder 142 = .ok (.iadd, 1) := by decide +kernel
theorem dX2_doOrder_143 : decode cX2_doOrder 143 = .ok (.invokevirtual 53, 3) := by decide +kernel
theorem dX2_doOrder_146 : decode cX2_doOrder 146 = .ok (.ireturn, 1) := by decide +kernel
theorem dX2_doOrder_147 : decode cX2_doOrder 147 = .ok (.aload_n 0, 1) := by decide +kernel
theorem dX2_doOrder_148 : decode cX2_doOrder 148 = .ok (.invokevirtual 50, 3) := by decide +kernel
theorem dX2_doOrder_151 : decode cX2_doOrder 151 = .ok (.aload_n 0, 1) := by decide +kernel
theorem dX2_doOrder_152 : decode cX2_doOrder 152 = .ok (.iload_n 1, 1) := by decide +kernel
theorem dX2_doOrder_153 : decode cX2_doOrder 153 = .ok (.aload_n 0, 1) := by decide +kernel
theorem dX2_doOrder_154 : decode cX2_doOrder 154 = .ok (.getfield 19, 3) := by decide +kernel
theorem dX2_doOrder_157 : decode cX2_doOrder 157 = .ok (.iload_n 1, 1) := by decide +kernel
theorem dX2_doOrder_158 : decode cX2_doOrder 158 = .ok (.invokestatic 57, 3) := by decide +kernel
theorem dX2_doOrder_161 : decode cX2_doOrder 161 = .ok (.iadd, 1) := by decide +kernel
theorem dX2_doOrder_162 : decode cX2_doOrder 162 = .ok (.invokevirtual 61, 3) := by decide +kernel
theorem dX2_doOrder_165 : decode cX2_doOrder 165 = .ok (.ireturn, 1) := by decide +kernel
theorem dX2_doOrder_166 : decode cX2_doOrder 166 = .ok (.aload_n 0, 1) := by decide +kernel
theorem dX2_doOrder_167 : decode cX2_doOrder 167 = .ok (.iload_n 1, 1) := by decide +kernel
theorem dX2_doOrder_168 : decode cX2_doOrder 168 = .ok (.invokevirtual 64, 3) := by decide +kernel
theorem dX2_doOrder_171 : decode cX2_doOrder 171 = .ok (.ireturn, 1) := by decide +kernel
theorem dX2_doOrder_172 : decode cX2_doOrder 172 = .ok (.aload_n 0, 1) := by decide +kernel
theorem dX2_doOrder_173 : decode cX2_doOrder 173 = .ok (.iload_n 1, 1) := by decide +kernel
theorem dX2_doOrder_174 : decode cX2_doOrder 174 = .ok (.invokevirtual 67, 3) := by decide +kernel
theorem dX2_doOrder_177 : decode cX2_doOrder 177 = .ok (.ireturn, 1) := by decide +kernel
theorem dX2_doOrder_178 : decode cX2_doOrder 178 = .ok (.aload_n 0, 1) := by decide +kernel
theorem dX2_doOrder_179 : decode cX2_doOrder 179 = .ok (.iload_n 1, 1) := by decide +kernel
theorem dX2_doOrder_180 : decode cX2_doOrder 180 = .ok (.invokevirtual 70, 3) := by decide +kernel
theorem dX2_doOrder_183 : decode cX2_doOrder 183 = .ok (.ireturn, 1) := by decide +kernel
theorem dX2_doOrder_184 : decode cX2_doOrder 184 = .ok (.aload_n 0, 1) := by decide +kernel
theorem dX2_doOrder_185 : decode cX2_doOrder 185 = .ok (.iload_n 1, 1) := by decide +kernel
theorem dX2_doOrder_186 : decode cX2_doOrder 186 = .ok (.invokevirtual 73, 3) := by decide +kernel
theorem dX2_doOrder_189 : decode cX2_doOrder 189 = .ok (.ireturn, 1) := by decide +kernel
theorem dX2_doOrder_190 : decode cX2_doOrder 190 = .ok (.aload_n 0, 1) := by decide +kernel
theorem dX2_doOrder_191 : decode cX2_doOrder 191 = .ok (.iload_n 1, 1) := by decide +kernel
theorem dX2_doOrder_192 : decode cX2_doOrder 192 = .ok (.invokevirtual 76, 3) := by decide +kernel
theorem dX2_doOrder_195 : decode cX2_doOrder 195 = .ok (.ireturn, 1) := by decide +kernel
theorem dX2_doOrder_196 : decode cX2_doOrder 196 = .ok (.aload_n 0, 1) := by decide +kernel
theorem dX2_doOrder_197 : decode cX2_doOrder 197 = .ok (.iload_n 1, 1) := by decide +kernel
theorem dX2_doOrder_198 : decode cX2_doOrder 198 = .ok (.invokevirtual 79, 3) := by decide +kernel
theorem dX2_doOrder_201 : decode cX2_doOrder 201 = .ok (.ireturn, 1) := by decide +kernel
theorem dX2_doOrder_202 : decode cX2_doOrder 202 = .ok (.iload_n 1, 1) := by decide +kernel
theorem dX2_doOrder_203 : decode cX2_doOrder 203 = .ok (.bipush 115, 2) := by decide +kernel
theorem dX2_doOrder_205 : decode cX2_doOrder 205 = .ok (.if_icmp .ne 7, 3) := by decide +kernel
theorem dX2_doOrder_208 : decode cX2_doOrder 208 = .ok (.iconst 1, 1) := by decide +kernel
theorem dX2_doOrder_209 : decode cX2_doOrder 209 = .ok (.goto 4, 3) := by decide +kernel
theorem dX2_doOrder_212 : decode cX2_doOrder 212 = .ok (.iconst 2, 1) := by decide +kernel
theorem dX2_doOrder_213 : decode cX2_doOrder 213 = .ok (.ireturn, 1) := by decide +kernel
theorem dX2_begin_0 : decode cX2_begin 0 = .ok (.aload_n 0, 1) := by decide +kernel
theorem dX2_begin_1 : decode cX2_begin 1 = .ok (.dup, 1) := by decide +kernel
theorem dX2_begin_2 : decode cX2_begin 2 = .ok (.getfield 23, 3) := by decide +kernel
theorem dX2_begin_5 : decode cX2_begin 5 = .ok (.iconst 1, 1) := by decide +kernel
theorem dX2_begin_6 : decode cX2_begin 6 = .ok (.iadd, 1) := by decide +kernel
theorem dX2_begin_7 : decode cX2_begin 7 = .ok (.putfield 23, 3) := by decide +kernel
theorem dX2_begin_10 : decode cX2_begin 10 = .ok (.aload_n 0, 1) := by decide +kernel
theorem dX2_begin_11 : decode cX2_begin 11 = .ok (.dup, 1) := by decide +kernel
theorem dX2_begin_12 : decode cX2_begin 12 = .ok (.getfield 26, 3) := by decide +kernel
theorem dX2_begin_15 : decode cX2_begin 15 = .ok (.lconst 1, 1) := by decide +kernel
theorem dX2_begin_16 : decode cX2_begin 16 = .ok (.ladd, 1) := by decide +kernel
theorem dX2_begin_17 : decode cX2_begin 17 = .ok (.putfield 26, 3) := by decide +kernel
theorem dX2_begin_20 : decode cX2_begin 20 = .ok (.aload_n 0, 1) := by decide +kernel
theorem dX2_begin_21 : decode cX2_begin 21 = .ok (.aload_n 0, 1) := by decide +kernel
theorem dX2_begin_22 : decode cX2_begin 22 = .ok (.getfield 19, 3) := by decide +kernel
theorem dX2_begin_25 : decode cX2_begin 25 = .ok (.invokevirtual 82, 3) := by decide +kernel
theorem dX2_begin_28 : decode cX2_begin 28 = .ok (.return_, 1) := by decide +kernel
theorem dX2_reach_0 : decode cX2_reach 0 = .ok (.iload_n 1, 1) := by decide +kernel
theorem dX2_reach_1 : decode cX2_reach 1 = .ok (.iconst 4, 1) := by decide +kernel
theorem dX2_reach_2 : decode cX2_reach 2 = .ok (.ishr, 1) := by decide +kernel
theorem dX2_reach_3 : decode cX2_reach 3 = .ok (.istore_n 2, 1) := by decide +kernel
theorem dX2_reach_4 : decode cX2_reach 4 = .ok (.iload_n 2, 1) := by decide +kernel
theorem dX2_reach_5 : decode cX2_reach 5 = .ok (.bipush 15, 2) := by decide +kernel
theorem dX2_reach_7 : decode cX2_reach 7 = .ok (.iand, 1) := by decide +kernel
theorem dX2_reach_8 : decode cX2_reach 8 = .ok (.iconst 2, 1) := by decide +kernel
theorem dX2_reach_9 : decode cX2_reach 9 = .ok (.imul, 1) := by decide +kernel
theorem dX2_reach_10 : decode cX2_reach 10 = .ok (.istore_n 3, 1) := by decide +kernel
theorem dX2_reach_11 : decode cX2_reach 11 = .ok (.aload_n 0, 1) := by decide +kernel
theorem dX2_reach_12 : decode cX2_reach 12 = .ok (.getfield 16, 3) := by decide +kernel
theorem dX2_reach_15 : decode cX2_reach 15 = .ok (.iload_n 3, 1) := by decide +kernel
theorem dX2_reach_16 : decode cX2_reach 16 = .ok (.iaload, 1) := by decide +kernel
theorem dX2_reach_17 : decode cX2_reach 17 = .ok (.iload_n 2, 1) := by decide +kernel
theorem dX2_reach_18 : decode cX2_reach 18 = .ok (.iconst 1, 1) := by decide +kernel
theorem dX2_reach_19 : decode cX2_reach 19 = .ok (.iadd, 1) := by decide +kernel
theorem dX2_reach_20 : decode cX2_reach 20 = .ok (.if_icmp .eq 62, 3) := by decide +kernel
theorem dX2_reach_23 : decode cX2_reach 23 = .ok (.aload_n 0, 1) := by decide +kernel
theorem dX2_reach_24 : decode cX2_reach 24 = .ok (.getfield 16, 3) := by decide +kernel
theorem dX2_reach_27 : decode cX2_reach 27 = .ok (.iload_n 3, 1) := by decide +kernel
theorem dX2_reach_28 : decode cX2_reach 28 = .ok (.iconst 1, 1) := by decide +kernel
theorem dX2_reach_29 : decode cX2_reach 29 = .ok (.iadd, 1) := by decide +kernel
theorem dX2_reach_30 : decode cX2_reach 30 = .ok (.iaload, 1) := by decide +kernel
theorem dX2_reach_31 : decode cX2_reach 31 = .ok (.iload_n 2, 1) := by decide +kernel
theorem dX2_reach_32 : decode cX2_reach 32 = .ok (.iconst 1, 1) := by decide +kernel
theorem dX2_reach_33 : decode cX2_reach 33 = .ok (.iadd, 1) := by decide +kernel
theorem dX2_reach_34 : decode cX2_reach 34 = .ok (.if_icmp .eq 25, 3) := by decide +kernel
theorem dX2_reach_37 : decode cX2_reach 37 = .ok (.aload_n 0, 1) := by decide +kernel
theorem dX2_reach_38 : decode cX2_reach 38 = .ok (.dup, 1) := by decide +kernel
theorem dX2_reach_39 : decode cX2_reach 39 = .ok (.getfield 30, 3) := by decide +kernel
theorem dX2_reach_42 : decode cX2_reach 42 = .ok (.iconst 1, 1) := by decide +kernel
theorem dX2_reach_43 : decode cX2_reach 43 = .ok (.iadd, 1) := by decide +kernel
theorem dX2_reach_44 : decode cX2_reach 44 = .ok (.putfield 30, 3) := by decide +kernel
theorem dX2_reach_47 : decode cX2_reach 47 = .ok (.aload_n 0, 1) := by decide +kernel
theorem dX2_reach_48 : decode cX2_reach 48 = .ok (.dup, 1) := by decide +kernel
theorem dX2_reach_49 : decode cX2_reach 49 = .ok (.getfield 26, 3) := by decide +kernel
theorem dX2_reach_52 : decode cX2_reach 52 = .ok (.ldc2_w 86, 3) := by decide +kernel
theorem dX2_reach_55 : decode cX2_reach 55 = .ok (.ladd, 1) := by decide +kernel
theorem dX2_reach_56 : decode cX2_reach 56 = .ok (.putfield 26, 3) := by decide +kernel
theorem dX2_reach_59 : decode cX2_reach 59 = .ok (.aload_n 0, 1) := by decide +kernel
theorem dX2_reach_60 : decode cX2_reach 60 = .ok (.getfield 16, 3) := by decide +kernel
theorem dX2_reach_63 : decode cX2_reach 63 = .ok (.iload_n 3, 1) := by decide +kernel
theorem dX2_reach_64 : decode cX2_reach 64 = .ok (.iconst 1, 1) := by decide +kernel
theorem dX2_reach_65 : decode cX2_reach 65 = .ok (.iadd, 1) := by decide +kernel
theorem dX2_reach_66 : decode cX2_reach 66 = .ok (.aload_n 0, 1) := by decide +kernel
theorem dX2_reach_67 : decode cX2_reach 67 = .ok (.getfield 16, 3) := by decide +kernel
theorem dX2_reach_70 : decode cX2_reach 70 = .ok (.iload_n 3, 1) := by decide +kernel
theorem dX2_reach_71 : decode cX2_reach 71 = .ok (.iaload, 1) := by decide +kernel
theorem dX2_reach_72 : decode cX2_reach 72 = .ok (.iastore, 1) := by decide +kernel
theorem dX2_reach_73 : decode cX2_reach 73 = .ok (.aload_n 0, 1) := by decide +kernel
theorem dX2_reach_74 : decode cX2_reach 74 = .ok (.getfield 16, 3) := by decide +kernel
theorem dX2_reach_77 : decode cX2_reach 77 = .ok (.iload_n 3, 1) := by decide +kernel
theorem dX2_reach_78 : decode cX2_reach 78 = .ok (.iload_n 2, 1) := by decide +kernel
theorem dX2_reach_79 : decode cX2_reach 79 = .ok (.iconst 1, 1) := by decide +kernel
theorem dX2_reach_80 : decode cX2_reach 80 = .ok (.iadd, 1) := by decide +kernel
theorem dX2_reach_81 : decode cX2_reach 81 = .ok (.iastore, 1) := by decide +kernel
theorem dX2_reach_82 : decode cX2_reach 82 = .ok (.aload_n 0, 1) := by decide +kernel
theorem dX2_reach_83 : decode cX2_reach 83 = .ok (.iload_n 1, 1) := by decide +kernel
theorem dX2_reach_84 : decode cX2_reach 84 = .ok (.invokevirtual 88, 3) := by decide +kernel
theorem dX2_reach_87 : decode cX2_reach 87 = .ok (.return_, 1) := by decide +kernel
theorem dX2_note_0 : decode cX2_note 0 = .ok (.aload_n 0, 1) := by decide +kernel
theorem dX2_note_1 : decode cX2_note 1 = .ok (.aload_n 0, 1) := by decide +kernel
theorem dX2_note_2 : decode cX2_note 2 = .ok (.getfield 33, 3) := by decide +kernel
theorem dX2_note_5 : decode cX2_note 5 = .ok (.ldc2_w 91, 3) := by decide +kernel
theorem dX2_note_8 : decode cX2_note 8 = .ok (.lmul, 1) := by decide +kernel
theorem dX2_note_9 : decode cX2_note 9 = .ok (.iload_n 1, 1) := by decide +kernel
theorem dX2_note_10 : decode cX2_note 10 = .ok (.i2l, 1) := by decide +kernel
theorem dX2_note_11 : decode cX2_note 11 = .ok (.ladd, 1) := by decide +kernel
theorem dX2_note_12 : decode cX2_note 12 = .ok (.lconst 1, 1) := by decide +kernel
theorem dX2_note_13 : decode cX2_note 13 = .ok (.ladd, 1) := by decide +kernel
theorem dX2_note_14 : decode cX2_note 14 = .ok (.putfield 33, 3) := by decide +kernel
theorem dX2_note_17 : decode cX2_note 17 = .ok (.return_, 1) := by decide +kernel
theorem dX2_pass_0 : decode cX2_pass 0 = .ok (.aload_n 0, 1) := by decide +kernel
theorem dX2_pass_1 : decode cX2_pass 1 = .ok (.iload_n 1, 1) := by decide +kernel
theorem dX2_pass_2 : decode cX2_pass 2 = .ok (.bipush 7, 2) := by decide +kernel
theorem dX2_pass_4 : decode cX2_pass 4 = .ok (.ishr, 1) := by decide +kernel
theorem dX2_pass_5 : decode cX2_pass 5 = .ok (.bipush 31, 2) := by decide +kernel
theorem dX2_pass_7 : decode cX2_pass 7 = .ok (.iand, 1) := by decide +kernel
theorem dX2_pass_8 : decode cX2_pass 8 = .ok (.iload_n 2, 1) := by decide +kernel
theorem dX2_pass_9 : decode cX2_pass 9 = .ok (.invokevirtual 93, 3) := by decide +kernel
theorem dX2_pass_12 : decode cX2_pass 12 = .ok (.pop, 1) := by decide +kernel
theorem dX2_pass_13 : decode cX2_pass 13 = .ok (.aload_n 0, 1) := by decide +kernel
theorem dX2_pass_14 : decode cX2_pass 14 = .ok (.dup, 1) := by decide +kernel
theorem dX2_pass_15 : decode cX2_pass 15 = .ok (.getfield 19, 3) := by decide +kernel
theorem dX2_pass_18 : decode cX2_pass 18 = .ok (.iconst 4, 1) := by decide +kernel
theorem dX2_pass_19 : decode cX2_pass 19 = .ok (.iadd, 1) := by decide +kernel
theorem dX2_pass_20 : decode cX2_pass 20 = .ok (.putfield 19, 3) := by decide +kernel
theorem dX2_pass_23 : decode cX2_pass 23 = .ok (.iconst 0, 1) := by decide +kernel
theorem dX2_pass_24 : decode cX2_pass 24 = .ok (.ireturn, 1) := by decide +kernel
theorem dX2_jump_0 : decode cX2_jump 0 = .ok (.aload_n 0, 1) := by decide +kernel
theorem dX2_jump_1 : decode cX2_jump 1 = .ok (.iload_n 1, 1) := by decide +kernel
theorem dX2_jump_2 : decode cX2_jump 2 = .ok (.bipush 7, 2) := by decide +kernel
theorem dX2_jump_4 : decode cX2_jump 4 = .ok (.ishr, 1) := by decide +kernel
theorem dX2_jump_5 : decode cX2_jump 5 = .ok (.bipush 31, 2) := by decide +kernel
theorem dX2_jump_7 : decode cX2_jump 7 = .ok (.iand, 1) := by decide +kernel
theorem dX2_jump_8 : decode cX2_jump 8 = .ok (.aload_n 0, 1) := by decide +kernel
theorem dX2_jump_9 : decode cX2_jump 9 = .ok (.getfield 19, 3) := by decide +kernel
theorem dX2_jump_12 : decode cX2_jump 12 = .ok (.iconst 4, 1) := by decide +kernel
theorem dX2_jump_13 : decode cX2_jump 13 = .ok (.iadd, 1) := by decide +kernel
theorem dX2_jump_14 : decode cX2_jump 14 = .ok (.invokevirtual 93, 3) := by decide +kernel
theorem dX2_jump_17 : decode cX2_jump 17 = .ok (.pop, 1) := by decide +kernel
theorem dX2_jump_18 : decode cX2_jump 18 = .ok (.aload_n 0, 1) := by decide +kernel
theorem dX2_jump_19 : decode cX2_jump 19 = .ok (.dup, 1) := by decide +kernel
theorem dX2_jump_20 : decode cX2_jump 20 = .ok (.getfield 26, 3) := by decide +kernel
theorem dX2_jump_23 : decode cX2_jump 23 = .ok (.lconst 1, 1) := by decide +kernel
theorem dX2_jump_24 : decode cX2_jump 24 = .ok (.ladd, 1) := by decide +kernel
theorem dX2_jump_25 : decode cX2_jump 25 = .ok (.putfield 26, 3) := by decide +kernel
theorem dX2_jump_28 : decode cX2_jump 28 = .ok (.aload_n 0, 1) := by decide +kernel
theorem dX2_jump_29 : decode cX2_jump 29 = .ok (.iload_n 2, 1) := by decide +kernel
theorem dX2_jump_30 : decode cX2_jump 30 = .ok (.putfield 19, 3) := by decide +kernel
theorem dX2_jump_33 : decode cX2_jump 33 = .ok (.iconst 0, 1) := by decide +kernel
theorem dX2_jump_34 : decode cX2_jump 34 = .ok (.ireturn, 1) := by decide +kernel
theorem dX2_third_0 : decode cX2_third 0 = .ok (.iload_n 0, 1) := by decide +kernel
theorem dX2_third_1 : decode cX2_third 1 = .ok (.bipush 12, 2) := by decide +kernel
theorem dX2_third_3 : decode cX2_third 3 = .ok (.ishr, 1) := by decide +kernel
theorem dX2_third_4 : decode cX2_third 4 = .ok (.bipush 7, 2) := by decide +kernel
theorem dX2_third_6 : decode cX2_third 6 = .ok (.iand, 1) := by decide +kernel
theorem dX2_third_7 : decode cX2_third 7 = .ok (.ireturn, 1) := by decide +kernel
theorem dX2_left_0 : decode cX2_left 0 = .ok (.aload_n 0, 1) := by decide +kernel
theorem dX2_left_1 : decode cX2_left 1 = .ok (.getfield 13, 3) := by decide +kernel
theorem dX2_left_4 : decode cX2_left 4 = .ok (.iload_n 1, 1) := by decide +kernel
theorem dX2_left_5 : decode cX2_left 5 = .ok (.bipush 15, 2) := by decide +kernel
theorem dX2_left_7 : decode cX2_left 7 = .ok (.ishr, 1) := by decide +kernel
theorem dX2_left_8 : decode cX2_left 8 = .ok (.bipush 31, 2) := by decide +kernel
theorem dX2_left_10 : decode cX2_left 10 = .ok (.iand, 1) := by decide +kernel
theorem dX2_left_11 : decode cX2_left 11 = .ok (.iaload, 1) := by decide +kernel
theorem dX2_left_12 : decode cX2_left 12 = .ok (.ireturn, 1) := by decide +kernel
theorem dX2_right_0 : decode cX2_right 0 = .ok (.aload_n 0, 1) := by decide +kernel
theorem dX2_right_1 : decode cX2_right 1 = .ok (.getfield 13, 3) := by decide +kernel
theorem dX2_right_4 : decode cX2_right 4 = .ok (.iload_n 1, 1) := by decide +kernel
theorem dX2_right_5 : decode cX2_right 5 = .ok (.bipush 20, 2) := by decide +kernel
theorem dX2_right_7 : decode cX2_right 7 = .ok (.ishr, 1) := by decide +kernel
theorem dX2_right_8 : decode cX2_right 8 = .ok (.bipush 31, 2) := by decide +kernel
theorem dX2_right_10 : decode cX2_right 10 = .ok (.iand, 1) := by decide +kernel
theorem dX2_right_11 : decode cX2_right 11 = .ok (.iaload, 1) := by decide +kernel
theorem dX2_right_12 : decode cX2_right 12 = .ok (.ireturn, 1) := by decide +kernel
theorem dX2_jumpDistance_0 : decode cX2_jumpDistance 0 = .ok (.iload_n 0, 1) := by decide +kernel
theorem dX2_jumpDistance_1 : decode cX2_jumpDistance 1 = .ok (.bipush 31, 2) := by decide +kernel
theorem dX2_jumpDistance_3 : decode cX2_jumpDistance 3 = .ok (.ishr, 1) := by decide +kernel
theorem dX2_jumpDistance_4 : decode cX2_jumpDistance 4 = .ok (.bipush 20, 2) := by decide +kernel
theorem dX2_jumpDistance_6 : decode cX2_jumpDistance 6 = .ok (.ishl, 1) := by decide +kernel
theorem dX2_jumpDistance_7 : decode cX2_jumpDistance 7 = .ok (.iload_n 0, 1) := by decide +kernel
theorem dX2_jumpDistance_8 : decode cX2_jumpDistance 8 = .ok (.ldc 96, 2) := by decide +kernel
theorem dX2_jumpDistance_10 : decode cX2_jumpDistance 10 = .ok (.iand, 1) := by decide +kernel
theorem dX2_jumpDistance_11 : decode cX2_jumpDistance 11 = .ok (.ior, 1) := by decide +kernel
theorem dX2_jumpDistance_12 : decode cX2_jumpDistance 12 = .ok (.iload_n 0, 1) := by decide +kernel
theorem dX2_jumpDistance_13 : decode cX2_jumpDistance 13 = .ok (.bipush 9, 2) := by decide +kernel
theorem dX2_jumpDistance_15 : decode cX2_jumpDistance 15 = .ok (.ishr, 1) := by decide +kernel
theorem dX2_jumpDistance_16 : decode cX2_jumpDistance 16 = .ok (.sipush 2048, 3) := by decide +kernel
theorem dX2_jumpDistance_19 : decode cX2_jumpDistance 19 = .ok (.iand, 1) := by decide +kernel
theorem dX2_jumpDistance_20 : decode cX2_jumpDistance 20 = .ok (.ior, 1) := by decide +kernel
theorem dX2_jumpDistance_21 : decode cX2_jumpDistance 21 = .ok (.iload_n 0, 1) := by decide +kernel
theorem dX2_jumpDistance_22 : decode cX2_jumpDistance 22 = .ok (.bipush 20, 2) := by decide +kernel
theorem dX2_jumpDistance_24 : decode cX2_jumpDistance 24 = .ok (.ishr, 1) := by decide +kernel
theorem dX2_jumpDistance_25 : decode cX2_jumpDistance 25 = .ok (.sipush 2046, 3) := by decide +kernel
theorem dX2_jumpDistance_28 : decode cX2_jumpDistance 28 = .ok (.iand, 1) := by decide +kernel
theorem dX2_jumpDistance_29 : decode cX2_jumpDistance 29 = .ok (.ior, 1) := by decide +kernel
theorem dX2_jumpDistance_30 : decode cX2_jumpDistance 30 = .ok (.ireturn, 1) := by decide +kernel
theorem dX2_branchDistance_0 : decode cX2_branchDistance 0 = .ok (.iload_n 0, 1) := by decide +kernel
theorem dX2_branchDistance_1 : decode cX2_branchDistance 1 = .ok (.bipush 31, 2) := by decide +kernel
theorem dX2_branchDistance_3 : decode cX2_branchDistance 3 = .ok (.ishr, 1) := by decide +kernel
theorem dX2_branchDistance_4 : decode cX2_branchDistance 4 = .ok (.bipush 12, 2) := by decide +kernel
theorem dX2_branchDistance_6 : decode cX2_branchDistance 6 = .ok (.ishl, 1) := by decide +kernel
theorem dX2_branchDistance_7 : decode cX2_branchDistance 7 = .ok (.iload_n 0, 1) := by decide +kernel
theorem dX2_branchDistance_8 : decode cX2_branchDistance 8 = .ok (.iconst 4, 1) := by decide +kernel
theorem dX2_branchDistance_9 : decode cX2_branchDistance 9 = .ok (.ishl, 1) := by decide +kernel
theorem dX2_branchDistance_10 : decode cX2_branchDistance 10 = .ok (.sipush 2048, 3) := by decide +kernel
theorem dX2_branchDistance_13 : decode cX2_branchDistance 13 = .ok (.iand, 1) := by decide +kernel
theorem dX2_branchDistance_14 : decode cX2_branchDistance 14 = .ok (.ior, 1) := by decide +kernel
theorem dX2_branchDistance_15 : decode cX2_branchDistance 15 = .ok (.iload_n 0, 1) := by decide +kernel
theorem dX2_branchDistance_16 : decode cX2_branchDistance 16 = .ok (.bipush 20, 2) := by decide +kernel
theorem dX2_branchDistance_18 : decode cX2_branchDistance 18 = .ok (.ishr, 1) := by decide +kernel
theorem dX2_branchDistance_19 : decode cX2_branchDistance 19 = .ok (.sipush 2016, 3) := by decide +kernel
theorem dX2_branchDistance_22 : decode cX2_branchDistance 22 = .ok (.iand, 1) := by decide +kernel
theorem dX2_branchDistance_23 : decode cX2_branchDistance 23 = .ok (.ior, 1) := by decide +kernel
theorem dX2_branchDistance_24 : decode cX2_branchDistance 24 = .ok (.iload_n 0, 1) := by decide +kernel
theorem dX2_branchDistance_25 : decode cX2_branchDistance 25 = .ok (.bipush 7, 2) := by decide +kernel
theorem dX2_branchDistance_27 : decode cX2_branchDistance 27 = .ok (.ishr, 1) := by decide +kernel
theorem dX2_branchDistance_28 : decode cX2_branchDistance 28 = .ok (.bipush 30, 2) := by decide +kernel
theorem dX2_branchDistance_30 : decode cX2_branchDistance 30 = .ok (.iand, 1) := by decide +kernel
theorem dX2_branchDistance_31 : decode cX2_branchDistance 31 = .ok (.ior, 1) := by decide +kernel
theorem dX2_branchDistance_32 : decode cX2_branchDistance 32 = .ok (.ireturn, 1) := by decide +kernel
theorem dX2_storeDistance_0 : decode cX2_storeDistance 0 = .ok (.iload_n 0, 1) := by decide +kernel
theorem dX2_storeDistance_1 : decode cX2_storeDistance 1 = .ok (.bipush 25, 2) := by decide +kernel
theorem dX2_storeDistance_3 : decode cX2_storeDistance 3 = .ok (.ishr, 1) := by decide +kernel
theorem dX2_storeDistance_4 : decode cX2_storeDistance 4 = .ok (.iconst 5, 1) := by decide +kernel
theorem dX2_storeDistance_5 : decode cX2_storeDistance 5 = .ok (.ishl, 1) := by decide +kernel
theorem dX2_storeDistance_6 : decode cX2_storeDistance 6 = .ok (.iload_n 0, 1) := by decide +kernel
theorem dX2_storeDistance_7 : decode cX2_storeDistance 7 = .ok (.bipush 7, 2) := by decide +kernel
theorem dX2_storeDistance_9 : decode cX2_storeDistance 9 = .ok (.ishr, 1) := by decide +kernel
theorem dX2_storeDistance_10 : decode cX2_storeDistance 10 = .ok (.bipush 31, 2) := by decide +kernel
theorem dX2_storeDistance_12 : decode cX2_storeDistance 12 = .ok (.iand, 1) := by decide +kernel
theorem dX2_storeDistance_13 : decode cX2_storeDistance 13 = .ok (.ior, 1) := by decide +kernel
theorem dX2_storeDistance_14 : decode cX2_storeDistance 14 = .ok (.ireturn, 1) := by decide +kernel
theorem dX2_doJumpByRegister_0 : decode cX2_doJumpByRegister 0 = .ok (.iload_n 1, 1) := by decide +kernel
theorem dX2_doJumpByRegister_1 : decode cX2_doJumpByRegister 1 = .ok (.invokestatic 97, 3) := by decide +kernel
theorem dX2_doJumpByRegister_4 : decode cX2_doJumpByRegister 4 = .ok (.ifCond .eq 5, 3) := by decide +kernel
theorem dX2_doJumpByRegister_7 : decode cX2_doJumpByRegister 7 = .ok (.iconst 2, 1) := by decide +kernel
theorem dX2_doJumpByRegister_8 : decode cX2_doJumpByRegister 8 = .ok (.ireturn, 1) := by decide +kernel
theorem dX2_doJumpByRegister_9 : decode cX2_doJumpByRegister 9 = .ok (.aload_n 0, 1) := by decide +kernel
theorem dX2_doJumpByRegister_10 : decode cX2_doJumpByRegister 10 = .ok (.invokevirtual 50, 3) := by decide +kernel
theorem dX2_doJumpByRegister_13 : decode cX2_doJumpByRegister 13 = .ok (.aload_n 0, 1) := by decide +kernel
theorem dX2_doJumpByRegister_14 : decode cX2_doJumpByRegister 14 = .ok (.iload_n 1, 1) := by decide +kernel
theorem dX2_doJumpByRegister_15 : decode cX2_doJumpByRegister 15 = .ok (.aload_n 0, 1) := by decide +kernel
theorem dX2_doJumpByRegister_16 : decode cX2_doJumpByRegister 16 = .ok (.iload_n 1, 1) := by decide +kernel
theorem dX2_doJumpByRegister_17 : decode cX2_doJumpByRegister 17 = .ok (.invokevirtual 100, 3) := by decide +kernel
theorem dX2_doJumpByRegister_20 : decode cX2_doJumpByRegister 20 = .ok (.iload_n 1, 1) := by decide +kernel
theorem dX2_doJumpByRegister_21 : decode cX2_doJumpByRegister 21 = .ok (.bipush 20, 2) := by decide +kernel
theorem dX2_doJumpByRegister_23 : decode cX2_doJumpByRegister 23 = .ok (.ishr, 1) := by decide +kernel
theorem dX2_doJumpByRegister_24 : decode cX2_doJumpByRegister 24 = .ok (.iadd, 1) := by decide +kernel
theorem dX2_doJumpByRegister_25 : decode cX2_doJumpByRegister 25 = .ok (.bipush (-2), 2) := by decide +kernel
theorem dX2_doJumpByRegister_27 : decode cX2_doJumpByRegister 27 = .ok (.iand, 1) := by decide +kernel
theorem dX2_doJumpByRegister_28 : decode cX2_doJumpByRegister 28 = .ok (.invokevirtual 61, 3) := by decide +kernel
theorem dX2_doJumpByRegister_31 : decode cX2_doJumpByRegister 31 = .ok (.ireturn, 1) := by decide +kernel
theorem dX2_doBranch_0 : decode cX2_doBranch 0 = .ok (.iload_n 1, 1) := by decide +kernel
theorem dX2_doBranch_1 : decode cX2_doBranch 1 = .ok (.invokestatic 97, 3) := by decide +kernel
theorem dX2_doBranch_4 : decode cX2_doBranch 4 = .ok (.istore_n 2, 1) := by decide +kernel
theorem dX2_doBranch_5 : decode cX2_doBranch 5 = .ok (.iload_n 2, 1) := by decide +kernel
theorem dX2_doBranch_6 : decode cX2_doBranch 6 = .ok (.iconst 2, 1) := by decide +kernel
theorem dX2_doBranch_7 : decode cX2_doBranch 7 = .ok (.if_icmp .eq 8, 3) := by decide +kernel
theorem dX2_doBranch_10 : decode cX2_doBranch 10 = .ok (.iload_n 2, 1) := by decide +kernel
theorem dX2_doBranch_11 : decode cX2_doBranch 11 = .ok (.iconst 3, 1) := by decide +kernel
theorem dX2_doBranch_12 : decode cX2_doBranch 12 = .ok (.if_icmp .ne 5, 3) := by decide +kernel
theorem dX2_doBranch_15 : decode cX2_doBranch 15 = .ok (.iconst 2, 1) := by decide +kernel
theorem dX2_doBranch_16 : decode cX2_doBranch 16 = .ok (.ireturn, 1) := by decide +kernel
theorem dX2_doBranch_17 : decode cX2_doBranch 17 = .ok (.aload_n 0, 1) := by decide +kernel
theorem dX2_doBranch_18 : decode cX2_doBranch 18 = .ok (.invokevirtual 50, 3) := by decide +kernel
theorem dX2_doBranch_21 : decode cX2_doBranch 21 = .ok (.iload_n 2, 1) := by decide +kernel
theorem dX2_doBranch_22 : decode cX2_doBranch 22 = .ok (.aload_n 0, 1) := by decide +kernel
theorem dX2_doBranch_23 : decode cX2_doBranch 23 = .ok (.iload_n 1, 1) := by decide +kernel
theorem dX2_doBranch_24 : decode cX2_doBranch 24 = .ok (.invokevirtual 100, 3) := by decide +kernel
theorem dX2_doBranch_27 : decode cX2_doBranch 27 = .ok (.aload_n 0, 1) := by decide +kernel
theorem dX2_doBranch_28 : decode cX2_doBranch 28 = .ok (.iload_n 1, 1) := by decide +kernel
theorem dX2_doBranch_29 : decode cX2_doBranch 29 = .ok (.invokevirtual 103, 3) := by decide +kernel
theorem dX2_doBranch_32 : decode cX2_doBranch 32 = .ok (.invokestatic 106, 3) := by decide +kernel
theorem dX2_doBranch_35 : decode cX2_doBranch 35 = .ok (.ifCond .eq 29, 3) := by decide +kernel
theorem dX2_doBranch_38 : decode cX2_doBranch 38 = .ok (.aload_n 0, 1) := by decide +kernel
theorem dX2_doBranch_39 : decode cX2_doBranch 39 = .ok (.dup, 1) := by decide +kernel
theorem dX2_doBranch_40 : decode cX2_doBranch 40 = .ok (.getfield 26, 3) := by decide +kernel
theorem dX2_doBranch_43 : decode cX2_doBranch 43 = .ok (.lconst 1, 1) := by decide +kernel
theorem dX2_doBranch_44 : decode cX2_doBranch 44 = .ok (.ladd, 1) := by decide +kernel
theorem dX2_doBranch_45 : decode cX2_doBranch 45 = .ok (.putfield 26, 3) := by decide +kernel
theorem dX2_doBranch_48 : decode cX2_doBranch 48 = .ok (.aload_n 0, 1) := by decide +kernel
theorem dX2_doBranch_49 : decode cX2_doBranch 49 = .ok (.dup, 1) := by decide +kernel
theorem dX2_doBranch_50 : decode cX2_doBranch 50 = .ok (.getfield 19, 3) := by decide +kernel
theorem dX2_doBranch_53 : decode cX2_doBranch 53 = .ok (.iload_n 1, 1) := by decide +kernel
theorem dX2_doBranch_54 : decode cX2_doBranch 54 = .ok (.invokestatic 110, 3) := by decide +kernel
theorem dX2_doBranch_57 : decode cX2_doBranch 57 = .ok (.iadd, 1) := by decide +kernel
theorem dX2_doBranch_58 : decode cX2_doBranch 58 = .ok (.putfield 19, 3) := by decide +kernel
theorem dX2_doBranch_61 : decode cX2_doBranch 61 = .ok (.goto 13, 3) := by decide +kernel
theorem dX2_doBranch_64 : decode cX2_doBranch 64 = .ok (.aload_n 0, 1) := by decide +kernel
theorem dX2_doBranch_65 : decode cX2_doBranch 65 = .ok (.dup, 1) := by decide +kernel
theorem dX2_doBranch_66 : decode cX2_doBranch 66 = .ok (.getfield 19, 3) := by decide +kernel
theorem dX2_doBranch_69 : decode cX2_doBranch 69 = .ok (.iconst 4, 1) := by decide +kernel
theorem dX2_doBranch_70 : decode cX2_doBranch 70 = .ok (.iadd, 1) := by decide +kernel
theorem dX2_doBranch_71 : decode cX2_doBranch 71 = .ok (.putfield 19, 3) := by decide +kernel
theorem dX2_doBranch_74 : decode cX2_doBranch 74 = .ok (.iconst 0, 1) := by decide +kernel
theorem dX2_doBranch_75 : decode cX2_doBranch 75 = .ok (.ireturn, 1) := by decide +kernel
theorem dX2_holds_0 : decode cX2_holds 0 = .ok (.iload_n 0, 1) := by decide +kernel
theorem dX2_holds_1 : decode cX2_holds 1 = .ok (.tableswitch 109 0 6 #[43, 54, 109, 109, 65, 76, 87], 43) := by decide +kernel
theorem dX2_holds_44 : decode cX2_holds 44 = .ok (.iload_n 1, 1) := by decide +kernel
theorem dX2_holds_45 : decode cX2_holds 45 = .ok (.iload_n 2, 1) := by decide +kernel
theorem dX2_holds_46 : decode cX2_holds 46 = .ok (.if_icmp .ne 7, 3) := by decide +kernel
theorem dX2_holds_49 : decode cX2_holds 49 = .ok (.iconst 1, 1) := by decide +kernel
theorem dX2_holds_50 : decode cX2_holds 50 = .ok (.goto 4, 3) := by decide +kernel
theorem dX2_holds_53 : decode cX2_holds 53 = .ok (.iconst 0, 1) := by decide +kernel
theorem dX2_holds_54 : decode cX2_holds 54 = .ok (.ireturn, 1) := by decide +kernel
theorem dX2_holds_55 : decode cX2_holds 55 = .ok (.iload_n 1, 1) := by decide +kernel
theorem dX2_holds_56 : decode cX2_holds 56 = .ok (.iload_n 2, 1) := by decide +kernel
theorem dX2_holds_57 : decode cX2_holds 57 = .ok (.if_icmp .eq 7, 3) := by decide +kernel
theorem dX2_holds_60 : decode cX2_holds 60 = .ok (.iconst 1, 1) := by decide +kernel
theorem dX2_holds_61 : decode cX2_holds 61 = .ok (.goto 4, 3) := by decide +kernel
theorem dX2_holds_64 : decode cX2_holds 64 = .ok (.iconst 0, 1) := by decide +kernel
theorem dX2_holds_65 : decode cX2_holds 65 = .ok (.ireturn, 1) := by decide +kernel
theorem dX2_holds_66 : decode cX2_holds 66 = .ok (.iload_n 1, 1) := by decide +kernel
theorem dX2_holds_67 : decode cX2_holds 67 = .ok (.iload_n 2, 1) := by decide +kernel
theorem dX2_holds_68 : decode cX2_holds 68 = .ok (.if_icmp .ge 7, 3) := by decide +kernel
theorem dX2_holds_71 : decode cX2_holds 71 = .ok (.iconst 1, 1) := by decide +kernel
theorem dX2_holds_72 : decode cX2_holds 72 = .ok (.goto 4, 3) := by decide +kernel
theorem dX2_holds_75 : decode cX2_holds 75 = .ok (.iconst 0, 1) := by decide +kernel
theorem dX2_holds_76 : decode cX2_holds 76 = .ok (.ireturn, 1) := by decide +kernel
theorem dX2_holds_77 : decode cX2_holds 77 = .ok (.iload_n 1, 1) := by decide +kernel
theorem dX2_holds_78 : decode cX2_holds 78 = .ok (.iload_n 2, 1) := by decide +kernel
theorem dX2_holds_79 : decode cX2_holds 79 = .ok (.if_icmp .lt 7, 3) := by decide +kernel
theorem dX2_holds_82 : decode cX2_holds 82 = .ok (.iconst 1, 1) := by decide +kernel
theorem dX2_holds_83 : decode cX2_holds 83 = .ok (.goto 4, 3) := by decide +kernel
theorem dX2_holds_86 : decode cX2_holds 86 = .ok (.iconst 0, 1) := by decide +kernel
theorem dX2_holds_87 : decode cX2_holds 87 = .ok (.ireturn, 1) := by decide +kernel
theorem dX2_holds_88 : decode cX2_holds 88 = .ok (.iload_n 1, 1) := by decide +kernel
theorem dX2_holds_89 : decode cX2_holds 89 = .ok (.i2l, 1) := by decide +kernel
theorem dX2_holds_90 : decode cX2_holds 90 = .ok (.ldc2_w 113, 3) := by decide +kernel
theorem dX2_holds_93 : decode cX2_holds 93 = .ok (.land, 1) := by decide +kernel
theorem dX2_holds_94 : decode cX2_holds 94 = .ok (.iload_n 2, 1) := by decide +kernel
theorem dX2_holds_95 : decode cX2_holds 95 = .ok (.i2l, 1) := by decide +kernel
theorem dX2_holds_96 : decode cX2_holds 96 = .ok (.ldc2_w 113, 3) := by decide +kernel
theorem dX2_holds_99 : decode cX2_holds 99 = .ok (.land, 1) := by decide +kernel
theorem dX2_holds_100 : decode cX2_holds 100 = .ok (.lcmp, 1) := by decide +kernel
theorem dX2_holds_101 : decode cX2_holds 101 = .ok (.ifCond .ge 7, 3) := by decide +kernel
theorem dX2_holds_104 : decode cX2_holds 104 = .ok (.iconst 1, 1) := by decide +kernel
theorem dX2_holds_105 : decode cX2_holds 105 = .ok (.goto 4, 3) := by decide +kernel
theorem dX2_holds_108 : decode cX2_holds 108 = .ok (.iconst 0, 1) := by decide +kernel
theorem dX2_holds_109 : decode cX2_holds 109 = .ok (.ireturn, 1) := by decide +kernel
theorem dX2_holds_110 : decode cX2_holds 110 = .ok (.iload_n 1, 1) := by decide +kernel
theorem dX2_holds_111 : decode cX2_holds 111 = .ok (.i2l, 1) := by decide +kernel
theorem dX2_holds_112 : decode cX2_holds 112 = .ok (.ldc2_w 113, 3) := by decide +kernel
theorem dX2_holds_115 : decode cX2_holds 115 = .ok (.land, 1) := by decide +kernel
theorem dX2_holds_116 : decode cX2_holds 116 = .ok (.iload_n 2, 1) := by decide +kernel
theorem dX2_holds_117 : decode cX2_holds 117 = .ok (.i2l, 1) := by decide +kernel
theorem dX2_holds_118 : decode cX2_holds 118 = .ok (.ldc2_w 113, 3) := by decide +kernel
theorem dX2_holds_121 : decode cX2_holds 121 = .ok (.land, 1) := by decide +kernel
theorem dX2_holds_122 : decode cX2_holds 122 = .ok (.lcmp, 1) := by decide +kernel
theorem dX2_holds_123 : decode cX2_holds 123 = .ok (.ifCond .lt 7, 3) := by decide +kernel
theorem dX2_holds_126 : decode cX2_holds 126 = .ok (.iconst 1, 1) := by decide +kernel
theorem dX2_holds_127 : decode cX2_holds 127 = .ok (.goto 4, 3) := by decide +kernel
theorem dX2_holds_130 : decode cX2_holds 130 = .ok (.iconst 0, 1) := by decide +kernel
theorem dX2_holds_131 : decode cX2_holds 131 = .ok (.ireturn, 1) := by decide +kernel
theorem dX2_doLoad_0 : decode cX2_doLoad 0 = .ok (.iload_n 1, 1) := by decide +kernel
theorem dX2_doLoad_1 : decode cX2_doLoad 1 = .ok (.invokestatic 97, 3) := by decide +kernel
theorem dX2_doLoad_4 : decode cX2_doLoad 4 = .ok (.iconst 2, 1) := by decide +kernel
theorem dX2_doLoad_5 : decode cX2_doLoad 5 = .ok (.if_icmp .eq 5, 3) := by decide +kernel
theorem dX2_doLoad_8 : decode cX2_doLoad 8 = .ok (.iconst 2, 1) := by decide +kernel
theorem dX2_doLoad_9 : decode cX2_doLoad 9 = .ok (.ireturn, 1) := by decide +kernel
theorem dX2_doLoad_10 : decode cX2_doLoad 10 = .ok (.aload_n 0, 1) := by decide +kernel
theorem dX2_doLoad_11 : decode cX2_doLoad 11 = .ok (.iload_n 1, 1) := by decide +kernel
theorem dX2_doLoad_12 : decode cX2_doLoad 12 = .ok (.invokevirtual 100, 3) := by decide +kernel
theorem dX2_doLoad_15 : decode cX2_doLoad 15 = .ok (.iload_n 1, 1) := by decide +kernel
theorem dX2_doLoad_16 : decode cX2_doLoad 16 = .ok (.bipush 20, 2) := by decide +kernel
theorem dX2_doLoad_18 : decode cX2_doLoad 18 = .ok (.ishr, 1) := by decide +kernel
theorem dX2_doLoad_19 : decode cX2_doLoad 19 = .ok (.iadd, 1) := by decide +kernel
theorem dX2_doLoad_20 : decode cX2_doLoad 20 = .ok (.istore_n 2, 1) := by decide +kernel
theorem dX2_doLoad_21 : decode cX2_doLoad 21 = .ok (.iload_n 2, 1) := by decide +kernel
theorem dX2_doLoad_22 : decode cX2_doLoad 22 = .ok (.invokestatic 36, 3) := by decide +kernel
theorem dX2_doLoad_25 : decode cX2_doLoad 25 = .ok (.ifCond .ne 5, 3) := by decide +kernel
theorem dX2_doLoad_28 : decode cX2_doLoad 28 = .ok (.iconst 3, 1) := by decide +kernel
theorem dX2_doLoad_29 : decode cX2_doLoad 29 = .ok (.ireturn, 1) := by decide +kernel
theorem dX2_doLoad_30 : decode cX2_doLoad 30 = .ok (.aload_n 0, 1) := by decide +kernel
theorem dX2_doLoad_31 : decode cX2_doLoad 31 = .ok (.invokevirtual 50, 3) := by decide +kernel
theorem dX2_doLoad_34 : decode cX2_doLoad 34 = .ok (.aload_n 0, 1) := by decide +kernel
theorem dX2_doLoad_35 : decode cX2_doLoad 35 = .ok (.iload_n 2, 1) := by decide +kernel
theorem dX2_doLoad_36 : decode cX2_doLoad 36 = .ok (.invokevirtual 82, 3) := by decide +kernel
theorem dX2_doLoad_39 : decode cX2_doLoad 39 = .ok (.aload_n 0, 1) := by decide +kernel
theorem dX2_doLoad_40 : decode cX2_doLoad 40 = .ok (.iload_n 1, 1) := by decide +kernel
theorem dX2_doLoad_41 : decode cX2_doLoad 41 = .ok (.aload_n 0, 1) := by decide +kernel
theorem dX2_doLoad_42 : decode cX2_doLoad 42 = .ok (.getfield 9, 3) := by decide +kernel
theorem dX2_doLoad_45 : decode cX2_doLoad 45 = .ok (.iload_n 2, 1) := by decide +kernel
theorem dX2_doLoad_46 : decode cX2_doLoad 46 = .ok (.iconst 2, 1) := by decide +kernel
theorem dX2_doLoad_47 : decode cX2_doLoad 47 = .ok (.ishr, 1) := by decide +kernel
theorem dX2_doLoad_48 : decode cX2_doLoad 48 = .ok (.iaload, 1) := by decide +kernel
theorem dX2_doLoad_49 : decode cX2_doLoad 49 = .ok (.invokevirtual 53, 3) := by decide +kernel
theorem dX2_doLoad_52 : decode cX2_doLoad 52 = .ok (.ireturn, 1) := by decide +kernel
theorem dX2_doStore_0 : decode cX2_doStore 0 = .ok (.iload_n 1, 1) := by decide +kernel
theorem dX2_doStore_1 : decode cX2_doStore 1 = .ok (.invokestatic 97, 3) := by decide +kernel
theorem dX2_doStore_4 : decode cX2_doStore 4 = .ok (.iconst 2, 1) := by decide +kernel
theorem dX2_doStore_5 : decode cX2_doStore 5 = .ok (.if_icmp .eq 5, 3) := by decide +kernel
theorem dX2_doStore_8 : decode cX2_doStore 8 = .ok (.iconst 2, 1) := by decide +kernel
theorem dX2_doStore_9 : decode cX2_doStore 9 = .ok (.ireturn, 1) := by decide +kernel
theorem dX2_doStore_10 : decode cX2_doStore 10 = .ok (.aload_n 0, 1) := by decide +kernel
theorem dX2_doStore_11 : decode cX2_doStore 11 = .ok (.iload_n 1, 1) := by decide +kernel
theorem dX2_doStore_12 : decode cX2_doStore 12 = .ok (.invokevirtual 100, 3) := by decide +kernel
theorem dX2_doStore_15 : decode cX2_doStore 15 = .ok (.iload_n 1, 1) := by decide +kernel
theorem dX2_doStore_16 : decode cX2_doStore 16 = .ok (.invokestatic 115, 3) := by decide +kernel
theorem dX2_doStore_19 : decode cX2_doStore 19 = .ok (.iadd, 1) := by decide +kernel
theorem dX2_doStore_20 : decode cX2_doStore 20 = .ok (.istore_n 2, 1) := by decide +kernel
theorem dX2_doStore_21 : decode cX2_doStore 21 = .ok (.iload_n 2, 1) := by decide +kernel
theorem dX2_doStore_22 : decode cX2_doStore 22 = .ok (.invokestatic 36, 3) := by decide +kernel
theorem dX2_doStore_25 : decode cX2_doStore 25 = .ok (.ifCond .ne 5, 3) := by decide +kernel
theorem dX2_doStore_28 : decode cX2_doStore 28 = .ok (.iconst 3, 1) := by decide +kernel
theorem dX2_doStore_29 : decode cX2_doStore 29 = .ok (.ireturn, 1) := by decide +kernel
theorem dX2_doStore_30 : decode cX2_doStore 30 = .ok (.aload_n 0, 1) := by decide +kernel
theorem dX2_doStore_31 : decode cX2_doStore 31 = .ok (.invokevirtual 50, 3) := by decide +kernel
theorem dX2_doStore_34 : decode cX2_doStore 34 = .ok (.aload_n 0, 1) := by decide +kernel
theorem dX2_doStore_35 : decode cX2_doStore 35 = .ok (.iload_n 2, 1) := by decide +kernel
theorem dX2_doStore_36 : decode cX2_doStore 36 = .ok (.invokevirtual 82, 3) := by decide +kernel
theorem dX2_doStore_39 : decode cX2_doStore 39 = .ok (.aload_n 0, 1) := by decide +kernel
theorem dX2_doStore_40 : decode cX2_doStore 40 = .ok (.getfield 9, 3) := by decide +kernel
theorem dX2_doStore_43 : decode cX2_doStore 43 = .ok (.iload_n 2, 1) := by decide +kernel
theorem dX2_doStore_44 : decode cX2_doStore 44 = .ok (.iconst 2, 1) := by decide +kernel
theorem dX2_doStore_45 : decode cX2_doStore 45 = .ok (.ishr, 1) := by decide +kernel
theorem dX2_doStore_46 : decode cX2_doStore 46 = .ok (.aload_n 0, 1) := by decide +kernel
theorem dX2_doStore_47 : decode cX2_doStore 47 = .ok (.iload_n 1, 1) := by decide +kernel
theorem dX2_doStore_48 : decode cX2_doStore 48 = .ok (.invokevirtual 103, 3) := by decide +kernel
theorem dX2_doStore_51 : decode cX2_doStore 51 = .ok (.iastore, 1) := by decide +kernel
theorem dX2_doStore_52 : decode cX2_doStore 52 = .ok (.aload_n 0, 1) := by decide +kernel
theorem dX2_doStore_53 : decode cX2_doStore 53 = .ok (.dup, 1) := by decide +kernel
theorem dX2_doStore_54 : decode cX2_doStore 54 = .ok (.getfield 19, 3) := by decide +kernel
theorem dX2_doStore_57 : decode cX2_doStore 57 = .ok (.iconst 4, 1) := by decide +kernel
theorem dX2_doStore_58 : decode cX2_doStore 58 = .ok (.iadd, 1) := by decide +kernel
theorem dX2_doStore_59 : decode cX2_doStore 59 = .ok (.putfield 19, 3) := by decide +kernel
theorem dX2_doStore_62 : decode cX2_doStore 62 = .ok (.iconst 0, 1) := by decide +kernel
theorem dX2_doStore_63 : decode cX2_doStore 63 = .ok (.ireturn, 1) := by decide +kernel
theorem dX2_doWithNumber_0 : decode cX2_doWithNumber 0 = .ok (.iload_n 1, 1) := by decide +kernel
theorem dX2_doWithNumber_1 : decode cX2_doWithNumber 1 = .ok (.invokestatic 97, 3) := by decide +kernel
theorem dX2_doWithNumber_4 : decode cX2_doWithNumber 4 = .ok (.istore_n 2, 1) := by decide +kernel
theorem dX2_doWithNumber_5 : decode cX2_doWithNumber 5 = .ok (.iload_n 1, 1) := by decide +kernel
theorem dX2_doWithNumber_6 : decode cX2_doWithNumber 6 = .ok (.bipush 25, 2) := by decide +kernel
theorem dX2_doWithNumber_8 : decode cX2_doWithNumber 8 = .ok (.iushr, 1) := by decide +kernel
theorem dX2_doWithNumber_9 : decode cX2_doWithNumber 9 = .ok (.istore_n 3, 1) := by decide +kernel
theorem dX2_doWithNumber_10 : decode cX2_doWithNumber 10 = .ok (.iload_n 1, 1) := by decide +kernel
theorem dX2_doWithNumber_11 : decode cX2_doWithNumber 11 = .ok (.bipush 20, 2) := by decide +kernel
theorem dX2_doWithNumber_13 : decode cX2_doWithNumber 13 = .ok (.ishr, 1) := by decide +kernel
theorem dX2_doWithNumber_14 : decode cX2_doWithNumber 14 = .ok (.istore 4, 2) := by decide +kernel
theorem dX2_doWithNumber_16 : decode cX2_doWithNumber 16 = .ok (.iload_n 2, 1) := by decide +kernel
theorem dX2_doWithNumber_17 : decode cX2_doWithNumber 17 = .ok (.iconst 5, 1) := by decide +kernel
theorem dX2_doWithNumber_18 : decode cX2_doWithNumber 18 = .ok (.if_icmp .ne 13, 3) := by decide +kernel
theorem dX2_doWithNumber_21 : decode cX2_doWithNumber 21 = .ok (.iload_n 3, 1) := by decide +kernel
theorem dX2_doWithNumber_22 : decode cX2_doWithNumber 22 = .ok (.bipush 32, 2) := by decide +kernel
theorem dX2_doWithNumber_24 : decode cX2_doWithNumber 24 = .ok (.if_icmp .ne 7, 3) := by decide +kernel
theorem dX2_doWithNumber_27 : decode cX2_doWithNumber 27 = .ok (.iconst 1, 1) := by decide +kernel
theorem dX2_doWithNumber_28 : decode cX2_doWithNumber 28 = .ok (.goto 4, 3) := by decide +kernel
theorem dX2_doWithNumber_31 : decode cX2_doWithNumber 31 = .ok (.iconst 0, 1) := by decide +kernel
theorem dX2_doWithNumber_32 : decode cX2_doWithNumber 32 = .ok (.istore 5, 2) := by decide +kernel
theorem dX2_doWithNumber_34 : decode cX2_doWithNumber 34 = .ok (.iload_n 2, 1) := by decide +kernel
theorem dX2_doWithNumber_35 : decode cX2_doWithNumber 35 = .ok (.iconst 1, 1) := by decide +kernel
theorem dX2_doWithNumber_36 : decode cX2_doWithNumber 36 = .ok (.if_icmp .eq 8, 3) := by decide +kernel
theorem dX2_doWithNumber_39 : decode cX2_doWithNumber 39 = .ok (.iload_n 2, 1) := by decide +kernel
theorem dX2_doWithNumber_40 : decode cX2_doWithNumber 40 = .ok (.iconst 5, 1) := by decide +kernel
theorem dX2_doWithNumber_41 : decode cX2_doWithNumber 41 = .ok (.if_icmp .ne 14, 3) := by decide +kernel
theorem dX2_doWithNumber_44 : decode cX2_doWithNumber 44 = .ok (.iload_n 3, 1) := by decide +kernel
theorem dX2_doWithNumber_45 : decode cX2_doWithNumber 45 = .ok (.ifCond .eq 10, 3) := by decide +kernel
theorem dX2_doWithNumber_48 : decode cX2_doWithNumber 48 = .ok (.iload 5, 2) := by decide +kernel
theorem dX2_doWithNumber_50 : decode cX2_doWithNumber 50 = .ok (.ifCond .ne 5, 3) := by decide +kernel
theorem dX2_doWithNumber_53 : decode cX2_doWithNumber 53 = .ok (.iconst 2, 1) := by decide +kernel
theorem dX2_doWithNumber_54 : decode cX2_doWithNumber 54 = .ok (.ireturn, 1) := by decide +kernel
theorem dX2_doWithNumber_55 : decode cX2_doWithNumber 55 = .ok (.aload_n 0, 1) := by decide +kernel
theorem dX2_doWithNumber_56 : decode cX2_doWithNumber 56 = .ok (.invokevirtual 50, 3) := by decide +kernel
theorem dX2_doWithNumber_59 : decode cX2_doWithNumber 59 = .ok (.aload_n 0, 1) := by decide +kernel
theorem dX2_doWithNumber_60 : decode cX2_doWithNumber 60 = .ok (.iload_n 1, 1) := by decide +kernel
theorem dX2_doWithNumber_61 : decode cX2_doWithNumber 61 = .ok (.iload 5, 2) := by decide +kernel
theorem dX2_doWithNumber_63 : decode cX2_doWithNumber 63 = .ok (.ifCond .eq 17, 3) := by decide +kernel
theorem dX2_doWithNumber_66 : decode cX2_doWithNumber 66 = .ok (.aload_n 0, 1) := by decide +kernel
theorem dX2_doWithNumber_67 : decode cX2_doWithNumber 67 = .ok (.iload_n 1, 1) := by decide +kernel
theorem dX2_doWithNumber_68 : decode cX2_doWithNumber 68 = .ok (.invokevirtual 100, 3) := by decide +kernel
theorem dX2_doWithNumber_71 : decode cX2_doWithNumber 71 = .ok (.iload 4, 2) := by decide +kernel
theorem dX2_doWithNumber_73 : decode cX2_doWithNumber 73 = .ok (.bipush 31, 2) := by decide +kernel
theorem dX2_doWithNumber_75 : decode cX2_doWithNumber 75 = .ok (.iand, 1) := by decide +kernel
theorem dX2_doWithNumber_76 : decode cX2_doWithNumber 76 = .ok (.ishr, 1) := by decide +kernel
theorem dX2_doWithNumber_77 : decode cX2_doWithNumber 77 = .ok (.goto 14, 3) := by decide +kernel
theorem dX2_doWithNumber_80 : decode cX2_doWithNumber 80 = .ok (.iload_n 2, 1) := by decide +kernel
theorem dX2_doWithNumber_81 : decode cX2_doWithNumber 81 = .ok (.aload_n 0, 1) := by decide +kernel
theorem dX2_doWithNumber_82 : decode cX2_doWithNumber 82 = .ok (.iload_n 1, 1) := by decide +kernel
theorem dX2_doWithNumber_83 : decode cX2_doWithNumber 83 = .ok (.invokevirtual 100, 3) := by decide +kernel
theorem dX2_doWithNumber_86 : decode cX2_doWithNumber 86 = .ok (.iload 4, 2) := by decide +kernel
theorem dX2_doWithNumber_88 : decode cX2_doWithNumber 88 = .ok (.invokestatic 118, 3) := by decide +kernel
theorem dX2_doWithNumber_91 : decode cX2_doWithNumber 91 = .ok (.invokevirtual 53, 3) := by decide +kernel
theorem dX2_doWithNumber_94 : decode cX2_doWithNumber 94 = .ok (.ireturn, 1) := by decide +kernel
theorem dX2_doWithRegisters_0 : decode cX2_doWithRegisters 0 = .ok (.iload_n 1, 1) := by decide +kernel
theorem dX2_doWithRegisters_1 : decode cX2_doWithRegisters 1 = .ok (.invokestatic 97, 3) := by decide +kernel
theorem dX2_doWithRegisters_4 : decode cX2_doWithRegisters 4 = .ok (.istore_n 2, 1) := by decide +kernel
theorem dX2_doWithRegisters_5 : decode cX2_doWithRegisters 5 = .ok (.aload_n 0, 1) := by decide +kernel
theorem dX2_doWithRegisters_6 : decode cX2_doWithRegisters 6 = .ok (.iload_n 1, 1) := by decide +kernel
theorem dX2_doWithRegisters_7 : decode cX2_doWithRegisters 7 = .ok (.invokevirtual 100, 3) := by decide +kernel
theorem dX2_doWithRegisters_10 : decode cX2_doWithRegisters 10 = .ok (.istore_n 3, 1) := by decide +kernel
theorem dX2_doWithRegisters_11 : decode cX2_doWithRegisters 11 = .ok (.aload_n 0, 1) := by decide +kernel
theorem dX2_doWithRegisters_12 : decode cX2_doWithRegisters 12 = .ok (.iload_n 1, 1) := by decide +kernel
theorem dX2_doWithRegisters_13 : decode cX2_doWithRegisters 13 = .ok (.invokevirtual 103, 3) := by decide +kernel
theorem dX2_doWithRegisters_16 : decode cX2_doWithRegisters 16 = .ok (.istore 4, 2) := by decide +kernel
theorem dX2_doWithRegisters_18 : decode cX2_doWithRegisters 18 = .ok (.iload_n 1, 1) := by decide +kernel
theorem dX2_doWithRegisters_19 : decode cX2_doWithRegisters 19 = .ok (.bipush 25, 2) := by decide +kernel
theorem dX2_doWithRegisters_21 : decode cX2_doWithRegisters 21 = .ok (.iushr, 1) := by decide +kernel
theorem dX2_doWithRegisters_22 : decode cX2_doWithRegisters 22 = .ok (.lookupswitch 124 #[(0, 34), (1, 51), (32, 85)], 34) := by decide +kernel
theorem dX2_doWithRegisters_56 : decode cX2_doWithRegisters 56 = .ok (.aload_n 0, 1) := by decide +kernel
theorem dX2_doWithRegisters_57 : decode cX2_doWithRegisters 57 = .ok (.invokevirtual 50, 3) := by decide +kernel
theorem dX2_doWithRegisters_60 : decode cX2_doWithRegisters 60 = .ok (.aload_n 0, 1) := by decide +kernel
theorem dX2_doWithRegisters_61 : decode cX2_doWithRegisters 61 = .ok (.iload_n 1, 1) := by decide +kernel
theorem dX2_doWithRegisters_62 : decode cX2_doWithRegisters 62 = .ok (.iload_n 2, 1) := by decide +kernel
theorem dX2_doWithRegisters_63 : decode cX2_doWithRegisters 63 = .ok (.iload_n 3, 1) := by decide +kernel
theorem dX2_doWithRegisters_64 : decode cX2_doWithRegisters 64 = .ok (.iload 4, 2) := by decide +kernel
theorem dX2_doWithRegisters_66 : decode cX2_doWithRegisters 66 = .ok (.invokestatic 118, 3) := by decide +kernel
theorem dX2_doWithRegisters_69 : decode cX2_doWithRegisters 69 = .ok (.invokevirtual 53, 3) := by decide +kernel
theorem dX2_doWithRegisters_72 : decode cX2_doWithRegisters 72 = .ok (.ireturn, 1) := by decide +kernel
theorem dX2_doWithRegisters_73 : decode cX2_doWithRegisters 73 = .ok (.aload_n 0, 1) := by decide +kernel
theorem dX2_doWithRegisters_74 : decode cX2_doWithRegisters 74 = .ok (.invokevirtual 50, 3) := by decide +kernel
theorem dX2_doWithRegisters_77 : decode cX2_doWithRegisters 77 = .ok (.aload_n 0, 1) := by decide +kernel
theorem dX2_doWithRegisters_78 : decode cX2_doWithRegisters 78 = .ok (.iload_n 1, 1) := by decide +kernel
theorem dX2_doWithRegisters_79 : decode cX2_doWithRegisters 79 = .ok (.iload_n 2, 1) := by decide +kernel
theorem dX2_doWithRegisters_80 : decode cX2_doWithRegisters 80 = .ok (.iconst 4, 1) := by decide +kernel
theorem dX2_doWithRegisters_81 : decode cX2_doWithRegisters 81 = .ok (.if_icmp .ge 14, 3) := by decide +kernel
theorem dX2_doWithRegisters_84 : decode cX2_doWithRegisters 84 = .ok (.aload_n 0, 1) := by decide +kernel
theorem dX2_doWithRegisters_85 : decode cX2_doWithRegisters 85 = .ok (.iload_n 2, 1) := by decide +kernel
theorem dX2_doWithRegisters_86 : decode cX2_doWithRegisters 86 = .ok (.iload_n 3, 1) := by decide +kernel
theorem dX2_doWithRegisters_87 : decode cX2_doWithRegisters 87 = .ok (.iload 4, 2) := by decide +kernel
theorem dX2_doWithRegisters_89 : decode cX2_doWithRegisters 89 = .ok (.invokevirtual 122, 3) := by decide +kernel
theorem dX2_doWithRegisters_92 : decode cX2_doWithRegisters 92 = .ok (.goto 11, 3) := by decide +kernel
theorem dX2_doWithRegisters_95 : decode cX2_doWithRegisters 95 = .ok (.aload_n 0, 1) := by decide +kernel
theorem dX2_doWithRegisters_96 : decode cX2_doWithRegisters 96 = .ok (.iload_n 2, 1) := by decide +kernel
theorem dX2_doWithRegisters_97 : decode cX2_doWithRegisters 97 = .ok (.iload_n 3, 1) := by decide +kernel
theorem dX2_doWithRegisters_98 : decode cX2_doWithRegisters 98 = .ok (.iload 4, 2) := by decide +kernel
theorem dX2_doWithRegisters_100 : decode cX2_doWithRegisters 100 = .ok (.invokevirtual 125, 3) := by decide +kernel
theorem dX2_doWithRegisters_103 : decode cX2_doWithRegisters 103 = .ok (.invokevirtual 53, 3) := by decide +kernel
theorem dX2_doWithRegisters_106 : decode cX2_doWithRegisters 106 = .ok (.ireturn, 1) := by decide +kernel
theorem dX2_doWithRegisters_107 : decode cX2_doWithRegisters 107 = .ok (.iload_n 2, 1) := by decide +kernel
theorem dX2_doWithRegisters_108 : decode cX2_doWithRegisters 108 = .ok (.ifCond .eq 10, 3) := by decide +kernel
theorem dX2_doWithRegisters_111 : decode cX2_doWithRegisters 111 = .ok (.iload_n 2, 1) := by decide +kernel
theorem dX2_doWithRegisters_112 : decode cX2_doWithRegisters 112 = .ok (.iconst 5, 1) := by decide +kernel
theorem dX2_doWithRegisters_113 : decode cX2_doWithRegisters 113 = .ok (.if_icmp .eq 5, 3) := by decide +kernel
theorem dX2_doWithRegisters_116 : decode cX2_doWithRegisters 116 = .ok (.iconst 2, 1) := by decide +kernel
theorem dX2_doWithRegisters_117 : decode cX2_doWithRegisters 117 = .ok (.ireturn, 1) := by decide +kernel
theorem dX2_doWithRegisters_118 : decode cX2_doWithRegisters 118 = .ok (.aload_n 0, 1) := by decide +kernel
theorem dX2_doWithRegisters_119 : decode cX2_doWithRegisters 119 = .ok (.invokevirtual 50, 3) := by decide +kernel
theorem dX2_doWithRegisters_122 : decode cX2_doWithRegisters 122 = .ok (.aload_n 0, 1) := by decide +kernel
theorem dX2_doWithRegisters_123 : decode cX2_doWithRegisters 123 = .ok (.iload_n 1, 1) := by decide +kernel
theorem dX2_doWithRegisters_124 : decode cX2_doWithRegisters 124 = .ok (.iload_n 2, 1) := by decide +kernel
theorem dX2_doWithRegisters_125 : decode cX2_doWithRegisters 125 = .ok (.ifCond .ne 10, 3) := by decide +kernel
theorem dX2_doWithRegisters_128 : decode cX2_doWithRegisters 128 = .ok (.iload_n 3, 1) := by decide +kernel
theorem dX2_doWithRegisters_129 : decode cX2_doWithRegisters 129 = .ok (.iload 4, 2) := by decide +kernel
theorem dX2_doWithRegisters_131 : decode cX2_doWithRegisters 131 = .ok (.isub, 1) := by decide +kernel
theorem dX2_doWithRegisters_132 : decode cX2_doWithRegisters 132 = .ok (.goto 10, 3) := by decide +kernel
theorem dX2_doWithRegisters_135 : decode cX2_doWithRegisters 135 = .ok (.iload_n 3, 1) := by decide +kernel
theorem dX2_doWithRegisters_136 : decode cX2_doWithRegisters 136 = .ok (.iload 4, 2) := by decide +kernel
theorem dX2_doWithRegisters_138 : decode cX2_doWithRegisters 138 = .ok (.bipush 31, 2) := by decide +kernel
theorem dX2_doWithRegisters_140 : decode cX2_doWithRegisters 140 = .ok (.iand, 1) := by decide +kernel
theorem dX2_doWithRegisters_141 : decode cX2_doWithRegisters 141 = .ok (.ishr, 1) := by decide +kernel
theorem dX2_doWithRegisters_142 : decode cX2_doWithRegisters 142 = .ok (.invokevirtual 53, 3) := by decide +kernel
theorem dX2_doWithRegisters_145 : decode cX2_doWithRegisters 145 = .ok (.ireturn, 1) := by decide +kernel
theorem dX2_doWithRegisters_146 : decode cX2_doWithRegisters 146 = .ok (.iconst 2, 1) := by decide +kernel
theorem dX2_doWithRegisters_147 : decode cX2_doWithRegisters 147 = .ok (.ireturn, 1) := by decide +kernel
theorem dX2_join_0 : decode cX2_join 0 = .ok (.iload_n 0, 1) := by decide +kernel
theorem dX2_join_1 : decode cX2_join 1 = .ok (.tableswitch 102 0 6 #[43, 47, 54, 65, 87, 91, 98], 43) := by decide +kernel
theorem dX2_join_44 : decode cX2_join 44 = .ok (.iload_n 1, 1) := by decide +kernel
theorem dX2_join_45 : decode cX2_join 45 = .ok (.iload_n 2, 1) := by decide +kernel
theorem dX2_join_46 : decode cX2_join 46 = .ok (.iadd, 1) := by decide +kernel
theorem dX2_join_47 : decode cX2_join 47 = .ok (.ireturn, 1) := by decide +kernel
theorem dX2_join_48 : decode cX2_join 48 = .ok (.iload_n 1, 1) := by decide +kernel
theorem dX2_join_49 : decode cX2_join 49 = .ok (.iload_n 2, 1) := by decide +kernel
theorem dX2_join_50 : decode cX2_join 50 = .ok (.bipush 31, 2) := by decide +kernel
theorem dX2_join_52 : decode cX2_join 52 = .ok (.iand, 1) := by decide +kernel
theorem dX2_join_53 : decode cX2_join 53 = .ok (.ishl, 1) := by decide +kernel
theorem dX2_join_54 : decode cX2_join 54 = .ok (.ireturn, 1) := by decide +kernel
theorem dX2_join_55 : decode cX2_join 55 = .ok (.iload_n 1, 1) := by decide +kernel
theorem dX2_join_56 : decode cX2_join 56 = .ok (.iload_n 2, 1) := by decide +kernel
theorem dX2_join_57 : decode cX2_join 57 = .ok (.if_icmp .ge 7, 3) := by decide +kernel
theorem dX2_join_60 : decode cX2_join 60 = .ok (.iconst 1, 1) := by decide +kernel
theorem dX2_join_61 : decode cX2_join 61 = .ok (.goto 4, 3) := by decide +kernel
theorem dX2_join_64 : decode cX2_join 64 = .ok (.iconst 0, 1) := by decide +kernel
theorem dX2_join_65 : decode cX2_join 65 = .ok (.ireturn, 1) := by decide +kernel
theorem dX2_join_66 : decode cX2_join 66 = .ok (.iload_n 1, 1) := by decide +kernel
theorem dX2_join_67 : decode cX2_join 67 = .ok (.i2l, 1) := by decide +kernel
theorem dX2_join_68 : decode cX2_join 68 = .ok (.ldc2_w 113, 3) := by decide +kernel
theorem dX2_join_71 : decode cX2_join 71 = .ok (.land, 1) := by decide +kernel
theorem dX2_join_72 : decode cX2_join 72 = .ok (.iload_n 2, 1) := by decide +kernel
theorem dX2_join_73 : decode cX2_join 73 = .ok (.i2l, 1) := by decide +kernel
theorem dX2_join_74 : decode cX2_join 74 = .ok (.ldc2_w 113, 3) := by decide +kernel
theorem dX2_join_77 : decode cX2_join 77 = .ok (.land, 1) := by decide +kernel
theorem dX2_join_78 : decode cX2_join 78 = .ok (.lcmp, 1) := by decide +kernel
theorem dX2_join_79 : decode cX2_join 79 = .ok (.ifCond .ge 7, 3) := by decide +kernel
theorem dX2_join_82 : decode cX2_join 82 = .ok (.iconst 1, 1) := by decide +kernel
theorem dX2_join_83 : decode cX2_join 83 = .ok (.goto 4, 3) := by decide +kernel
theorem dX2_join_86 : decode cX2_join 86 = .ok (.iconst 0, 1) := by decide +kernel
theorem dX2_join_87 : decode cX2_join 87 = .ok (.ireturn, 1) := by decide +kernel
theorem dX2_join_88 : decode cX2_join 88 = .ok (.iload_n 1, 1) := by decide +kernel
theorem dX2_join_89 : decode cX2_join 89 = .ok (.iload_n 2, 1) := by decide +kernel
theorem dX2_join_90 : decode cX2_join 90 = .ok (.ixor, 1) := by decide +kernel
theorem dX2_join_91 : decode cX2_join 91 = .ok (.ireturn, 1) := by decide +kernel
theorem dX2_join_92 : decode cX2_join 92 = .ok (.iload_n 1, 1) := by decide +kernel
theorem dX2_join_93 : decode cX2_join 93 = .ok (.iload_n 2, 1) := by decide +kernel
theorem dX2_join_94 : decode cX2_join 94 = .ok (.bipush 31, 2) := by decide +kernel
theorem dX2_join_96 : decode cX2_join 96 = .ok (.iand, 1) := by decide +kernel
theorem dX2_join_97 : decode cX2_join 97 = .ok (.iushr, 1) := by decide +kernel
theorem dX2_join_98 : decode cX2_join 98 = .ok (.ireturn, 1) := by decide +kernel
theorem dX2_join_99 : decode cX2_join 99 = .ok (.iload_n 1, 1) := by decide +kernel
theorem dX2_join_100 : decode cX2_join 100 = .ok (.iload_n 2, 1) := by decide +kernel
theorem dX2_join_101 : decode cX2_join 101 = .ok (.ior, 1) := by decide +kernel
theorem dX2_join_102 : decode cX2_join 102 = .ok (.ireturn, 1) := by decide +kernel
theorem dX2_join_103 : decode cX2_join 103 = .ok (.iload_n 1, 1) := by decide +kernel
theorem dX2_join_104 : decode cX2_join 104 = .ok (.iload_n 2, 1) := by decide +kernel
theorem dX2_join_105 : decode cX2_join 105 = .ok (.iand, 1) := by decide +kernel
theorem dX2_join_106 : decode cX2_join 106 = .ok (.ireturn, 1) := by decide +kernel
theorem dX2_product_0 : decode cX2_product 0 = .ok (.aload_n 0, 1) := by decide +kernel
theorem dX2_product_1 : decode cX2_product 1 = .ok (.dup, 1) := by decide +kernel
theorem dX2_product_2 : decode cX2_product 2 = .ok (.getfield 26, 3) := by decide +kernel
theorem dX2_product_5 : decode cX2_product 5 = .ok (.ldc2_w 128, 3) := by decide +kernel
theorem dX2_product_8 : decode cX2_product 8 = .ok (.ladd, 1) := by decide +kernel
theorem dX2_product_9 : decode cX2_product 9 = .ok (.putfield 26, 3) := by decide +kernel
theorem dX2_product_12 : decode cX2_product 12 = .ok (.iload_n 1, 1) := by decide +kernel
theorem dX2_product_13 : decode cX2_product 13 = .ok (.tableswitch 55 0 2 #[27, 31, 41], 27) := by decide +kernel
theorem dX2_product_40 : decode cX2_product 40 = .ok (.iload_n 2, 1) := by decide +kernel
theorem dX2_product_41 : decode cX2_product 41 = .ok (.iload_n 3, 1) := by decide +kernel
theorem dX2_product_42 : decode cX2_product 42 = .ok (.imul, 1) := by decide +kernel
theorem dX2_product_43 : decode cX2_product 43 = .ok (.ireturn, 1) := by decide +kernel
theorem dX2_product_44 : decode cX2_product 44 = .ok (.iload_n 2, 1) := by decide +kernel
theorem dX2_product_45 : decode cX2_product 45 = .ok (.i2l, 1) := by decide +kernel
theorem dX2_product_46 : decode cX2_product 46 = .ok (.iload_n 3, 1) := by decide +kernel
theorem dX2_product_47 : decode cX2_product 47 = .ok (.i2l, 1) := by decide +kernel
theorem dX2_product_48 : decode cX2_product 48 = .ok (.lmul, 1) := by decide +kernel
theorem dX2_product_49 : decode cX2_product 49 = .ok (.bipush 32, 2) := by decide +kernel
theorem dX2_product_51 : decode cX2_product 51 = .ok (.lshr, 1) := by decide +kernel
theorem dX2_product_52 : decode cX2_product 52 = .ok (.l2i, 1) := by decide +kernel
theorem dX2_product_53 : decode cX2_product 53 = .ok (.ireturn, 1) := by decide +kernel
theorem dX2_product_54 : decode cX2_product 54 = .ok (.iload_n 2, 1) := by decide +kernel
theorem dX2_product_55 : decode cX2_product 55 = .ok (.i2l, 1) := by decide +kernel
theorem dX2_product_56 : decode cX2_product 56 = .ok (.iload_n 3, 1) := by decide +kernel
theorem dX2_product_57 : decode cX2_product 57 = .ok (.i2l, 1) := by decide +kernel
theorem dX2_product_58 : decode cX2_product 58 = .ok (.ldc2_w 113, 3) := by decide +kernel
theorem dX2_product_61 : decode cX2_product 61 = .ok (.land, 1) := by decide +kernel
theorem dX2_product_62 : decode cX2_product 62 = .ok (.lmul, 1) := by decide +kernel
theorem dX2_product_63 : decode cX2_product 63 = .ok (.bipush 32, 2) := by decide +kernel
theorem dX2_product_65 : decode cX2_product 65 = .ok (.lshr, 1) := by decide +kernel
theorem dX2_product_66 : decode cX2_product 66 = .ok (.l2i, 1) := by decide +kernel
theorem dX2_product_67 : decode cX2_product 67 = .ok (.ireturn, 1) := by decide +kernel
theorem dX2_product_68 : decode cX2_product 68 = .ok (.iload_n 2, 1) := by decide +kernel
theorem dX2_product_69 : decode cX2_product 69 = .ok (.i2l, 1) := by decide +kernel
theorem dX2_product_70 : decode cX2_product 70 = .ok (.ldc2_w 113, 3) := by decide +kernel
theorem dX2_product_73 : decode cX2_product 73 = .ok (.land, 1) := by decide +kernel
theorem dX2_product_74 : decode cX2_product 74 = .ok (.iload_n 3, 1) := by decide +kernel
theorem dX2_product_75 : decode cX2_product 75 = .ok (.i2l, 1) := by decide +kernel
theorem dX2_product_76 : decode cX2_product 76 = .ok (.ldc2_w 113, 3) := by decide +kernel
theorem dX2_product_79 : decode cX2_product 79 = .ok (.land, 1) := by decide +kernel
theorem dX2_product_80 : decode cX2_product 80 = .ok (.lmul, 1) := by decide +kernel
theorem dX2_product_81 : decode cX2_product 81 = .ok (.bipush 32, 2) := by decide +kernel
theorem dX2_product_83 : decode cX2_product 83 = .ok (.lushr, 1) := by decide +kernel
theorem dX2_product_84 : decode cX2_product 84 = .ok (.l2i, 1) := by decide +kernel
theorem dX2_product_85 : decode cX2_product 85 = .ok (.ireturn, 1) := by decide +kernel
theorem dX2_division_0 : decode cX2_division 0 = .ok (.aload_n 0, 1) := by decide +kernel
theorem dX2_division_1 : decode cX2_division 1 = .ok (.dup, 1) := by decide +kernel
theorem dX2_division_2 : decode cX2_division 2 = .ok (.getfield 26, 3) := by decide +kernel
theorem dX2_division_5 : decode cX2_division 5 = .ok (.ldc2_w 130, 3) := by decide +kernel
theorem dX2_division_8 : decode cX2_division 8 = .ok (.ladd, 1) := by decide +kernel
theorem dX2_division_9 : decode cX2_division 9 = .ok (.putfield 26, 3) := by decide +kernel
theorem dX2_division_12 : decode cX2_division 12 = .ok (.aload_n 0, 1) := by decide +kernel
theorem dX2_division_13 : decode cX2_division 13 = .ok (.iload_n 2, 1) := by decide +kernel
theorem dX2_division_14 : decode cX2_division 14 = .ok (.invokevirtual 88, 3) := by decide +kernel
theorem dX2_division_17 : decode cX2_division 17 = .ok (.aload_n 0, 1) := by decide +kernel
theorem dX2_division_18 : decode cX2_division 18 = .ok (.iload_n 3, 1) := by decide +kernel
theorem dX2_division_19 : decode cX2_division 19 = .ok (.invokevirtual 88, 3) := by decide +kernel
theorem dX2_division_22 : decode cX2_division 22 = .ok (.iload_n 1, 1) := by decide +kernel
theorem dX2_division_23 : decode cX2_division 23 = .ok (.iconst 4, 1) := by decide +kernel
theorem dX2_division_24 : decode cX2_division 24 = .ok (.if_icmp .eq 8, 3) := by decide +kernel
theorem dX2_division_27 : decode cX2_division 27 = .ok (.iload_n 1, 1) := by decide +kernel
theorem dX2_division_28 : decode cX2_division 28 = .ok (.iconst 5, 1) := by decide +kernel
theorem dX2_division_29 : decode cX2_division 29 = .ok (.if_icmp .ne 7, 3) := by decide +kernel
theorem dX2_division_32 : decode cX2_division 32 = .ok (.iconst 1, 1) := by decide +kernel
theorem dX2_division_33 : decode cX2_division 33 = .ok (.goto 4, 3) := by decide +kernel
theorem dX2_division_36 : decode cX2_division 36 = .ok (.iconst 0, 1) := by decide +kernel
theorem dX2_division_37 : decode cX2_division 37 = .ok (.istore 4, 2) := by decide +kernel
theorem dX2_division_39 : decode cX2_division 39 = .ok (.iload_n 3, 1) := by decide +kernel
theorem dX2_division_40 : decode cX2_division 40 = .ok (.ifCond .ne 14, 3) := by decide +kernel
theorem dX2_division_43 : decode cX2_division 43 = .ok (.iload 4, 2) := by decide +kernel
theorem dX2_division_45 : decode cX2_division 45 = .ok (.ifCond .eq 7, 3) := by decide +kernel
theorem dX2_division_48 : decode cX2_division 48 = .ok (.iconst (-1), 1) := by decide +kernel
theorem dX2_division_49 : decode cX2_division 49 = .ok (.goto 4, 3) := by decide +kernel
theorem dX2_division_52 : decode cX2_division 52 = .ok (.iload_n 2, 1) := by decide +kernel
theorem dX2_division_53 : decode cX2_division 53 = .ok (.ireturn, 1) := by decide +kernel
theorem dX2_division_54 : decode cX2_division 54 = .ok (.iload_n 1, 1) := by decide +kernel
theorem dX2_division_55 : decode cX2_division 55 = .ok (.iconst 4, 1) := by decide +kernel
theorem dX2_division_56 : decode cX2_division 56 = .ok (.if_icmp .eq 9, 3) := by decide +kernel
theorem dX2_division_59 : decode cX2_division 59 = .ok (.iload_n 1, 1) := by decide +kernel
theorem dX2_division_60 : decode cX2_division 60 = .ok (.bipush 6, 2) := by decide +kernel
theorem dX2_division_62 : decode cX2_division 62 = .ok (.if_icmp .ne 7, 3) := by decide +kernel
theorem dX2_division_65 : decode cX2_division 65 = .ok (.iconst 1, 1) := by decide +kernel
theorem dX2_division_66 : decode cX2_division 66 = .ok (.goto 4, 3) := by decide +kernel
theorem dX2_division_69 : decode cX2_division 69 = .ok (.iconst 0, 1) := by decide +kernel
theorem dX2_division_70 : decode cX2_division 70 = .ok (.istore 5, 2) := by decide +kernel
theorem dX2_division_72 : decode cX2_division 72 = .ok (.iload 5, 2) := by decide +kernel
theorem dX2_division_74 : decode cX2_division 74 = .ok (.ifCond .eq 8, 3) := by decide +kernel
theorem dX2_division_77 : decode cX2_division 77 = .ok (.iload_n 2, 1) := by decide +kernel
theorem dX2_division_78 : decode cX2_division 78 = .ok (.i2l, 1) := by decide +kernel
theorem dX2_division_79 : decode cX2_division 79 = .ok (.goto 9, 3) := by decide +kernel
theorem dX2_division_82 : decode cX2_division 82 = .ok (.iload_n 2, 1) := by decide +kernel
theorem dX2_division_83 : decode cX2_division 83 = .ok (.i2l, 1) := by decide +kernel
theorem dX2_division_84 : decode cX2_division 84 = .ok (.ldc2_w 113, 3) := by decide +kernel
theorem dX2_division_87 : decode cX2_division 87 = .ok (.land, 1) := by decide +kernel
theorem dX2_division_88 : decode cX2_division 88 = .ok (.lstore 6, 2) := by decide +kernel
theorem dX2_division_90 : decode cX2_division 90 = .ok (.iload 5, 2) := by decide +kernel
theorem dX2_division_92 : decode cX2_division 92 = .ok (.ifCond .eq 8, 3) := by decide +kernel
theorem dX2_division_95 : decode cX2_division 95 = .ok (.iload_n 3, 1) := by decide +kernel
theorem dX2_division_96 : decode cX2_division 96 = .ok (.i2l, 1) := by decide +kernel
theorem dX2_division_97 : decode cX2_division 97 = .ok (.goto 9, 3) := by decide +kernel
theorem dX2_division_100 : decode cX2_division 100 = .ok (.iload_n 3, 1) := by decide +kernel
theorem dX2_division_101 : decode cX2_division 101 = .ok (.i2l, 1) := by decide +kernel
theorem dX2_division_102 : decode cX2_division 102 = .ok (.ldc2_w 113, 3) := by decide +kernel
theorem dX2_division_105 : decode cX2_division 105 = .ok (.land, 1) := by decide +kernel
theorem dX2_division_106 : decode cX2_division 106 = .ok (.lstore 8, 2) := by decide +kernel
theorem dX2_division_108 : decode cX2_division 108 = .ok (.lload 8, 2) := by decide +kernel
theorem dX2_division_110 : decode cX2_division 110 = .ok (.lconst 0, 1) := by decide +kernel
theorem dX2_division_111 : decode cX2_division 111 = .ok (.lcmp, 1) := by decide +kernel
theorem dX2_division_112 : decode cX2_division 112 = .ok (.ifCond .ne 5, 3) := by decide +kernel
theorem dX2_division_115 : decode cX2_division 115 = .ok (.iconst 0, 1) := by decide +kernel
theorem dX2_division_116 : decode cX2_division 116 = .ok (.ireturn, 1) := by decide +kernel
theorem dX2_division_117 : decode cX2_division 117 = .ok (.iload 4, 2) := by decide +kernel
theorem dX2_division_119 : decode cX2_division 119 = .ok (.ifCond .eq 11, 3) := by decide +kernel
theorem dX2_division_122 : decode cX2_division 122 = .ok (.lload 6, 2) := by decide +kernel
theorem dX2_division_124 : decode cX2_division 124 = .ok (.lload 8, 2) := by decide +kernel
theorem dX2_division_126 : decode cX2_division 126 = .ok (.ldiv, 1) := by decide +kernel
theorem dX2_division_127 : decode cX2_division 127 = .ok (.goto 8, 3) := by decide +kernel
theorem dX2_division_130 : decode cX2_division 130 = .ok (.lload 6, 2) := by decide +kernel
theorem dX2_division_132 : decode cX2_division 132 = .ok (.lload 8, 2) := by decide +kernel
theorem dX2_division_134 : decode cX2_division 134 = .ok (.lrem, 1) := by decide +kernel
theorem dX2_division_135 : decode cX2_division 135 = .ok (.l2i, 1) := by decide +kernel
theorem dX2_division_136 : decode cX2_division 136 = .ok (.ireturn, 1) := by decide +kernel
abbrev MX2_begin : aw_M := (yX2_begin, cX2_begin, 1, none)
theorem codX2_begin : Cond.code yX2_begin cX2_begin 1 none ∈ aw_T := aw_in 1203 (by decide +kernel) rfl
theorem iniX2 : Cond.initialized RX2 ∈ aw_T := aw_in 116 (by decide +kernel) rfl
theorem insX2_begin : Cond.instanceMethod yX2_begin ∈ aw_T := aw_in 1202 (by decide +kernel) rfl
theorem selX2_begin : Cond.selects RX2 yX2_begin yX2_begin ∈ aw_T := aw_in 59 (by decide +kernel) rfl
abbrev MX2_beginAt : aw_M := (yX2_beginAt, cX2_beginAt, 2, (some .boolean))
theorem codX2_beginAt : Cond.code yX2_beginAt cX2_beginAt 2 (some .boolean) ∈ aw_T := aw_in 1190 (by decide +kernel) rfl
theorem insX2_beginAt : Cond.instanceMethod yX2_beginAt ∈ aw_T := aw_in 1188 (by decide +kernel) rfl
theorem selX2_beginAt : Cond.selects RX2 yX2_beginAt yX2_beginAt ∈ aw_T := aw_in 1189 (by decide +kernel) rfl
abbrev MX2_branchDistance : aw_M := (yX2_branchDistance, cX2_branchDistance, 1, (some .int))
theorem codX2_branchDistance : Cond.code yX2_branchDistance cX2_branchDistance 1 (some .int) ∈ aw_T := aw_in 1252 (by decide +kernel) rfl
theorem sttX2_branchDistance : Cond.static yX2_branchDistance ∈ aw_T := aw_in 1251 (by decide +kernel) rfl
abbrev MX2_cycles : aw_M := (yX2_cycles, cX2_cycles, 1, (some .long))
theorem codX2_cycles : Cond.code yX2_cycles cX2_cycles 1 (some .long) ∈ aw_T := aw_in 1317 (by decide +kernel) rfl
theorem insX2_cycles : Cond.instanceMethod yX2_cycles ∈ aw_T := aw_in 1315 (by decide +kernel) rfl
theorem selX2_cycles : Cond.selects RX2 yX2_cycles yX2_cycles ∈ aw_T := aw_in 1316 (by decide +kernel) rfl
abbrev MX2_division : aw_M := (yX2_division, cX2_division, 10, (some .int))
theorem codX2_division : Cond.code yX2_division cX2_division 10 (some .int) ∈ aw_T := aw_in 1283 (by decide +kernel) rfl
theorem insX2_division : Cond.instanceMethod yX2_division ∈ aw_T := aw_in 1282 (by decide +kernel) rfl
theorem selX2_division : Cond.selects RX2 yX2_division yX2_division ∈ aw_T := aw_in 73 (by decide +kernel) rfl
abbrev MX2_doBranch : aw_M := (yX2_doBranch, cX2_doBranch, 3, (some .int))
theorem codX2_doBranch : Cond.code yX2_doBranch cX2_doBranch 3 (some .int) ∈ aw_T := aw_in 1241 (by decide +kernel) rfl
theorem insX2_doBranch : Cond.instanceMethod yX2_doBranch ∈ aw_T := aw_in 1240 (by decide +kernel) rfl
theorem selX2_doBranch : Cond.selects RX2 yX2_doBranch yX2_doBranch ∈ aw_T := aw_in 66 (by decide +kernel) rfl
abbrev MX2_doJumpByRegister : aw_M := (yX2_doJumpByRegister, cX2_doJumpByRegister, 2, (some .int))
theorem codX2_doJumpByRegister : Cond.code yX2_doJumpByRegister cX2_doJumpByRegister 2 (some .int) ∈ aw_T := aw_in 1230 (by decide +kernel) rfl
theorem insX2_doJumpByRegister : Cond.instanceMethod yX2_doJumpByRegister ∈ aw_T := aw_in 1229 (by decide +kernel) rfl
theorem selX2_doJumpByRegister : Cond.selects RX2 yX2_doJumpByRegister yX2_doJumpByRegister ∈ aw_T := aw_in 64 (by decide +kernel) rfl
abbrev MX2_doLoad : aw_M := (yX2_doLoad, cX2_doLoad, 3, (some .int))
theorem codX2_doLoad : Cond.code yX2_doLoad cX2_doLoad 3 (some .int) ∈ aw_T := aw_in 1256 (by decide +kernel) rfl
theorem insX2_doLoad : Cond.instanceMethod yX2_doLoad ∈ aw_T := aw_in 1255 (by decide +kernel) rfl
theorem selX2_doLoad : Cond.selects RX2 yX2_doLoad yX2_doLoad ∈ aw_T := aw_in 68 (by decide +kernel) rfl
abbrev MX2_doOrder : aw_M := (yX2_doOrder, cX2_doOrder, 2, (some .int))
theorem codX2_doOrder : Cond.code yX2_doOrder cX2_doOrder 2 (some .int) ∈ aw_T := aw_in 1199 (by decide +kernel) rfl
theorem insX2_doOrder : Cond.instanceMethod yX2_doOrder ∈ aw_T := aw_in 1198 (by decide +kernel) rfl
theorem selX2_doOrder : Cond.selects RX2 yX2_doOrder yX2_doOrder ∈ aw_T := aw_in 58 (by decide +kernel) rfl
abbrev MX2_doStore : aw_M := (yX2_doStore, cX2_doStore, 3, (some .int))
theorem codX2_doStore : Cond.code yX2_doStore cX2_doStore 3 (some .int) ∈ aw_T := aw_in 1260 (by decide +kernel) rfl
theorem insX2_doStore : Cond.instanceMethod yX2_doStore ∈ aw_T := aw_in 1259 (by decide +kernel) rfl
theorem selX2_doStore : Cond.selects RX2 yX2_doStore yX2_doStore ∈ aw_T := aw_in 69 (by decide +kernel) rfl
abbrev MX2_doWithNumber : aw_M := (yX2_doWithNumber, cX2_doWithNumber, 6, (some .int))
theorem codX2_doWithNumber : Cond.code yX2_doWithNumber cX2_doWithNumber 6 (some .int) ∈ aw_T := aw_in 1267 (by decide +kernel) rfl
theorem insX2_doWithNumber : Cond.instanceMethod yX2_doWithNumber ∈ aw_T := aw_in 1266 (by decide +kernel) rfl
theorem selX2_doWithNumber : Cond.selects RX2 yX2_doWithNumber yX2_doWithNumber ∈ aw_T := aw_in 70 (by decide +kernel) rfl
abbrev MX2_doWithRegisters : aw_M := (yX2_doWithRegisters, cX2_doWithRegisters, 5, (some .int))
theorem codX2_doWithRegisters : Cond.code yX2_doWithRegisters cX2_doWithRegisters 5 (some .int) ∈ aw_T := aw_in 1274 (by decide +kernel) rfl
theorem insX2_doWithRegisters : Cond.instanceMethod yX2_doWithRegisters ∈ aw_T := aw_in 1273 (by decide +kernel) rfl
theorem selX2_doWithRegisters : Cond.selects RX2 yX2_doWithRegisters yX2_doWithRegisters ∈ aw_T := aw_in 71 (by decide +kernel) rfl
abbrev MX2_events : aw_M := (yX2_events, cX2_events, 1, (some .long))
theorem codX2_events : Cond.code yX2_events cX2_events 1 (some .long) ∈ aw_T := aw_in 1313 (by decide +kernel) rfl
theorem insX2_events : Cond.instanceMethod yX2_events ∈ aw_T := aw_in 1311 (by decide +kernel) rfl
theorem selX2_events : Cond.selects RX2 yX2_events yX2_events ∈ aw_T := aw_in 1312 (by decide +kernel) rfl
abbrev MX2_fetch : aw_M := (yX2_fetch, cX2_fetch, 2, (some .int))
theorem codX2_fetch : Cond.code yX2_fetch cX2_fetch 2 (some .int) ∈ aw_T := aw_in 1355 (by decide +kernel) rfl
theorem insX2_fetch : Cond.instanceMethod yX2_fetch ∈ aw_T := aw_in 1353 (by decide +kernel) rfl
theorem selX2_fetch : Cond.selects RX2 yX2_fetch yX2_fetch ∈ aw_T := aw_in 1354 (by decide +kernel) rfl
abbrev MX2_fill : aw_M := (yX2_fill, cX2_fill, 3, (some .boolean))
theorem codX2_fill : Cond.code yX2_fill cX2_fill 3 (some .boolean) ∈ aw_T := aw_in 1186 (by decide +kernel) rfl
theorem insX2_fill : Cond.instanceMethod yX2_fill ∈ aw_T := aw_in 1184 (by decide +kernel) rfl
theorem selX2_fill : Cond.selects RX2 yX2_fill yX2_fill ∈ aw_T := aw_in 1185 (by decide +kernel) rfl
abbrev MX2_holds : aw_M := (yX2_holds, cX2_holds, 3, (some .boolean))
theorem codX2_holds : Cond.code yX2_holds cX2_holds 3 (some .boolean) ∈ aw_T := aw_in 1248 (by decide +kernel) rfl
theorem sttX2_holds : Cond.static yX2_holds ∈ aw_T := aw_in 1247 (by decide +kernel) rfl
abbrev MX2_isPlace : aw_M := (yX2_isPlace, cX2_isPlace, 1, (some .boolean))
theorem codX2_isPlace : Cond.code yX2_isPlace cX2_isPlace 1 (some .boolean) ∈ aw_T := aw_in 940 (by decide +kernel) rfl
theorem sttX2_isPlace : Cond.static yX2_isPlace ∈ aw_T := aw_in 939 (by decide +kernel) rfl
abbrev MX2_join : aw_M := (yX2_join, cX2_join, 3, (some .int))
theorem codX2_join : Cond.code yX2_join cX2_join 3 (some .int) ∈ aw_T := aw_in 1270 (by decide +kernel) rfl
theorem sttX2_join : Cond.static yX2_join ∈ aw_T := aw_in 1269 (by decide +kernel) rfl
abbrev MX2_jump : aw_M := (yX2_jump, cX2_jump, 3, (some .int))
theorem codX2_jump : Cond.code yX2_jump cX2_jump 3 (some .int) ∈ aw_T := aw_in 1226 (by decide +kernel) rfl
theorem insX2_jump : Cond.instanceMethod yX2_jump ∈ aw_T := aw_in 1225 (by decide +kernel) rfl
theorem selX2_jump : Cond.selects RX2 yX2_jump yX2_jump ∈ aw_T := aw_in 63 (by decide +kernel) rfl
abbrev MX2_jumpDistance : aw_M := (yX2_jumpDistance, cX2_jumpDistance, 1, (some .int))
theorem codX2_jumpDistance : Cond.code yX2_jumpDistance cX2_jumpDistance 1 (some .int) ∈ aw_T := aw_in 1221 (by decide +kernel) rfl
theorem sttX2_jumpDistance : Cond.static yX2_jumpDistance ∈ aw_T := aw_in 1220 (by decide +kernel) rfl
abbrev MX2_left : aw_M := (yX2_left, cX2_left, 2, (some .int))
theorem codX2_left : Cond.code yX2_left cX2_left 2 (some .int) ∈ aw_T := aw_in 1237 (by decide +kernel) rfl
theorem insX2_left : Cond.instanceMethod yX2_left ∈ aw_T := aw_in 1236 (by decide +kernel) rfl
theorem selX2_left : Cond.selects RX2 yX2_left yX2_left ∈ aw_T := aw_in 65 (by decide +kernel) rfl
abbrev MX2_misses : aw_M := (yX2_misses, cX2_misses, 1, (some .int))
theorem codX2_misses : Cond.code yX2_misses cX2_misses 1 (some .int) ∈ aw_T := aw_in 1427 (by decide +kernel) rfl
theorem insX2_misses : Cond.instanceMethod yX2_misses ∈ aw_T := aw_in 1425 (by decide +kernel) rfl
theorem selX2_misses : Cond.selects RX2 yX2_misses yX2_misses ∈ aw_T := aw_in 1426 (by decide +kernel) rfl
abbrev MX2_note : aw_M := (yX2_note, cX2_note, 2, none)
theorem codX2_note : Cond.code yX2_note cX2_note 2 none ∈ aw_T := aw_in 1212 (by decide +kernel) rfl
theorem insX2_note : Cond.instanceMethod yX2_note ∈ aw_T := aw_in 1211 (by decide +kernel) rfl
theorem selX2_note : Cond.selects RX2 yX2_note yX2_note ∈ aw_T := aw_in 61 (by decide +kernel) rfl
abbrev MX2_ordersDone : aw_M := (yX2_ordersDone, cX2_ordersDone, 1, (some .int))
theorem codX2_ordersDone : Cond.code yX2_ordersDone cX2_ordersDone 1 (some .int) ∈ aw_T := aw_in 1422 (by decide +kernel) rfl
theorem insX2_ordersDone : Cond.instanceMethod yX2_ordersDone ∈ aw_T := aw_in 1420 (by decide +kernel) rfl
theorem selX2_ordersDone : Cond.selects RX2 yX2_ordersDone yX2_ordersDone ∈ aw_T := aw_in 1421 (by decide +kernel) rfl
abbrev MX2_pass : aw_M := (yX2_pass, cX2_pass, 3, (some .int))
theorem codX2_pass : Cond.code yX2_pass cX2_pass 3 (some .int) ∈ aw_T := aw_in 1217 (by decide +kernel) rfl
theorem insX2_pass : Cond.instanceMethod yX2_pass ∈ aw_T := aw_in 1216 (by decide +kernel) rfl
theorem selX2_pass : Cond.selects RX2 yX2_pass yX2_pass ∈ aw_T := aw_in 62 (by decide +kernel) rfl
abbrev MX2_place : aw_M := (yX2_place, cX2_place, 1, (some .int))
theorem codX2_place : Cond.code yX2_place cX2_place 1 (some .int) ∈ aw_T := aw_in 1418 (by decide +kernel) rfl
theorem insX2_place : Cond.instanceMethod yX2_place ∈ aw_T := aw_in 1416 (by decide +kernel) rfl
theorem selX2_place : Cond.selects RX2 yX2_place yX2_place ∈ aw_T := aw_in 1417 (by decide +kernel) rfl
abbrev MX2_product : aw_M := (yX2_product, cX2_product, 4, (some .int))
theorem codX2_product : Cond.code yX2_product cX2_product 4 (some .int) ∈ aw_T := aw_in 1278 (by decide +kernel) rfl
theorem insX2_product : Cond.instanceMethod yX2_product ∈ aw_T := aw_in 1277 (by decide +kernel) rfl
theorem selX2_product : Cond.selects RX2 yX2_product yX2_product ∈ aw_T := aw_in 72 (by decide +kernel) rfl
abbrev MX2_reach : aw_M := (yX2_reach, cX2_reach, 4, none)
theorem codX2_reach : Cond.code yX2_reach cX2_reach 4 none ∈ aw_T := aw_in 1207 (by decide +kernel) rfl
theorem insX2_reach : Cond.instanceMethod yX2_reach ∈ aw_T := aw_in 1206 (by decide +kernel) rfl
theorem selX2_reach : Cond.selects RX2 yX2_reach yX2_reach ∈ aw_T := aw_in 60 (by decide +kernel) rfl
abbrev MX2_register : aw_M := (yX2_register, cX2_register, 2, (some .int))
theorem codX2_register : Cond.code yX2_register cX2_register 2 (some .int) ∈ aw_T := aw_in 1288 (by decide +kernel) rfl
theorem insX2_register : Cond.instanceMethod yX2_register ∈ aw_T := aw_in 1286 (by decide +kernel) rfl
theorem selX2_register : Cond.selects RX2 yX2_register yX2_register ∈ aw_T := aw_in 1287 (by decide +kernel) rfl
abbrev MX2_right : aw_M := (yX2_right, cX2_right, 2, (some .int))
theorem codX2_right : Cond.code yX2_right cX2_right 2 (some .int) ∈ aw_T := aw_in 1245 (by decide +kernel) rfl
theorem insX2_right : Cond.instanceMethod yX2_right ∈ aw_T := aw_in 1244 (by decide +kernel) rfl
theorem selX2_right : Cond.selects RX2 yX2_right yX2_right ∈ aw_T := aw_in 67 (by decide +kernel) rfl
abbrev MX2_store : aw_M := (yX2_store, cX2_store, 3, (some .boolean))
theorem codX2_store : Cond.code yX2_store cX2_store 3 (some .boolean) ∈ aw_T := aw_in 937 (by decide +kernel) rfl
theorem insX2_store : Cond.instanceMethod yX2_store ∈ aw_T := aw_in 935 (by decide +kernel) rfl
theorem selX2_store : Cond.selects RX2 yX2_store yX2_store ∈ aw_T := aw_in 936 (by decide +kernel) rfl
abbrev MX2_storeDistance : aw_M := (yX2_storeDistance, cX2_storeDistance, 1, (some .int))
theorem codX2_storeDistance : Cond.code yX2_storeDistance cX2_storeDistance 1 (some .int) ∈ aw_T := aw_in 1263 (by decide +kernel) rfl
theorem sttX2_storeDistance : Cond.static yX2_storeDistance ∈ aw_T := aw_in 1262 (by decide +kernel) rfl
abbrev MX2_third : aw_M := (yX2_third, cX2_third, 1, (some .int))
theorem codX2_third : Cond.code yX2_third cX2_third 1 (some .int) ∈ aw_T := aw_in 1233 (by decide +kernel) rfl
theorem sttX2_third : Cond.static yX2_third ∈ aw_T := aw_in 1232 (by decide +kernel) rfl
abbrev MX2_wipe : aw_M := (yX2_wipe, cX2_wipe, 3, none)
theorem codX2_wipe : Cond.code yX2_wipe cX2_wipe 3 none ∈ aw_T := aw_in 922 (by decide +kernel) rfl
theorem insX2_wipe : Cond.instanceMethod yX2_wipe ∈ aw_T := aw_in 920 (by decide +kernel) rfl
theorem selX2_wipe : Cond.selects RX2 yX2_wipe yX2_wipe ∈ aw_T := aw_in 921 (by decide +kernel) rfl
abbrev MX2_work : aw_M := (yX2_work, cX2_work, 4, (some .int))
theorem codX2_work : Cond.code yX2_work cX2_work 4 (some .int) ∈ aw_T := aw_in 1195 (by decide +kernel) rfl
theorem insX2_work : Cond.instanceMethod yX2_work ∈ aw_T := aw_in 1193 (by decide +kernel) rfl
theorem selX2_work : Cond.selects RX2 yX2_work yX2_work ∈ aw_T := aw_in 1194 (by decide +kernel) rfl
theorem hX2_w : ∀ w ∈ u_ws RX2 TX2 8, w ∈ aw_T := by
  show ∀ w ∈ [u_lay RX2 TX2 0, u_lay RX2 TX2 1, u_lay RX2 TX2 2, u_lay RX2 TX2 3, u_lay RX2 TX2 4, u_lay RX2 TX2 5, u_lay RX2 TX2 6, u_lay RX2 TX2 7], w ∈ aw_T
  exact List.forall_mem_cons.mpr ⟨aw_in 204 (by decide +kernel) rfl, List.forall_mem_cons.mpr ⟨aw_in 206 (by decide +kernel) rfl, List.forall_mem_cons.mpr ⟨aw_in 208 (by decide +kernel) rfl, List.forall_mem_cons.mpr ⟨aw_in 210 (by decide +kernel) rfl, List.forall_mem_cons.mpr ⟨aw_in 212 (by decide +kernel) rfl, List.forall_mem_cons.mpr ⟨aw_in 214 (by decide +kernel) rfl, List.forall_mem_cons.mpr ⟨aw_in 216 (by decide +kernel) rfl, List.forall_mem_cons.mpr ⟨aw_in 218 (by decide +kernel) rfl, fun _ h => absurd h List.not_mem_nil⟩⟩⟩⟩⟩⟩⟩⟩
theorem hX2 : aw_C 2 RX2 TX2 8 tyX2 := ⟨rfl, hX2_w, tyX2_ok, nmX2⟩
theorem fX2_13 : aw_F RX2 13 2 1 (.array .int) true := aw_F.of hX2 1 (by decide) (aw_in 197 (by decide +kernel) rfl) rfl rfl rfl
theorem fX2_16 : aw_F RX2 16 2 2 (.array .int) true := aw_F.of hX2 2 (by decide) (aw_in 198 (by decide +kernel) rfl) rfl rfl rfl
theorem fX2_19 : aw_F RX2 19 2 3 .int false := aw_F.of hX2 3 (by decide) (aw_in 199 (by decide +kernel) rfl) rfl rfl rfl
theorem fX2_23 : aw_F RX2 23 2 4 .int false := aw_F.of hX2 4 (by decide) (aw_in 200 (by decide +kernel) rfl) rfl rfl rfl
theorem fX2_26 : aw_F RX2 26 2 5 .long false := aw_F.of hX2 5 (by decide) (aw_in 201 (by decide +kernel) rfl) rfl rfl rfl
theorem fX2_30 : aw_F RX2 30 2 6 .int false := aw_F.of hX2 6 (by decide) (aw_in 202 (by decide +kernel) rfl) rfl rfl rfl
theorem fX2_33 : aw_F RX2 33 2 7 .long false := aw_F.of hX2 7 (by decide) (aw_in 203 (by decide +kernel) rfl) rfl rfl rfl
theorem fX2_9 : aw_F RX2 9 2 0 (.array .int) true := aw_F.of hX2 0 (by decide) (aw_in 196 (by decide +kernel) rfl) rfl rfl rfl
theorem oX2_96 : Cond.constant RX2 96 (1044480 : Int32) ∈ aw_T := aw_in 1222 (by decide +kernel) rfl
theorem oX2_113 : Cond.constantLong RX2 113 (4294967295 : Int64) ∈ aw_T := aw_in 1249 (by decide +kernel) rfl
theorem oX2_128 : Cond.constantLong RX2 128 (3 : Int64) ∈ aw_T := aw_in 1279 (by decide +kernel) rfl
theorem oX2_130 : Cond.constantLong RX2 130 (32 : Int64) ∈ aw_T := aw_in 1284 (by decide +kernel) rfl
theorem oX2_86 : Cond.constantLong RX2 86 (20 : Int64) ∈ aw_T := aw_in 1208 (by decide +kernel) rfl
theorem oX2_91 : Cond.constantLong RX2 91 (6364136223846793005 : Int64) ∈ aw_T := aw_in 1213 (by decide +kernel) rfl
theorem lX2_100 : aw_L RX2 100 MX2_left 1 := ⟨aw_in 1234 (by decide +kernel) rfl, iniX2, codX2_left, ⟨by decide, by decide, by decide +kernel⟩, by decide⟩
theorem lX2_103 : aw_L RX2 103 MX2_right 1 := ⟨aw_in 1242 (by decide +kernel) rfl, iniX2, codX2_right, ⟨by decide, by decide, by decide +kernel⟩, by decide⟩
theorem lX2_106 : aw_L RX2 106 MX2_holds 3 := ⟨aw_in 1246 (by decide +kernel) rfl, iniX2, codX2_holds, ⟨by decide, by decide, by decide +kernel⟩, by decide⟩
theorem lX2_110 : aw_L RX2 110 MX2_branchDistance 1 := ⟨aw_in 1250 (by decide +kernel) rfl, iniX2, codX2_branchDistance, ⟨by decide, by decide, by decide +kernel⟩, by decide⟩
theorem lX2_115 : aw_L RX2 115 MX2_storeDistance 1 := ⟨aw_in 1261 (by decide +kernel) rfl, iniX2, codX2_storeDistance, ⟨by decide, by decide, by decide +kernel⟩, by decide⟩
theorem lX2_118 : aw_L RX2 118 MX2_join 3 := ⟨aw_in 1268 (by decide +kernel) rfl, iniX2, codX2_join, ⟨by decide, by decide, by decide +kernel⟩, by decide⟩
theorem lX2_122 : aw_L RX2 122 MX2_product 3 := ⟨aw_in 1275 (by decide +kernel) rfl, iniX2, codX2_product, ⟨by decide, by decide, by decide +kernel⟩, by decide⟩
theorem lX2_125 : aw_L RX2 125 MX2_division 3 := ⟨aw_in 1280 (by decide +kernel) rfl, iniX2, codX2_division, ⟨by decide, by decide, by decide +kernel⟩, by decide⟩
theorem lX2_36 : aw_L RX2 36 MX2_isPlace 1 := ⟨aw_in 938 (by decide +kernel) rfl, iniX2, codX2_isPlace, ⟨by decide, by decide, by decide +kernel⟩, by decide⟩
theorem lX2_40 : aw_L RX2 40 MJ7_fill_53178 2 := ⟨aw_in 923 (by decide +kernel) rfl, iniJ7, codJ7_fill_53178, ⟨by decide, by decide, by decide +kernel⟩, by decide⟩
theorem lX2_46 : aw_L RX2 46 MX2_doOrder 0 := ⟨aw_in 1196 (by decide +kernel) rfl, iniX2, codX2_doOrder, ⟨by decide, by decide, by decide +kernel⟩, by decide⟩
theorem lX2_50 : aw_L RX2 50 MX2_begin 0 := ⟨aw_in 1200 (by decide +kernel) rfl, iniX2, codX2_begin, ⟨by decide, by decide, by decide +kernel⟩, by decide⟩
theorem lX2_53 : aw_L RX2 53 MX2_pass 2 := ⟨aw_in 1214 (by decide +kernel) rfl, iniX2, codX2_pass, ⟨by decide, by decide, by decide +kernel⟩, by decide⟩
theorem lX2_57 : aw_L RX2 57 MX2_jumpDistance 1 := ⟨aw_in 1219 (by decide +kernel) rfl, iniX2, codX2_jumpDistance, ⟨by decide, by decide, by decide +kernel⟩, by decide⟩
theorem lX2_61 : aw_L RX2 61 MX2_jump 2 := ⟨aw_in 1223 (by decide +kernel) rfl, iniX2, codX2_jump, ⟨by decide, by decide, by decide +kernel⟩, by decide⟩
theorem lX2_64 : aw_L RX2 64 MX2_doJumpByRegister 1 := ⟨aw_in 1227 (by decide +kernel) rfl, iniX2, codX2_doJumpByRegister, ⟨by decide, by decide, by decide +kernel⟩, by decide⟩
theorem lX2_67 : aw_L RX2 67 MX2_doBranch 1 := ⟨aw_in 1238 (by decide +kernel) rfl, iniX2, codX2_doBranch, ⟨by decide, by decide, by decide +kernel⟩, by decide⟩
theorem lX2_70 : aw_L RX2 70 MX2_doLoad 1 := ⟨aw_in 1253 (by decide +kernel) rfl, iniX2, codX2_doLoad, ⟨by decide, by decide, by decide +kernel⟩, by decide⟩
theorem lX2_73 : aw_L RX2 73 MX2_doStore 1 := ⟨aw_in 1257 (by decide +kernel) rfl, iniX2, codX2_doStore, ⟨by decide, by decide, by decide +kernel⟩, by decide⟩
theorem lX2_76 : aw_L RX2 76 MX2_doWithNumber 1 := ⟨aw_in 1264 (by decide +kernel) rfl, iniX2, codX2_doWithNumber, ⟨by decide, by decide, by decide +kernel⟩, by decide⟩
theorem lX2_79 : aw_L RX2 79 MX2_doWithRegisters 1 := ⟨aw_in 1271 (by decide +kernel) rfl, iniX2, codX2_doWithRegisters, ⟨by decide, by decide, by decide +kernel⟩, by decide⟩
theorem lX2_82 : aw_L RX2 82 MX2_reach 1 := ⟨aw_in 1204 (by decide +kernel) rfl, iniX2, codX2_reach, ⟨by decide, by decide, by decide +kernel⟩, by decide⟩
theorem lX2_88 : aw_L RX2 88 MX2_note 1 := ⟨aw_in 1209 (by decide +kernel) rfl, iniX2, codX2_note, ⟨by decide, by decide, by decide +kernel⟩, by decide⟩
theorem lX2_93 : aw_L RX2 93 MX2_fill 2 := ⟨aw_in 1218 (by decide +kernel) rfl, iniX2, codX2_fill, ⟨by decide, by decide, by decide +kernel⟩, by decide⟩
theorem lX2_97 : aw_L RX2 97 MX2_third 1 := ⟨aw_in 1231 (by decide +kernel) rfl, iniX2, codX2_third, ⟨by decide, by decide, by decide +kernel⟩, by decide⟩
