theorem dX5_call_0 : decode cX5_call 0 = .ok (.bipush 115, 2) := by decide +kernel
theorem dX5_call_2 : decode cX5_call 2 = .ok (.ireturn, 1) := by decide +kernel
theorem dX5_upper_0 : decode cX5_upper 0 = .ok (.iload_n 1, 1) := by decide +kernel
theorem dX5_upper_1 : decode cX5_upper 1 = .ok (.sipush (-4096), 3) := by decide +kernel
theorem dX5_upper_4 : decode cX5_upper 4 = .ok (.iand, 1) := by decide +kernel
theorem dX5_upper_5 : decode cX5_upper 5 = .ok (.iload_n 0, 1) := by decide +kernel
theorem dX5_upper_6 : decode cX5_upper 6 = .ok (.bipush 7, 2) := by decide +kernel
theorem dX5_upper_8 : decode cX5_upper 8 = .ok (.ishl, 1) := by decide +kernel
theorem dX5_upper_9 : decode cX5_upper 9 = .ok (.ior, 1) := by decide +kernel
theorem dX5_upper_10 : decode cX5_upper 10 = .ok (.bipush 55, 2) := by decide +kernel
theorem dX5_upper_12 : decode cX5_upper 12 = .ok (.ior, 1) := by decide +kernel
theorem dX5_upper_13 : decode cX5_upper 13 = .ok (.ireturn, 1) := by decide +kernel
theorem dX5_add_0 : decode cX5_add 0 = .ok (.iconst 0, 1) := by decide +kernel
theorem dX5_add_1 : decode cX5_add 1 = .ok (.iload_n 0, 1) := by decide +kernel
theorem dX5_add_2 : decode cX5_add 2 = .ok (.iload_n 1, 1) := by decide +kernel
theorem dX5_add_3 : decode cX5_add 3 = .ok (.iload_n 2, 1) := by decide +kernel
theorem dX5_add_4 : decode cX5_add 4 = .ok (.invokestatic 7, 3) := by decide +kernel
theorem dX5_add_7 : decode cX5_add 7 = .ok (.ireturn, 1) := by decide +kernel
theorem dX5_shiftLeft_0 : decode cX5_shiftLeft 0 = .ok (.iconst 1, 1) := by decide +kernel
theorem dX5_shiftLeft_1 : decode cX5_shiftLeft 1 = .ok (.iload_n 0, 1) := by decide +kernel
theorem dX5_shiftLeft_2 : decode cX5_shiftLeft 2 = .ok (.iload_n 1, 1) := by decide +kernel
theorem dX5_shiftLeft_3 : decode cX5_shiftLeft 3 = .ok (.iload_n 2, 1) := by decide +kernel
theorem dX5_shiftLeft_4 : decode cX5_shiftLeft 4 = .ok (.invokestatic 7, 3) := by decide +kernel
theorem dX5_shiftLeft_7 : decode cX5_shiftLeft 7 = .ok (.ireturn, 1) := by decide +kernel
theorem dX5_isBelow_0 : decode cX5_isBelow 0 = .ok (.iconst 3, 1) := by decide +kernel
theorem dX5_isBelow_1 : decode cX5_isBelow 1 = .ok (.iload_n 0, 1) := by decide +kernel
theorem dX5_isBelow_2 : decode cX5_isBelow 2 = .ok (.iload_n 1, 1) := by decide +kernel
theorem dX5_isBelow_3 : decode cX5_isBelow 3 = .ok (.iload_n 2, 1) := by decide +kernel
theorem dX5_isBelow_4 : decode cX5_isBelow 4 = .ok (.invokestatic 7, 3) := by decide +kernel
theorem dX5_isBelow_7 : decode cX5_isBelow 7 = .ok (.ireturn, 1) := by decide +kernel
theorem dX5_turn_0 : decode cX5_turn 0 = .ok (.iconst 4, 1) := by decide +kernel
theorem dX5_turn_1 : decode cX5_turn 1 = .ok (.iload_n 0, 1) := by decide +kernel
theorem dX5_turn_2 : decode cX5_turn 2 = .ok (.iload_n 1, 1) := by decide +kernel
theorem dX5_turn_3 : decode cX5_turn 3 = .ok (.iload_n 2, 1) := by decide +kernel
theorem dX5_turn_4 : decode cX5_turn 4 = .ok (.invokestatic 7, 3) := by decide +kernel
theorem dX5_turn_7 : decode cX5_turn 7 = .ok (.ireturn, 1) := by decide +kernel
theorem dX5_withNumber_0 : decode cX5_withNumber 0 = .ok (.iload_n 3, 1) := by decide +kernel
theorem dX5_withNumber_1 : decode cX5_withNumber 1 = .ok (.bipush 20, 2) := by decide +kernel
theorem dX5_withNumber_3 : decode cX5_withNumber 3 = .ok (.ishl, 1) := by decide +kernel
theorem dX5_withNumber_4 : decode cX5_withNumber 4 = .ok (.iload_n 2, 1) := by decide +kernel
theorem dX5_withNumber_5 : decode cX5_withNumber 5 = .ok (.bipush 15, 2) := by decide +kernel
theorem dX5_withNumber_7 : decode cX5_withNumber 7 = .ok (.ishl, 1) := by decide +kernel
theorem dX5_withNumber_8 : decode cX5_withNumber 8 = .ok (.ior, 1) := by decide +kernel
theorem dX5_withNumber_9 : decode cX5_withNumber 9 = .ok (.iload_n 0, 1) := by decide +kernel
theorem dX5_withNumber_10 : decode cX5_withNumber 10 = .ok (.bipush 12, 2) := by decide +kernel
theorem dX5_withNumber_12 : decode cX5_withNumber 12 = .ok (.ishl, 1) := by decide +kernel
theorem dX5_withNumber_13 : decode cX5_withNumber 13 = .ok (.ior, 1) := by decide +kernel
theorem dX5_withNumber_14 : decode cX5_withNumber 14 = .ok (.iload_n 1, 1) := by decide +kernel
theorem dX5_withNumber_15 : decode cX5_withNumber 15 = .ok (.bipush 7, 2) := by decide +kernel
theorem dX5_withNumber_17 : decode cX5_withNumber 17 = .ok (.ishl, 1) := by decide +kernel
theorem dX5_withNumber_18 : decode cX5_withNumber 18 = .ok (.ior, 1) := by decide +kernel
theorem dX5_withNumber_19 : decode cX5_withNumber 19 = .ok (.bipush 19, 2) := by decide +kernel
theorem dX5_withNumber_21 : decode cX5_withNumber 21 = .ok (.ior, 1) := by decide +kernel
theorem dX5_withNumber_22 : decode cX5_withNumber 22 = .ok (.ireturn, 1) := by decide +kernel
theorem dX5_fromMemory_0 : decode cX5_fromMemory 0 = .ok (.iload_n 2, 1) := by decide +kernel
theorem dX5_fromMemory_1 : decode cX5_fromMemory 1 = .ok (.bipush 20, 2) := by decide +kernel
theorem dX5_fromMemory_3 : decode cX5_fromMemory 3 = .ok (.ishl, 1) := by decide +kernel
theorem dX5_fromMemory_4 : decode cX5_fromMemory 4 = .ok (.iload_n 1, 1) := by decide +kernel
theorem dX5_fromMemory_5 : decode cX5_fromMemory 5 = .ok (.bipush 15, 2) := by decide +kernel
theorem dX5_fromMemory_7 : decode cX5_fromMemory 7 = .ok (.ishl, 1) := by decide +kernel
theorem dX5_fromMemory_8 : decode cX5_fromMemory 8 = .ok (.ior, 1) := by decide +kernel
theorem dX5_fromMemory_9 : decode cX5_fromMemory 9 = .ok (.sipush 8192, 3) := by decide +kernel
theorem dX5_fromMemory_12 : decode cX5_fromMemory 12 = .ok (.ior, 1) := by decide +kernel
theorem dX5_fromMemory_13 : decode cX5_fromMemory 13 = .ok (.iload_n 0, 1) := by decide +kernel
theorem dX5_fromMemory_14 : decode cX5_fromMemory 14 = .ok (.bipush 7, 2) := by decide +kernel
theorem dX5_fromMemory_16 : decode cX5_fromMemory 16 = .ok (.ishl, 1) := by decide +kernel
theorem dX5_fromMemory_17 : decode cX5_fromMemory 17 = .ok (.ior, 1) := by decide +kernel
theorem dX5_fromMemory_18 : decode cX5_fromMemory 18 = .ok (.iconst 3, 1) := by decide +kernel
theorem dX5_fromMemory_19 : decode cX5_fromMemory 19 = .ok (.ior, 1) := by decide +kernel
theorem dX5_fromMemory_20 : decode cX5_fromMemory 20 = .ok (.ireturn, 1) := by decide +kernel
theorem dX5_toMemory_0 : decode cX5_toMemory 0 = .ok (.iload_n 2, 1) := by decide +kernel
theorem dX5_toMemory_1 : decode cX5_toMemory 1 = .ok (.iconst 5, 1) := by decide +kernel
theorem dX5_toMemory_2 : decode cX5_toMemory 2 = .ok (.ishr, 1) := by decide +kernel
theorem dX5_toMemory_3 : decode cX5_toMemory 3 = .ok (.bipush 25, 2) := by decide +kernel
theorem dX5_toMemory_5 : decode cX5_toMemory 5 = .ok (.ishl, 1) := by decide +kernel
theorem dX5_toMemory_6 : decode cX5_toMemory 6 = .ok (.iload_n 0, 1) := by decide +kernel
theorem dX5_toMemory_7 : decode cX5_toMemory 7 = .ok (.bipush 20, 2) := by decide +kernel
theorem dX5_toMemory_9 : decode cX5_toMemory 9 = .ok (.ishl, 1) := by decide +kernel
theorem dX5_toMemory_10 : decode cX5_toMemory 10 = .ok (.ior, 1) := by decide +kernel
theorem dX5_toMemory_11 : decode cX5_toMemory 11 = .ok (.iload_n 1, 1) := by decide +kernel
theorem dX5_toMemory_12 : decode cX5_toMemory 12 = .ok (.bipush 15, 2) := by decide +kernel
theorem dX5_toMemory_14 : decode cX5_toMemory 14 = .ok (.ishl, 1) := by decide +kernel
theorem dX5_toMemory_15 : decode cX5_toMemory 15 = .ok (.ior, 1) := by decide +kernel
theorem dX5_toMemory_16 : decode cX5_toMemory 16 = .ok (.sipush 8192, 3) := by decide +kernel
theorem dX5_toMemory_19 : decode cX5_toMemory 19 = .ok (.ior, 1) := by decide +kernel
theorem dX5_toMemory_20 : decode cX5_toMemory 20 = .ok (.iload_n 2, 1) := by decide +kernel
theorem dX5_toMemory_21 : decode cX5_toMemory 21 = .ok (.bipush 31, 2) := by decide +kernel
theorem dX5_toMemory_23 : decode cX5_toMemory 23 = .ok (.iand, 1) := by decide +kernel
theorem dX5_toMemory_24 : decode cX5_toMemory 24 = .ok (.bipush 7, 2) := by decide +kernel
theorem dX5_toMemory_26 : decode cX5_toMemory 26 = .ok (.ishl, 1) := by decide +kernel
theorem dX5_toMemory_27 : decode cX5_toMemory 27 = .ok (.ior, 1) := by decide +kernel
theorem dX5_toMemory_28 : decode cX5_toMemory 28 = .ok (.bipush 35, 2) := by decide +kernel
theorem dX5_toMemory_30 : decode cX5_toMemory 30 = .ok (.ior, 1) := by decide +kernel
theorem dX5_toMemory_31 : decode cX5_toMemory 31 = .ok (.ireturn, 1) := by decide +kernel
theorem dX5_jump_0 : decode cX5_jump 0 = .ok (.iload_n 1, 1) := by decide +kernel
theorem dX5_jump_1 : decode cX5_jump 1 = .ok (.bipush 20, 2) := by decide +kernel
theorem dX5_jump_3 : decode cX5_jump 3 = .ok (.ishr, 1) := by decide +kernel
theorem dX5_jump_4 : decode cX5_jump 4 = .ok (.iconst 1, 1) := by decide +kernel
theorem dX5_jump_5 : decode cX5_jump 5 = .ok (.iand, 1) := by decide +kernel
theorem dX5_jump_6 : decode cX5_jump 6 = .ok (.bipush 31, 2) := by decide +kernel
theorem dX5_jump_8 : decode cX5_jump 8 = .ok (.ishl, 1) := by decide +kernel
theorem dX5_jump_9 : decode cX5_jump 9 = .ok (.iload_n 1, 1) := by decide +kernel
theorem dX5_jump_10 : decode cX5_jump 10 = .ok (.iconst 1, 1) := by decide +kernel
theorem dX5_jump_11 : decode cX5_jump 11 = .ok (.ishr, 1) := by decide +kernel
theorem dX5_jump_12 : decode cX5_jump 12 = .ok (.sipush 1023, 3) := by decide +kernel
theorem dX5_jump_15 : decode cX5_jump 15 = .ok (.iand, 1) := by decide +kernel
theorem dX5_jump_16 : decode cX5_jump 16 = .ok (.bipush 21, 2) := by decide +kernel
theorem dX5_jump_18 : decode cX5_jump 18 = .ok (.ishl, 1) := by decide +kernel
theorem dX5_jump_19 : decode cX5_jump 19 = .ok (.ior, 1) := by decide +kernel
theorem dX5_jump_20 : decode cX5_jump 20 = .ok (.iload_n 1, 1) := by decide +kernel
theorem dX5_jump_21 : decode cX5_jump 21 = .ok (.bipush 11, 2) := by decide +kernel
theorem dX5_jump_23 : decode cX5_jump 23 = .ok (.ishr, 1) := by decide +kernel
theorem dX5_jump_24 : decode cX5_jump 24 = .ok (.iconst 1, 1) := by decide +kernel
theorem dX5_jump_25 : decode cX5_jump 25 = .ok (.iand, 1) := by decide +kernel
theorem dX5_jump_26 : decode cX5_jump 26 = .ok (.bipush 20, 2) := by decide +kernel
theorem dX5_jump_28 : decode cX5_jump 28 = .ok (.ishl, 1) := by decide +kernel
theorem dX5_jump_29 : decode cX5_jump 29 = .ok (.ior, 1) := by decide +kernel
theorem dX5_jump_30 : decode cX5_jump 30 = .ok (.iload_n 1, 1) := by decide +kernel
theorem dX5_jump_31 : decode cX5_jump 31 = .ok (.bipush 12, 2) := by decide +kernel
theorem dX5_jump_33 : decode cX5_jump 33 = .ok (.ishr, 1) := by decide +kernel
theorem dX5_jump_34 : decode cX5_jump 34 = .ok (.sipush 255, 3) := by decide +kernel
theorem dX5_jump_37 : decode cX5_jump 37 = .ok (.iand, 1) := by decide +kernel
theorem dX5_jump_38 : decode cX5_jump 38 = .ok (.bipush 12, 2) := by decide +kernel
theorem dX5_jump_40 : decode cX5_jump 40 = .ok (.ishl, 1) := by decide +kernel
theorem dX5_jump_41 : decode cX5_jump 41 = .ok (.ior, 1) := by decide +kernel
theorem dX5_jump_42 : decode cX5_jump 42 = .ok (.istore_n 2, 1) := by decide +kernel
theorem dX5_jump_43 : decode cX5_jump 43 = .ok (.iload_n 2, 1) := by decide +kernel
theorem dX5_jump_44 : decode cX5_jump 44 = .ok (.iload_n 0, 1) := by decide +kernel
theorem dX5_jump_45 : decode cX5_jump 45 = .ok (.bipush 7, 2) := by decide +kernel
theorem dX5_jump_47 : decode cX5_jump 47 = .ok (.ishl, 1) := by decide +kernel
theorem dX5_jump_48 : decode cX5_jump 48 = .ok (.ior, 1) := by decide +kernel
theorem dX5_jump_49 : decode cX5_jump 49 = .ok (.bipush 111, 2) := by decide +kernel
theorem dX5_jump_51 : decode cX5_jump 51 = .ok (.ior, 1) := by decide +kernel
theorem dX5_jump_52 : decode cX5_jump 52 = .ok (.ireturn, 1) := by decide +kernel
theorem dX5_jumpByRegister_0 : decode cX5_jumpByRegister 0 = .ok (.iload_n 1, 1) := by decide +kernel
theorem dX5_jumpByRegister_1 : decode cX5_jumpByRegister 1 = .ok (.bipush 15, 2) := by decide +kernel
theorem dX5_jumpByRegister_3 : decode cX5_jumpByRegister 3 = .ok (.ishl, 1) := by decide +kernel
theorem dX5_jumpByRegister_4 : decode cX5_jumpByRegister 4 = .ok (.iload_n 0, 1) := by decide +kernel
theorem dX5_jumpByRegister_5 : decode cX5_jumpByRegister 5 = .ok (.bipush 7, 2) := by decide +kernel
theorem dX5_jumpByRegister_7 : decode cX5_jumpByRegister 7 = .ok (.ishl, 1) := by decide +kernel
theorem dX5_jumpByRegister_8 : decode cX5_jumpByRegister 8 = .ok (.ior, 1) := by decide +kernel
theorem dX5_jumpByRegister_9 : decode cX5_jumpByRegister 9 = .ok (.bipush 103, 2) := by decide +kernel
theorem dX5_jumpByRegister_11 : decode cX5_jumpByRegister 11 = .ok (.ior, 1) := by decide +kernel
theorem dX5_jumpByRegister_12 : decode cX5_jumpByRegister 12 = .ok (.ireturn, 1) := by decide +kernel
theorem dX5_branchIfEqual_0 : decode cX5_branchIfEqual 0 = .ok (.iconst 0, 1) := by decide +kernel
theorem dX5_branchIfEqual_1 : decode cX5_branchIfEqual 1 = .ok (.iload_n 0, 1) := by decide +kernel
theorem dX5_branchIfEqual_2 : decode cX5_branchIfEqual 2 = .ok (.iload_n 1, 1) := by decide +kernel
theorem dX5_branchIfEqual_3 : decode cX5_branchIfEqual 3 = .ok (.iload_n 2, 1) := by decide +kernel
theorem dX5_branchIfEqual_4 : decode cX5_branchIfEqual 4 = .ok (.invokestatic 13, 3) := by decide +kernel
theorem dX5_branchIfEqual_7 : decode cX5_branchIfEqual 7 = .ok (.ireturn, 1) := by decide +kernel
theorem dX5_branchIfNotEqual_0 : decode cX5_branchIfNotEqual 0 = .ok (.iconst 1, 1) := by decide +kernel
theorem dX5_branchIfNotEqual_1 : decode cX5_branchIfNotEqual 1 = .ok (.iload_n 0, 1) := by decide +kernel
theorem dX5_branchIfNotEqual_2 : decode cX5_branchIfNotEqual 2 = .ok (.iload_n 1, 1) := by decide +kernel
theorem dX5_branchIfNotEqual_3 : decode cX5_branchIfNotEqual 3 = .ok (.iload_n 2, 1) := by decide +kernel
theorem dX5_branchIfNotEqual_4 : decode cX5_branchIfNotEqual 4 = .ok (.invokestatic 13, 3) := by decide +kernel
theorem dX5_branchIfNotEqual_7 : decode cX5_branchIfNotEqual 7 = .ok (.ireturn, 1) := by decide +kernel
theorem dX5_branch_0 : decode cX5_branch 0 = .ok (.iload_n 3, 1) := by decide +kernel
theorem dX5_branch_1 : decode cX5_branch 1 = .ok (.bipush 12, 2) := by decide +kernel
theorem dX5_branch_3 : decode cX5_branch 3 = .ok (.ishr, 1) := by decide +kernel
theorem dX5_branch_4 : decode cX5_branch 4 = .ok (.iconst 1, 1) := by decide +kernel
theorem dX5_branch_5 : decode cX5_branch 5 = .ok (.iand, 1) := by decide +kernel
theorem dX5_branch_6 : decode cX5_branch 6 = .ok (.bipush 31, 2) := by decide +kernel
theorem dX5_branch_8 : decode cX5_branch 8 = .ok (.ishl, 1) := by decide +kernel
theorem dX5_branch_9 : decode cX5_branch 9 = .ok (.iload_n 3, 1) := by decide +kernel
theorem dX5_branch_10 : decode cX5_branch 10 = .ok (.iconst 5, 1) := by decide +kernel
theorem dX5_branch_11 : decode cX5_branch 11 = .ok (.ishr, 1) := by decide +kernel
theorem dX5_branch_12 : decode cX5_branch 12 = .ok (.bipush 63, 2) := by decide +kernel
theorem dX5_branch_14 : decode cX5_branch 14 = .ok (.iand, 1) := by decide +kernel
theorem dX5_branch_15 : decode cX5_branch 15 = .ok (.bipush 25, 2) := by decide +kernel
theorem dX5_branch_17 : decode cX5_branch 17 = .ok (.ishl, 1) := by decide +kernel
theorem dX5_branch_18 : decode cX5_branch 18 = .ok (.ior, 1) := by decide +kernel
theorem dX5_branch_19 : decode cX5_branch 19 = .ok (.iload_n 3, 1) := by decide +kernel
theorem dX5_branch_20 : decode cX5_branch 20 = .ok (.iconst 1, 1) := by decide +kernel
theorem dX5_branch_21 : decode cX5_branch 21 = .ok (.ishr, 1) := by decide +kernel
theorem dX5_branch_22 : decode cX5_branch 22 = .ok (.bipush 15, 2) := by decide +kernel
theorem dX5_branch_24 : decode cX5_branch 24 = .ok (.iand, 1) := by decide +kernel
theorem dX5_branch_25 : decode cX5_branch 25 = .ok (.bipush 8, 2) := by decide +kernel
theorem dX5_branch_27 : decode cX5_branch 27 = .ok (.ishl, 1) := by decide +kernel
theorem dX5_branch_28 : decode cX5_branch 28 = .ok (.ior, 1) := by decide +kernel
theorem dX5_branch_29 : decode cX5_branch 29 = .ok (.iload_n 3, 1) := by decide +kernel
theorem dX5_branch_30 : decode cX5_branch 30 = .ok (.bipush 11, 2) := by decide +kernel
theorem dX5_branch_32 : decode cX5_branch 32 = .ok (.ishr, 1) := by decide +kernel
theorem dX5_branch_33 : decode cX5_branch 33 = .ok (.iconst 1, 1) := by decide +kernel
theorem dX5_branch_34 : decode cX5_branch 34 = .ok (.iand, 1) := by decide +kernel
theorem dX5_branch_35 : decode cX5_branch 35 = .ok (.bipush 7, 2) := by decide +kernel
theorem dX5_branch_37 : decode cX5_branch 37 = .ok (.ishl, 1) := by decide +kernel
theorem dX5_branch_38 : decode cX5_branch 38 = .ok (.ior, 1) := by decide +kernel
theorem dX5_branch_39 : decode cX5_branch 39 = .ok (.istore 4, 2) := by decide +kernel
theorem dX5_branch_41 : decode cX5_branch 41 = .ok (.iload 4, 2) := by decide +kernel
theorem dX5_branch_43 : decode cX5_branch 43 = .ok (.iload_n 2, 1) := by decide +kernel
theorem dX5_branch_44 : decode cX5_branch 44 = .ok (.bipush 20, 2) := by decide +kernel
theorem dX5_branch_46 : decode cX5_branch 46 = .ok (.ishl, 1) := by decide +kernel
theorem dX5_branch_47 : decode cX5_branch 47 = .ok (.ior, 1) := by decide +kernel
theorem dX5_branch_48 : decode cX5_branch 48 = .ok (.iload_n 1, 1) := by decide +kernel
theorem dX5_branch_49 : decode cX5_branch 49 = .ok (.bipush 15, 2) := by decide +kernel
theorem dX5_branch_51 : decode cX5_branch 51 = .ok (.ishl, 1) := by decide +kernel
theorem dX5_branch_52 : decode cX5_branch 52 = .ok (.ior, 1) := by decide +kernel
theorem dX5_branch_53 : decode cX5_branch 53 = .ok (.iload_n 0, 1) := by decide +kernel
theorem dX5_branch_54 : decode cX5_branch 54 = .ok (.bipush 12, 2) := by decide +kernel
theorem dX5_branch_56 : decode cX5_branch 56 = .ok (.ishl, 1) := by decide +kernel
theorem dX5_branch_57 : decode cX5_branch 57 = .ok (.ior, 1) := by decide +kernel
theorem dX5_branch_58 : decode cX5_branch 58 = .ok (.bipush 99, 2) := by decide +kernel
theorem dX5_branch_60 : decode cX5_branch 60 = .ok (.ior, 1) := by decide +kernel
theorem dX5_branch_61 : decode cX5_branch 61 = .ok (.ireturn, 1) := by decide +kernel
theorem dX5_join_0 : decode cX5_join 0 = .ok (.iload_n 0, 1) := by decide +kernel
theorem dX5_join_1 : decode cX5_join 1 = .ok (.lookupswitch 186 #[(37, 119), (38, 129), (42, 101), (45, 91), (47, 110), (60, 158), (94, 149), (124, 139), (130, 167), (131, 176)], 91) := by decide +kernel
theorem dX5_join_92 : decode cX5_join 92 = .ok (.bipush 32, 2) := by decide +kernel
theorem dX5_join_94 : decode cX5_join 94 = .ok (.iconst 0, 1) := by decide +kernel
theorem dX5_join_95 : decode cX5_join 95 = .ok (.iload_n 1, 1) := by decide +kernel
theorem dX5_join_96 : decode cX5_join 96 = .ok (.iload_n 2, 1) := by decide +kernel
theorem dX5_join_97 : decode cX5_join 97 = .ok (.iload_n 3, 1) := by decide +kernel
theorem dX5_join_98 : decode cX5_join 98 = .ok (.invokestatic 16, 3) := by decide +kernel
theorem dX5_join_101 : decode cX5_join 101 = .ok (.ireturn, 1) := by decide +kernel
theorem dX5_join_102 : decode cX5_join 102 = .ok (.iconst 1, 1) := by decide +kernel
theorem dX5_join_103 : decode cX5_join 103 = .ok (.iconst 0, 1) := by decide +kernel
theorem dX5_join_104 : decode cX5_join 104 = .ok (.iload_n 1, 1) := by decide +kernel
theorem dX5_join_105 : decode cX5_join 105 = .ok (.iload_n 2, 1) := by decide +kernel
theorem dX5_join_106 : decode cX5_join 106 = .ok (.iload_n 3, 1) := by decide +kernel
theorem dX5_join_107 : decode cX5_join 107 = .ok (.invokestatic 16, 3) := by decide +kernel
theorem dX5_join_110 : decode cX5_join 110 = .ok (.ireturn, 1) := by decide +kernel
theorem dX5_join_111 : decode cX5_join 111 = .ok (.iconst 1, 1) := by decide +kernel
theorem dX5_join_112 : decode cX5_join 112 = .ok (.iconst 4, 1) := by decide +kernel
theorem dX5_join_113 : decode cX5_join 113 = .ok (.iload_n 1, 1) := by decide +kernel
theorem dX5_join_114 : decode cX5_join 114 = .ok (.iload_n 2, 1) := by decide +kernel
theorem dX5_join_115 : decode cX5_join 115 = .ok (.iload_n 3, 1) := by decide +kernel
theorem dX5_join_116 : decode cX5_join 116 = .ok (.invokestatic 16, 3) := by decide +kernel
theorem dX5_join_119 : decode cX5_join 119 = .ok (.ireturn, 1) := by decide +kernel
theorem dX5_join_120 : decode cX5_join 120 = .ok (.iconst 1, 1) := by decide +kernel
theorem dX5_join_121 : decode cX5_join 121 = .ok (.bipush 6, 2) := by decide +kernel
theorem dX5_join_123 : decode cX5_join 123 = .ok (.iload_n 1, 1) := by decide +kernel
theorem dX5_join_124 : decode cX5_join 124 = .ok (.iload_n 2, 1) := by decide +kernel
theorem dX5_join_125 : decode cX5_join 125 = .ok (.iload_n 3, 1) := by decide +kernel
theorem dX5_join_126 : decode cX5_join 126 = .ok (.invokestatic 16, 3) := by decide +kernel
theorem dX5_join_129 : decode cX5_join 129 = .ok (.ireturn, 1) := by decide +kernel
theorem dX5_join_130 : decode cX5_join 130 = .ok (.iconst 0, 1) := by decide +kernel
theorem dX5_join_131 : decode cX5_join 131 = .ok (.bipush 7, 2) := by decide +kernel
theorem dX5_join_133 : decode cX5_join 133 = .ok (.iload_n 1, 1) := by decide +kernel
theorem dX5_join_134 : decode cX5_join 134 = .ok (.iload_n 2, 1) := by decide +kernel
theorem dX5_join_135 : decode cX5_join 135 = .ok (.iload_n 3, 1) := by decide +kernel
theorem dX5_join_136 : decode cX5_join 136 = .ok (.invokestatic 16, 3) := by decide +kernel
theorem dX5_join_139 : decode cX5_join 139 = .ok (.ireturn, 1) := by decide +kernel
theorem dX5_join_140 : decode cX5_join 140 = .ok (.iconst 0, 1) := by decide +kernel
theorem dX5_join_141 : decode cX5_join 141 = .ok (.bipush 6, 2) := by decide +kernel
theorem dX5_join_143 : decode cX5_join 143 = .ok (.iload_n 1, 1) := by decide +kernel
theorem dX5_join_144 : decode cX5_join 144 = .ok (.iload_n 2, 1) := by decide +kernel
theorem dX5_join_145 : decode cX5_join 145 = .ok (.iload_n 3, 1) := by decide +kernel
theorem dX5_join_146 : decode cX5_join 146 = .ok (.invokestatic 16, 3) := by decide +kernel
theorem dX5_join_149 : decode cX5_join 149 = .ok (.ireturn, 1) := by decide +kernel
theorem dX5_join_150 : decode cX5_join 150 = .ok (.iconst 0, 1) := by decide +kernel
theorem dX5_join_151 : decode cX5_join 151 = .ok (.iconst 4, 1) := by decide +kernel
theorem dX5_join_152 : decode cX5_join 152 = .ok (.iload_n 1, 1) := by decide +kernel
theorem dX5_join_153 : decode cX5_join 153 = .ok (.iload_n 2, 1) := by decide +kernel
theorem dX5_join_154 : decode cX5_join 154 = .ok (.iload_n 3, 1) := by decide +kernel
theorem dX5_join_155 : decode cX5_join 155 = .ok (.invokestatic 16, 3) := by decide +kernel
theorem dX5_join_158 : decode cX5_join 158 = .ok (.ireturn, 1) := by decide +kernel
theorem dX5_join_159 : decode cX5_join 159 = .ok (.iconst 0, 1) := by decide +kernel
theorem dX5_join_160 : decode cX5_join 160 = .ok (.iconst 2, 1) := by decide +kernel
theorem dX5_join_161 : decode cX5_join 161 = .ok (.iload_n 1, 1) := by decide +kernel
theorem dX5_join_162 : decode cX5_join 162 = .ok (.iload_n 2, 1) := by decide +kernel
theorem dX5_join_163 : decode cX5_join 163 = .ok (.iload_n 3, 1) := by decide +kernel
theorem dX5_join_164 : decode cX5_join 164 = .ok (.invokestatic 16, 3) := by decide +kernel
theorem dX5_join_167 : decode cX5_join 167 = .ok (.ireturn, 1) := by decide +kernel
theorem dX5_join_168 : decode cX5_join 168 = .ok (.iconst 0, 1) := by decide +kernel
theorem dX5_join_169 : decode cX5_join 169 = .ok (.iconst 1, 1) := by decide +kernel
theorem dX5_join_170 : decode cX5_join 170 = .ok (.iload_n 1, 1) := by decide +kernel
theorem dX5_join_171 : decode cX5_join 171 = .ok (.iload_n 2, 1) := by decide +kernel
theorem dX5_join_172 : decode cX5_join 172 = .ok (.iload_n 3, 1) := by decide +kernel
theorem dX5_join_173 : decode cX5_join 173 = .ok (.invokestatic 16, 3) := by decide +kernel
theorem dX5_join_176 : decode cX5_join 176 = .ok (.ireturn, 1) := by decide +kernel
theorem dX5_join_177 : decode cX5_join 177 = .ok (.bipush 32, 2) := by decide +kernel
theorem dX5_join_179 : decode cX5_join 179 = .ok (.iconst 5, 1) := by decide +kernel
theorem dX5_join_180 : decode cX5_join 180 = .ok (.iload_n 1, 1) := by decide +kernel
theorem dX5_join_181 : decode cX5_join 181 = .ok (.iload_n 2, 1) := by decide +kernel
theorem dX5_join_182 : decode cX5_join 182 = .ok (.iload_n 3, 1) := by decide +kernel
theorem dX5_join_183 : decode cX5_join 183 = .ok (.invokestatic 16, 3) := by decide +kernel
theorem dX5_join_186 : decode cX5_join 186 = .ok (.ireturn, 1) := by decide +kernel
theorem dX5_join_187 : decode cX5_join 187 = .ok (.iconst 0, 1) := by decide +kernel
theorem dX5_join_188 : decode cX5_join 188 = .ok (.iconst 0, 1) := by decide +kernel
theorem dX5_join_189 : decode cX5_join 189 = .ok (.iload_n 1, 1) := by decide +kernel
theorem dX5_join_190 : decode cX5_join 190 = .ok (.iload_n 2, 1) := by decide +kernel
theorem dX5_join_191 : decode cX5_join 191 = .ok (.iload_n 3, 1) := by decide +kernel
theorem dX5_join_192 : decode cX5_join 192 = .ok (.invokestatic 16, 3) := by decide +kernel
theorem dX5_join_195 : decode cX5_join 195 = .ok (.ireturn, 1) := by decide +kernel
theorem dX5_withRegisters_0 : decode cX5_withRegisters 0 = .ok (.iload_n 0, 1) := by decide +kernel
theorem dX5_withRegisters_1 : decode cX5_withRegisters 1 = .ok (.bipush 25, 2) := by decide +kernel
theorem dX5_withRegisters_3 : decode cX5_withRegisters 3 = .ok (.ishl, 1) := by decide +kernel
theorem dX5_withRegisters_4 : decode cX5_withRegisters 4 = .ok (.iload 4, 2) := by decide +kernel
theorem dX5_withRegisters_6 : decode cX5_withRegisters 6 = .ok (.bipush 20, 2) := by decide +kernel
theorem dX5_withRegisters_8 : decode cX5_withRegisters 8 = .ok (.ishl, 1) := by decide +kernel
theorem dX5_withRegisters_9 : decode cX5_withRegisters 9 = .ok (.ior, 1) := by decide +kernel
theorem dX5_withRegisters_10 : decode cX5_withRegisters 10 = .ok (.iload_n 3, 1) := by decide +kernel
theorem dX5_withRegisters_11 : decode cX5_withRegisters 11 = .ok (.bipush 15, 2) := by decide +kernel
theorem dX5_withRegisters_13 : decode cX5_withRegisters 13 = .ok (.ishl, 1) := by decide +kernel
theorem dX5_withRegisters_14 : decode cX5_withRegisters 14 = .ok (.ior, 1) := by decide +kernel
theorem dX5_withRegisters_15 : decode cX5_withRegisters 15 = .ok (.iload_n 1, 1) := by decide +kernel
theorem dX5_withRegisters_16 : decode cX5_withRegisters 16 = .ok (.bipush 12, 2) := by decide +kernel
theorem dX5_withRegisters_18 : decode cX5_withRegisters 18 = .ok (.ishl, 1) := by decide +kernel
theorem dX5_withRegisters_19 : decode cX5_withRegisters 19 = .ok (.ior, 1) := by decide +kernel
theorem dX5_withRegisters_20 : decode cX5_withRegisters 20 = .ok (.iload_n 2, 1) := by decide +kernel
theorem dX5_withRegisters_21 : decode cX5_withRegisters 21 = .ok (.bipush 7, 2) := by decide +kernel
theorem dX5_withRegisters_23 : decode cX5_withRegisters 23 = .ok (.ishl, 1) := by decide +kernel
theorem dX5_withRegisters_24 : decode cX5_withRegisters 24 = .ok (.ior, 1) := by decide +kernel
theorem dX5_withRegisters_25 : decode cX5_withRegisters 25 = .ok (.bipush 51, 2) := by decide +kernel
theorem dX5_withRegisters_27 : decode cX5_withRegisters 27 = .ok (.ior, 1) := by decide +kernel
theorem dX5_withRegisters_28 : decode cX5_withRegisters 28 = .ok (.ireturn, 1) := by decide +kernel
abbrev MX5_add : aw_M := (yX5_add, cX5_add, 3, (some .int))
theorem codX5_add : Cond.code yX5_add cX5_add 3 (some .int) ∈ aw_T := aw_in 926 (by decide +kernel) rfl
theorem iniX5 : Cond.initialized RX5 ∈ aw_T := aw_in 132 (by decide +kernel) rfl
theorem sttX5_add : Cond.static yX5_add ∈ aw_T := aw_in 925 (by decide +kernel) rfl
abbrev MX5_branch : aw_M := (yX5_branch, cX5_branch, 5, (some .int))
theorem codX5_branch : Cond.code yX5_branch cX5_branch 5 (some .int) ∈ aw_T := aw_in 950 (by decide +kernel) rfl
theorem sttX5_branch : Cond.static yX5_branch ∈ aw_T := aw_in 949 (by decide +kernel) rfl
abbrev MX5_branchIfEqual : aw_M := (yX5_branchIfEqual, cX5_branchIfEqual, 3, (some .int))
theorem codX5_branchIfEqual : Cond.code yX5_branchIfEqual cX5_branchIfEqual 3 (some .int) ∈ aw_T := aw_in 947 (by decide +kernel) rfl
theorem sttX5_branchIfEqual : Cond.static yX5_branchIfEqual ∈ aw_T := aw_in 946 (by decide +kernel) rfl
abbrev MX5_branchIfNotEqual : aw_M := (yX5_branchIfNotEqual, cX5_branchIfNotEqual, 3, (some .int))
theorem codX5_branchIfNotEqual : Cond.code yX5_branchIfNotEqual cX5_branchIfNotEqual 3 (some .int) ∈ aw_T := aw_in 1109 (by decide +kernel) rfl
theorem sttX5_branchIfNotEqual : Cond.static yX5_branchIfNotEqual ∈ aw_T := aw_in 1108 (by decide +kernel) rfl
abbrev MX5_call : aw_M := (yX5_call, cX5_call, 0, (some .int))
theorem codX5_call : Cond.code yX5_call cX5_call 0 (some .int) ∈ aw_T := aw_in 964 (by decide +kernel) rfl
theorem sttX5_call : Cond.static yX5_call ∈ aw_T := aw_in 963 (by decide +kernel) rfl
abbrev MX5_fromMemory : aw_M := (yX5_fromMemory, cX5_fromMemory, 3, (some .int))
theorem codX5_fromMemory : Cond.code yX5_fromMemory cX5_fromMemory 3 (some .int) ∈ aw_T := aw_in 993 (by decide +kernel) rfl
theorem sttX5_fromMemory : Cond.static yX5_fromMemory ∈ aw_T := aw_in 992 (by decide +kernel) rfl
abbrev MX5_isBelow : aw_M := (yX5_isBelow, cX5_isBelow, 3, (some .int))
theorem codX5_isBelow : Cond.code yX5_isBelow cX5_isBelow 3 (some .int) ∈ aw_T := aw_in 1001 (by decide +kernel) rfl
theorem sttX5_isBelow : Cond.static yX5_isBelow ∈ aw_T := aw_in 1000 (by decide +kernel) rfl
abbrev MX5_join : aw_M := (yX5_join, cX5_join, 4, (some .int))
theorem codX5_join : Cond.code yX5_join cX5_join 4 (some .int) ∈ aw_T := aw_in 967 (by decide +kernel) rfl
theorem sttX5_join : Cond.static yX5_join ∈ aw_T := aw_in 966 (by decide +kernel) rfl
abbrev MX5_jump : aw_M := (yX5_jump, cX5_jump, 3, (some .int))
theorem codX5_jump : Cond.code yX5_jump cX5_jump 3 (some .int) ∈ aw_T := aw_in 1011 (by decide +kernel) rfl
theorem sttX5_jump : Cond.static yX5_jump ∈ aw_T := aw_in 1010 (by decide +kernel) rfl
abbrev MX5_jumpByRegister : aw_M := (yX5_jumpByRegister, cX5_jumpByRegister, 2, (some .int))
theorem codX5_jumpByRegister : Cond.code yX5_jumpByRegister cX5_jumpByRegister 2 (some .int) ∈ aw_T := aw_in 957 (by decide +kernel) rfl
theorem sttX5_jumpByRegister : Cond.static yX5_jumpByRegister ∈ aw_T := aw_in 956 (by decide +kernel) rfl
abbrev MX5_shiftLeft : aw_M := (yX5_shiftLeft, cX5_shiftLeft, 3, (some .int))
theorem codX5_shiftLeft : Cond.code yX5_shiftLeft cX5_shiftLeft 3 (some .int) ∈ aw_T := aw_in 1004 (by decide +kernel) rfl
theorem sttX5_shiftLeft : Cond.static yX5_shiftLeft ∈ aw_T := aw_in 1003 (by decide +kernel) rfl
abbrev MX5_toMemory : aw_M := (yX5_toMemory, cX5_toMemory, 3, (some .int))
theorem codX5_toMemory : Cond.code yX5_toMemory cX5_toMemory 3 (some .int) ∈ aw_T := aw_in 973 (by decide +kernel) rfl
theorem sttX5_toMemory : Cond.static yX5_toMemory ∈ aw_T := aw_in 972 (by decide +kernel) rfl
abbrev MX5_turn : aw_M := (yX5_turn, cX5_turn, 3, (some .int))
theorem codX5_turn : Cond.code yX5_turn cX5_turn 3 (some .int) ∈ aw_T := aw_in 1086 (by decide +kernel) rfl
theorem sttX5_turn : Cond.static yX5_turn ∈ aw_T := aw_in 1085 (by decide +kernel) rfl
abbrev MX5_upper : aw_M := (yX5_upper, cX5_upper, 2, (some .int))
theorem codX5_upper : Cond.code yX5_upper cX5_upper 2 (some .int) ∈ aw_T := aw_in 1071 (by decide +kernel) rfl
theorem sttX5_upper : Cond.static yX5_upper ∈ aw_T := aw_in 1070 (by decide +kernel) rfl
abbrev MX5_withNumber : aw_M := (yX5_withNumber, cX5_withNumber, 4, (some .int))
theorem codX5_withNumber : Cond.code yX5_withNumber cX5_withNumber 4 (some .int) ∈ aw_T := aw_in 929 (by decide +kernel) rfl
theorem sttX5_withNumber : Cond.static yX5_withNumber ∈ aw_T := aw_in 928 (by decide +kernel) rfl
abbrev MX5_withRegisters : aw_M := (yX5_withRegisters, cX5_withRegisters, 5, (some .int))
theorem codX5_withRegisters : Cond.code yX5_withRegisters cX5_withRegisters 5 (some .int) ∈ aw_T := aw_in 970 (by decide +kernel) rfl
theorem sttX5_withRegisters : Cond.static yX5_withRegisters ∈ aw_T := aw_in 969 (by decide +kernel) rfl
theorem lX5_13 : aw_L RX5 13 MX5_branch 4 := ⟨aw_in 948 (by decide +kernel) rfl, iniX5, codX5_branch, ⟨by decide, by decide, by decide +kernel⟩, by decide⟩
theorem lX5_16 : aw_L RX5 16 MX5_withRegisters 5 := ⟨aw_in 968 (by decide +kernel) rfl, iniX5, codX5_withRegisters, ⟨by decide, by decide, by decide +kernel⟩, by decide⟩
theorem lX5_7 : aw_L RX5 7 MX5_withNumber 4 := ⟨aw_in 927 (by decide +kernel) rfl, iniX5, codX5_withNumber, ⟨by decide, by decide, by decide +kernel⟩, by decide⟩
