theorem dX6_begin_0 : decode cX6_begin 0 = .ok (.aload_n 0, 1) := by decide +kernel
theorem dX6_begin_1 : decode cX6_begin 1 = .ok (.iconst 0, 1) := by decide +kernel
theorem dX6_begin_2 : decode cX6_begin 2 = .ok (.putfield 15, 3) := by decide +kernel
theorem dX6_begin_5 : decode cX6_begin 5 = .ok (.aload_n 0, 1) := by decide +kernel
theorem dX6_begin_6 : decode cX6_begin 6 = .ok (.iload_n 1, 1) := by decide +kernel
theorem dX6_begin_7 : decode cX6_begin 7 = .ok (.putfield 19, 3) := by decide +kernel
theorem dX6_begin_10 : decode cX6_begin 10 = .ok (.return_, 1) := by decide +kernel
theorem dX6_addPublic_0 : decode cX6_addPublic 0 = .ok (.aload_n 0, 1) := by decide +kernel
theorem dX6_addPublic_1 : decode cX6_addPublic 1 = .ok (.getfield 15, 3) := by decide +kernel
theorem dX6_addPublic_4 : decode cX6_addPublic 4 = .ok (.aload_n 0, 1) := by decide +kernel
theorem dX6_addPublic_5 : decode cX6_addPublic 5 = .ok (.getfield 9, 3) := by decide +kernel
theorem dX6_addPublic_8 : decode cX6_addPublic 8 = .ok (.arraylength, 1) := by decide +kernel
theorem dX6_addPublic_9 : decode cX6_addPublic 9 = .ok (.if_icmp .ge 23, 3) := by decide +kernel
theorem dX6_addPublic_12 : decode cX6_addPublic 12 = .ok (.aload_n 0, 1) := by decide +kernel
theorem dX6_addPublic_13 : decode cX6_addPublic 13 = .ok (.getfield 9, 3) := by decide +kernel
theorem dX6_addPublic_16 : decode cX6_addPublic 16 = .ok (.aload_n 0, 1) := by decide +kernel
theorem dX6_addPublic_17 : decode cX6_addPublic 17 = .ok (.getfield 15, 3) := by decide +kernel
theorem dX6_addPublic_20 : decode cX6_addPublic 20 = .ok (.iload_n 1, 1) := by decide +kernel
theorem dX6_addPublic_21 : decode cX6_addPublic 21 = .ok (.iastore, 1) := by decide +kernel
theorem dX6_addPublic_22 : decode cX6_addPublic 22 = .ok (.aload_n 0, 1) := by decide +kernel
theorem dX6_addPublic_23 : decode cX6_addPublic 23 = .ok (.dup, 1) := by decide +kernel
theorem dX6_addPublic_24 : decode cX6_addPublic 24 = .ok (.getfield 15, 3) := by decide +kernel
theorem dX6_addPublic_27 : decode cX6_addPublic 27 = .ok (.iconst 1, 1) := by decide +kernel
theorem dX6_addPublic_28 : decode cX6_addPublic 28 = .ok (.iadd, 1) := by decide +kernel
theorem dX6_addPublic_29 : decode cX6_addPublic 29 = .ok (.putfield 15, 3) := by decide +kernel
theorem dX6_addPublic_32 : decode cX6_addPublic 32 = .ok (.return_, 1) := by decide +kernel
theorem dX6_finish_0 : decode cX6_finish 0 = .ok (.aload_n 0, 1) := by decide +kernel
theorem dX6_finish_1 : decode cX6_finish 1 = .ok (.lload_n 1, 1) := by decide +kernel
theorem dX6_finish_2 : decode cX6_finish 2 = .ok (.putfield 22, 3) := by decide +kernel
theorem dX6_finish_5 : decode cX6_finish 5 = .ok (.aload_n 0, 1) := by decide +kernel
theorem dX6_finish_6 : decode cX6_finish 6 = .ok (.lload_n 3, 1) := by decide +kernel
theorem dX6_finish_7 : decode cX6_finish 7 = .ok (.putfield 26, 3) := by decide +kernel
theorem dX6_finish_10 : decode cX6_finish 10 = .ok (.return_, 1) := by decide +kernel
theorem dX6_sameFrom_0 : decode cX6_sameFrom 0 = .ok (.aload_n 0, 1) := by decide +kernel
theorem dX6_sameFrom_1 : decode cX6_sameFrom 1 = .ok (.getfield 19, 3) := by decide +kernel
theorem dX6_sameFrom_4 : decode cX6_sameFrom 4 = .ok (.aload_n 1, 1) := by decide +kernel
theorem dX6_sameFrom_5 : decode cX6_sameFrom 5 = .ok (.getfield 19, 3) := by decide +kernel
theorem dX6_sameFrom_8 : decode cX6_sameFrom 8 = .ok (.if_icmp .ne 14, 3) := by decide +kernel
theorem dX6_sameFrom_11 : decode cX6_sameFrom 11 = .ok (.aload_n 0, 1) := by decide +kernel
theorem dX6_sameFrom_12 : decode cX6_sameFrom 12 = .ok (.getfield 15, 3) := by decide +kernel
theorem dX6_sameFrom_15 : decode cX6_sameFrom 15 = .ok (.aload_n 1, 1) := by decide +kernel
theorem dX6_sameFrom_16 : decode cX6_sameFrom 16 = .ok (.getfield 15, 3) := by decide +kernel
theorem dX6_sameFrom_19 : decode cX6_sameFrom 19 = .ok (.if_icmp .eq 5, 3) := by decide +kernel
theorem dX6_sameFrom_22 : decode cX6_sameFrom 22 = .ok (.iconst 0, 1) := by decide +kernel
theorem dX6_sameFrom_23 : decode cX6_sameFrom 23 = .ok (.ireturn, 1) := by decide +kernel
theorem dX6_sameFrom_24 : decode cX6_sameFrom 24 = .ok (.iconst 0, 1) := by decide +kernel
theorem dX6_sameFrom_25 : decode cX6_sameFrom 25 = .ok (.istore_n 2, 1) := by decide +kernel
theorem dX6_sameFrom_26 : decode cX6_sameFrom 26 = .ok (.iload_n 2, 1) := by decide +kernel
theorem dX6_sameFrom_27 : decode cX6_sameFrom 27 = .ok (.aload_n 0, 1) := by decide +kernel
theorem dX6_sameFrom_28 : decode cX6_sameFrom 28 = .ok (.getfield 15, 3) := by decide +kernel
theorem dX6_sameFrom_31 : decode cX6_sameFrom 31 = .ok (.if_icmp .ge 44, 3) := by decide +kernel
theorem dX6_sameFrom_34 : decode cX6_sameFrom 34 = .ok (.iload_n 2, 1) := by decide +kernel
theorem dX6_sameFrom_35 : decode cX6_sameFrom 35 = .ok (.aload_n 0, 1) := by decide +kernel
theorem dX6_sameFrom_36 : decode cX6_sameFrom 36 = .ok (.getfield 9, 3) := by decide +kernel
theorem dX6_sameFrom_39 : decode cX6_sameFrom 39 = .ok (.arraylength, 1) := by decide +kernel
theorem dX6_sameFrom_40 : decode cX6_sameFrom 40 = .ok (.if_icmp .ge 35, 3) := by decide +kernel
theorem dX6_sameFrom_43 : decode cX6_sameFrom 43 = .ok (.iload_n 2, 1) := by decide +kernel
theorem dX6_sameFrom_44 : decode cX6_sameFrom 44 = .ok (.aload_n 1, 1) := by decide +kernel
theorem dX6_sameFrom_45 : decode cX6_sameFrom 45 = .ok (.getfield 9, 3) := by decide +kernel
theorem dX6_sameFrom_48 : decode cX6_sameFrom 48 = .ok (.arraylength, 1) := by decide +kernel
theorem dX6_sameFrom_49 : decode cX6_sameFrom 49 = .ok (.if_icmp .ge 26, 3) := by decide +kernel
theorem dX6_sameFrom_52 : decode cX6_sameFrom 52 = .ok (.aload_n 0, 1) := by decide +kernel
theorem dX6_sameFrom_53 : decode cX6_sameFrom 53 = .ok (.getfield 9, 3) := by decide +kernel
theorem dX6_sameFrom_56 : decode cX6_sameFrom 56 = .ok (.iload_n 2, 1) := by decide +kernel
theorem dX6_sameFrom_57 : decode cX6_sameFrom 57 = .ok (.iaload, 1) := by decide +kernel
theorem dX6_sameFrom_58 : decode cX6_sameFrom 58 = .ok (.aload_n 1, 1) := by decide +kernel
theorem dX6_sameFrom_59 : decode cX6_sameFrom 59 = .ok (.getfield 9, 3) := by decide +kernel
theorem dX6_sameFrom_62 : decode cX6_sameFrom 62 = .ok (.iload_n 2, 1) := by decide +kernel
theorem dX6_sameFrom_63 : decode cX6_sameFrom 63 = .ok (.iaload, 1) := by decide +kernel
theorem dX6_sameFrom_64 : decode cX6_sameFrom 64 = .ok (.if_icmp .eq 5, 3) := by decide +kernel
theorem dX6_sameFrom_67 : decode cX6_sameFrom 67 = .ok (.iconst 0, 1) := by decide +kernel
theorem dX6_sameFrom_68 : decode cX6_sameFrom 68 = .ok (.ireturn, 1) := by decide +kernel
theorem dX6_sameFrom_69 : decode cX6_sameFrom 69 = .ok (.iinc 2 1, 3) := by decide +kernel
theorem dX6_sameFrom_72 : decode cX6_sameFrom 72 = .ok (.goto (-46), 3) := by decide +kernel
theorem dX6_sameFrom_75 : decode cX6_sameFrom 75 = .ok (.iconst 1, 1) := by decide +kernel
theorem dX6_sameFrom_76 : decode cX6_sameFrom 76 = .ok (.ireturn, 1) := by decide +kernel
theorem dX6_sameSeen_0 : decode cX6_sameSeen 0 = .ok (.aload_n 0, 1) := by decide +kernel
theorem dX6_sameSeen_1 : decode cX6_sameSeen 1 = .ok (.getfield 22, 3) := by decide +kernel
theorem dX6_sameSeen_4 : decode cX6_sameSeen 4 = .ok (.aload_n 1, 1) := by decide +kernel
theorem dX6_sameSeen_5 : decode cX6_sameSeen 5 = .ok (.getfield 22, 3) := by decide +kernel
theorem dX6_sameSeen_8 : decode cX6_sameSeen 8 = .ok (.lcmp, 1) := by decide +kernel
theorem dX6_sameSeen_9 : decode cX6_sameSeen 9 = .ok (.ifCond .ne 19, 3) := by decide +kernel
theorem dX6_sameSeen_12 : decode cX6_sameSeen 12 = .ok (.aload_n 0, 1) := by decide +kernel
theorem dX6_sameSeen_13 : decode cX6_sameSeen 13 = .ok (.getfield 26, 3) := by decide +kernel
theorem dX6_sameSeen_16 : decode cX6_sameSeen 16 = .ok (.aload_n 1, 1) := by decide +kernel
theorem dX6_sameSeen_17 : decode cX6_sameSeen 17 = .ok (.getfield 26, 3) := by decide +kernel
theorem dX6_sameSeen_20 : decode cX6_sameSeen 20 = .ok (.lcmp, 1) := by decide +kernel
theorem dX6_sameSeen_21 : decode cX6_sameSeen 21 = .ok (.ifCond .ne 7, 3) := by decide +kernel
theorem dX6_sameSeen_24 : decode cX6_sameSeen 24 = .ok (.iconst 1, 1) := by decide +kernel
theorem dX6_sameSeen_25 : decode cX6_sameSeen 25 = .ok (.goto 4, 3) := by decide +kernel
theorem dX6_sameSeen_28 : decode cX6_sameSeen 28 = .ok (.iconst 0, 1) := by decide +kernel
theorem dX6_sameSeen_29 : decode cX6_sameSeen 29 = .ok (.ireturn, 1) := by decide +kernel
abbrev MX6_addPublic : aw_M := (yX6_addPublic, cX6_addPublic, 2, none)
theorem codX6_addPublic : Cond.code yX6_addPublic cX6_addPublic 2 none ∈ aw_T := aw_in 1309 (by decide +kernel) rfl
theorem iniX6 : Cond.initialized RX6 ∈ aw_T := aw_in 123 (by decide +kernel) rfl
theorem insX6_addPublic : Cond.instanceMethod yX6_addPublic ∈ aw_T := aw_in 1307 (by decide +kernel) rfl
theorem selX6_addPublic : Cond.selects RX6 yX6_addPublic yX6_addPublic ∈ aw_T := aw_in 1308 (by decide +kernel) rfl
abbrev MX6_begin : aw_M := (yX6_begin, cX6_begin, 2, none)
theorem codX6_begin : Cond.code yX6_begin cX6_begin 2 none ∈ aw_T := aw_in 1301 (by decide +kernel) rfl
theorem insX6_begin : Cond.instanceMethod yX6_begin ∈ aw_T := aw_in 1299 (by decide +kernel) rfl
theorem selX6_begin : Cond.selects RX6 yX6_begin yX6_begin ∈ aw_T := aw_in 1300 (by decide +kernel) rfl
abbrev MX6_finish : aw_M := (yX6_finish, cX6_finish, 5, none)
theorem codX6_finish : Cond.code yX6_finish cX6_finish 5 none ∈ aw_T := aw_in 1321 (by decide +kernel) rfl
theorem insX6_finish : Cond.instanceMethod yX6_finish ∈ aw_T := aw_in 1319 (by decide +kernel) rfl
theorem selX6_finish : Cond.selects RX6 yX6_finish yX6_finish ∈ aw_T := aw_in 1320 (by decide +kernel) rfl
abbrev MX6_sameFrom : aw_M := (yX6_sameFrom, cX6_sameFrom, 3, (some .boolean))
theorem codX6_sameFrom : Cond.code yX6_sameFrom cX6_sameFrom 3 (some .boolean) ∈ aw_T := aw_in 1376 (by decide +kernel) rfl
theorem insX6_sameFrom : Cond.instanceMethod yX6_sameFrom ∈ aw_T := aw_in 1374 (by decide +kernel) rfl
theorem selX6_sameFrom : Cond.selects RX6 yX6_sameFrom yX6_sameFrom ∈ aw_T := aw_in 1375 (by decide +kernel) rfl
abbrev MX6_sameSeen : aw_M := (yX6_sameSeen, cX6_sameSeen, 2, (some .boolean))
theorem codX6_sameSeen : Cond.code yX6_sameSeen cX6_sameSeen 2 (some .boolean) ∈ aw_T := aw_in 1380 (by decide +kernel) rfl
theorem insX6_sameSeen : Cond.instanceMethod yX6_sameSeen ∈ aw_T := aw_in 1378 (by decide +kernel) rfl
theorem selX6_sameSeen : Cond.selects RX6 yX6_sameSeen yX6_sameSeen ∈ aw_T := aw_in 1379 (by decide +kernel) rfl
theorem hX6_w : ∀ w ∈ u_ws RX6 TX6 5, w ∈ aw_T := by
  show ∀ w ∈ [u_lay RX6 TX6 0, u_lay RX6 TX6 1, u_lay RX6 TX6 2, u_lay RX6 TX6 3, u_lay RX6 TX6 4], w ∈ aw_T
  exact List.forall_mem_cons.mpr ⟨aw_in 394 (by decide +kernel) rfl, List.forall_mem_cons.mpr ⟨aw_in 396 (by decide +kernel) rfl, List.forall_mem_cons.mpr ⟨aw_in 398 (by decide +kernel) rfl, List.forall_mem_cons.mpr ⟨aw_in 400 (by decide +kernel) rfl, List.forall_mem_cons.mpr ⟨aw_in 402 (by decide +kernel) rfl, fun _ h => absurd h List.not_mem_nil⟩⟩⟩⟩⟩
theorem hX6 : aw_C 6 RX6 TX6 5 tyX6 := ⟨rfl, hX6_w, tyX6_ok, nmX6⟩
theorem fX6_15 : aw_F RX6 15 6 1 .int false := aw_F.of hX6 1 (by decide) (aw_in 390 (by decide +kernel) rfl) rfl rfl rfl
theorem fX6_19 : aw_F RX6 19 6 2 .int false := aw_F.of hX6 2 (by decide) (aw_in 391 (by decide +kernel) rfl) rfl rfl rfl
theorem fX6_22 : aw_F RX6 22 6 3 .long false := aw_F.of hX6 3 (by decide) (aw_in 392 (by decide +kernel) rfl) rfl rfl rfl
theorem fX6_26 : aw_F RX6 26 6 4 .long false := aw_F.of hX6 4 (by decide) (aw_in 393 (by decide +kernel) rfl) rfl rfl rfl
theorem fX6_9 : aw_F RX6 9 6 0 (.array .int) true := aw_F.of hX6 0 (by decide) (aw_in 389 (by decide +kernel) rfl) rfl rfl rfl
