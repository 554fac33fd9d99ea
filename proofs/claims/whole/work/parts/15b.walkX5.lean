section WalkX5
def wp_X5_call  (post : Int32 → Unit → Prop) : Prop :=
  post (115 : Int32) ()
theorem kX5_call {G : aw_G} {d : Nat} (hd : 0 ≤ d)  {post : Int32 → Unit → Prop} (h : wp_X5_call  post) : AC G MX5_call d 0 0 0 [] [] (aw_pi (fun _ : Unit => []) post) := by
  refine AC.of (lv := []) (by decide) (Nat.le_of_ble_eq_true rfl) rfl ?_
  unfold wp_X5_call at h
  refine aw_bipush (v := (115 : Int32)) dX5_call_0 (by decide) ?_
  exact aw_iret rfl dX5_call_2 ⟨_, (), rfl, rfl, h⟩
def wp_X5_upper (a0 : Int32) (a1 : Int32) (post : Int32 → Unit → Prop) : Prop :=
  post (((a1 &&& ((-4096) : Int32)) ||| (a0 <<< ((7 : Int32) &&& 31))) ||| (55 : Int32)) ()
theorem kX5_upper {G : aw_G} {d : Nat} (hd : 0 ≤ d) {a0 : Int32} {a1 : Int32} {post : Int32 → Unit → Prop} (h : wp_X5_upper a0 a1 post) : AC G MX5_upper d 0 0 0 [.int a0, .int a1] [] (aw_pi (fun _ : Unit => []) post) := by
  refine AC.of (lv := [(0, .int a0), (1, .int a1)]) (by decide) (Nat.le_of_ble_eq_true rfl) rfl ?_
  unfold wp_X5_upper at h
  refine aw_iload_n 1 dX5_upper_0 rfl rfl ?_
  refine aw_sipush (v := ((-4096) : Int32)) dX5_upper_1 (by decide) ?_
  refine aw_iand dX5_upper_4 ?_
  refine aw_iload_n 0 dX5_upper_5 rfl rfl ?_
  refine aw_bipush (v := (7 : Int32)) dX5_upper_6 (by decide) ?_
  refine aw_ishl dX5_upper_8 ?_
  refine aw_ior dX5_upper_9 ?_
  refine aw_bipush (v := (55 : Int32)) dX5_upper_10 (by decide) ?_
  refine aw_ior dX5_upper_12 ?_
  exact aw_iret rfl dX5_upper_13 ⟨_, (), rfl, rfl, h⟩
def wp_X5_withNumber (a0 : Int32) (a1 : Int32) (a2 : Int32) (a3 : Int32) (post : Int32 → Unit → Prop) : Prop :=
  post (((((a3 <<< ((20 : Int32) &&& 31)) ||| (a2 <<< ((15 : Int32) &&& 31))) ||| (a0 <<< ((12 : Int32) &&& 31))) ||| (a1 <<< ((7 : Int32) &&& 31))) ||| (19 : Int32)) ()
theorem kX5_withNumber {G : aw_G} {d : Nat} (hd : 0 ≤ d) {a0 : Int32} {a1 : Int32} {a2 : Int32} {a3 : Int32} {post : Int32 → Unit → Prop} (h : wp_X5_withNumber a0 a1 a2 a3 post) : AC G MX5_withNumber d 0 0 0 [.int a0, .int a1, .int a2, .int a3] [] (aw_pi (fun _ : Unit => []) post) := by
  refine AC.of (lv := [(0, .int a0), (1, .int a1), (2, .int a2), (3, .int a3)]) (by decide) (Nat.le_of_ble_eq_true rfl) rfl ?_
  unfold wp_X5_withNumber at h
  refine aw_iload_n 3 dX5_withNumber_0 rfl rfl ?_
  refine aw_bipush (v := (20 : Int32)) dX5_withNumber_1 (by decide) ?_
  refine aw_ishl dX5_withNumber_3 ?_
  refine aw_iload_n 2 dX5_withNumber_4 rfl rfl ?_
  refine aw_bipush (v := (15 : Int32)) dX5_withNumber_5 (by decide) ?_
  refine aw_ishl dX5_withNumber_7 ?_
  refine aw_ior dX5_withNumber_8 ?_
  refine aw_iload_n 0 dX5_withNumber_9 rfl rfl ?_
  refine aw_bipush (v := (12 : Int32)) dX5_withNumber_10 (by decide) ?_
  refine aw_ishl dX5_withNumber_12 ?_
  refine aw_ior dX5_withNumber_13 ?_
  refine aw_iload_n 1 dX5_withNumber_14 rfl rfl ?_
  refine aw_bipush (v := (7 : Int32)) dX5_withNumber_15 (by decide) ?_
  refine aw_ishl dX5_withNumber_17 ?_
  refine aw_ior dX5_withNumber_18 ?_
  refine aw_bipush (v := (19 : Int32)) dX5_withNumber_19 (by decide) ?_
  refine aw_ior dX5_withNumber_21 ?_
  exact aw_iret rfl dX5_withNumber_22 ⟨_, (), rfl, rfl, h⟩
def wp_X5_add (a0 : Int32) (a1 : Int32) (a2 : Int32) (post : Int32 → Unit → Prop) : Prop :=
  wp_X5_withNumber (0 : Int32) a0 a1 a2 (fun r1 τ2 => post r1 ())
theorem kX5_add {G : aw_G} {d : Nat} (hd : 1 ≤ d) {a0 : Int32} {a1 : Int32} {a2 : Int32} {post : Int32 → Unit → Prop} (h : wp_X5_add a0 a1 a2 post) : AC G MX5_add d 0 0 0 [.int a0, .int a1, .int a2] [] (aw_pi (fun _ : Unit => []) post) := by
  refine AC.of (lv := [(0, .int a0), (1, .int a1), (2, .int a2)]) (by decide) (Nat.le_of_ble_eq_true rfl) rfl ?_
  unfold wp_X5_add at h
  refine aw_iconst (v := (0 : Int32)) dX5_add_0 (by decide) ?_
  refine aw_iload_n 0 dX5_add_1 rfl rfl ?_
  refine aw_iload_n 1 dX5_add_2 rfl rfl ?_
  refine aw_iload_n 2 dX5_add_3 rfl rfl ?_
  refine aw_callST (st := []) (As := [.int (0 : Int32), .int a0, .int a1, .int a2]) lX5_7 sttX5_withNumber (by omega) (kX5_withNumber (d := 0) (by omega) h) rfl rfl rfl dX5_add_4 rfl (fun _ _ hh => ?_)
  obtain ⟨r1, τ2, rfl, rfl, h⟩ := hh
  refine ⟨rfl, (fun x hx => by cases hx; rfl), ?_⟩
  refine aw_stk (st' := [.int r1]) rfl ?_
  exact aw_iret rfl dX5_add_7 ⟨_, (), rfl, rfl, h⟩
def wp_X5_shiftLeft (a0 : Int32) (a1 : Int32) (a2 : Int32) (post : Int32 → Unit → Prop) : Prop :=
  wp_X5_withNumber (1 : Int32) a0 a1 a2 (fun r1 τ2 => post r1 ())
theorem kX5_shiftLeft {G : aw_G} {d : Nat} (hd : 1 ≤ d) {a0 : Int32} {a1 : Int32} {a2 : Int32} {post : Int32 → Unit → Prop} (h : wp_X5_shiftLeft a0 a1 a2 post) : AC G MX5_shiftLeft d 0 0 0 [.int a0, .int a1, .int a2] [] (aw_pi (fun _ : Unit => []) post) := by
  refine AC.of (lv := [(0, .int a0), (1, .int a1), (2, .int a2)]) (by decide) (Nat.le_of_ble_eq_true rfl) rfl ?_
  unfold wp_X5_shiftLeft at h
  refine aw_iconst (v := (1 : Int32)) dX5_shiftLeft_0 (by decide) ?_
  refine aw_iload_n 0 dX5_shiftLeft_1 rfl rfl ?_
  refine aw_iload_n 1 dX5_shiftLeft_2 rfl rfl ?_
  refine aw_iload_n 2 dX5_shiftLeft_3 rfl rfl ?_
  refine aw_callST (st := []) (As := [.int (1 : Int32), .int a0, .int a1, .int a2]) lX5_7 sttX5_withNumber (by omega) (kX5_withNumber (d := 0) (by omega) h) rfl rfl rfl dX5_shiftLeft_4 rfl (fun _ _ hh => ?_)
  obtain ⟨r1, τ2, rfl, rfl, h⟩ := hh
  refine ⟨rfl, (fun x hx => by cases hx; rfl), ?_⟩
  refine aw_stk (st' := [.int r1]) rfl ?_
  exact aw_iret rfl dX5_shiftLeft_7 ⟨_, (), rfl, rfl, h⟩
def wp_X5_isBelow (a0 : Int32) (a1 : Int32) (a2 : Int32) (post : Int32 → Unit → Prop) : Prop :=
  wp_X5_withNumber (3 : Int32) a0 a1 a2 (fun r1 τ2 => post r1 ())
theorem kX5_isBelow {G : aw_G} {d : Nat} (hd : 1 ≤ d) {a0 : Int32} {a1 : Int32} {a2 : Int32} {post : Int32 → Unit → Prop} (h : wp_X5_isBelow a0 a1 a2 post) : AC G MX5_isBelow d 0 0 0 [.int a0, .int a1, .int a2] [] (aw_pi (fun _ : Unit => []) post) := by
  refine AC.of (lv := [(0, .int a0), (1, .int a1), (2, .int a2)]) (by decide) (Nat.le_of_ble_eq_true rfl) rfl ?_
  unfold wp_X5_isBelow at h
  refine aw_iconst (v := (3 : Int32)) dX5_isBelow_0 (by decide) ?_
  refine aw_iload_n 0 dX5_isBelow_1 rfl rfl ?_
  refine aw_iload_n 1 dX5_isBelow_2 rfl rfl ?_
  refine aw_iload_n 2 dX5_isBelow_3 rfl rfl ?_
  refine aw_callST (st := []) (As := [.int (3 : Int32), .int a0, .int a1, .int a2]) lX5_7 sttX5_withNumber (by omega) (kX5_withNumber (d := 0) (by omega) h) rfl rfl rfl dX5_isBelow_4 rfl (fun _ _ hh => ?_)
  obtain ⟨r1, τ2, rfl, rfl, h⟩ := hh
  refine ⟨rfl, (fun x hx => by cases hx; rfl), ?_⟩
  refine aw_stk (st' := [.int r1]) rfl ?_
  exact aw_iret rfl dX5_isBelow_7 ⟨_, (), rfl, rfl, h⟩
def wp_X5_turn (a0 : Int32) (a1 : Int32) (a2 : Int32) (post : Int32 → Unit → Prop) : Prop :=
  wp_X5_withNumber (4 : Int32) a0 a1 a2 (fun r1 τ2 => post r1 ())
theorem kX5_turn {G : aw_G} {d : Nat} (hd : 1 ≤ d) {a0 : Int32} {a1 : Int32} {a2 : Int32} {post : Int32 → Unit → Prop} (h : wp_X5_turn a0 a1 a2 post) : AC G MX5_turn d 0 0 0 [.int a0, .int a1, .int a2] [] (aw_pi (fun _ : Unit => []) post) := by
  refine AC.of (lv := [(0, .int a0), (1, .int a1), (2, .int a2)]) (by decide) (Nat.le_of_ble_eq_true rfl) rfl ?_
  unfold wp_X5_turn at h
  refine aw_iconst (v := (4 : Int32)) dX5_turn_0 (by decide) ?_
  refine aw_iload_n 0 dX5_turn_1 rfl rfl ?_
  refine aw_iload_n 1 dX5_turn_2 rfl rfl ?_
  refine aw_iload_n 2 dX5_turn_3 rfl rfl ?_
  refine aw_callST (st := []) (As := [.int (4 : Int32), .int a0, .int a1, .int a2]) lX5_7 sttX5_withNumber (by omega) (kX5_withNumber (d := 0) (by omega) h) rfl rfl rfl dX5_turn_4 rfl (fun _ _ hh => ?_)
  obtain ⟨r1, τ2, rfl, rfl, h⟩ := hh
  refine ⟨rfl, (fun x hx => by cases hx; rfl), ?_⟩
  refine aw_stk (st' := [.int r1]) rfl ?_
  exact aw_iret rfl dX5_turn_7 ⟨_, (), rfl, rfl, h⟩
def wp_X5_fromMemory (a0 : Int32) (a1 : Int32) (a2 : Int32) (post : Int32 → Unit → Prop) : Prop :=
  post (((((a2 <<< ((20 : Int32) &&& 31)) ||| (a1 <<< ((15 : Int32) &&& 31))) ||| (8192 : Int32)) ||| (a0 <<< ((7 : Int32) &&& 31))) ||| (3 : Int32)) ()
theorem kX5_fromMemory {G : aw_G} {d : Nat} (hd : 0 ≤ d) {a0 : Int32} {a1 : Int32} {a2 : Int32} {post : Int32 → Unit → Prop} (h : wp_X5_fromMemory a0 a1 a2 post) : AC G MX5_fromMemory d 0 0 0 [.int a0, .int a1, .int a2] [] (aw_pi (fun _ : Unit => []) post) := by
  refine AC.of (lv := [(0, .int a0), (1, .int a1), (2, .int a2)]) (by decide) (Nat.le_of_ble_eq_true rfl) rfl ?_
  unfold wp_X5_fromMemory at h
  refine aw_iload_n 2 dX5_fromMemory_0 rfl rfl ?_
  refine aw_bipush (v := (20 : Int32)) dX5_fromMemory_1 (by decide) ?_
  refine aw_ishl dX5_fromMemory_3 ?_
  refine aw_iload_n 1 dX5_fromMemory_4 rfl rfl ?_
  refine aw_bipush (v := (15 : Int32)) dX5_fromMemory_5 (by decide) ?_
  refine aw_ishl dX5_fromMemory_7 ?_
  refine aw_ior dX5_fromMemory_8 ?_
  refine aw_sipush (v := (8192 : Int32)) dX5_fromMemory_9 (by decide) ?_
  refine aw_ior dX5_fromMemory_12 ?_
  refine aw_iload_n 0 dX5_fromMemory_13 rfl rfl ?_
  refine aw_bipush (v := (7 : Int32)) dX5_fromMemory_14 (by decide) ?_
  refine aw_ishl dX5_fromMemory_16 ?_
  refine aw_ior dX5_fromMemory_17 ?_
  refine aw_iconst (v := (3 : Int32)) dX5_fromMemory_18 (by decide) ?_
  refine aw_ior dX5_fromMemory_19 ?_
  exact aw_iret rfl dX5_fromMemory_20 ⟨_, (), rfl, rfl, h⟩
def wp_X5_toMemory (a0 : Int32) (a1 : Int32) (a2 : Int32) (post : Int32 → Unit → Prop) : Prop :=
  post (((((((a2 >>> ((5 : Int32) &&& 31)) <<< ((25 : Int32) &&& 31)) ||| (a0 <<< ((20 : Int32) &&& 31))) ||| (a1 <<< ((15 : Int32) &&& 31))) ||| (8192 : Int32)) ||| ((a2 &&& (31 : Int32)) <<< ((7 : Int32) &&& 31))) ||| (35 : Int32)) ()
theorem kX5_toMemory {G : aw_G} {d : Nat} (hd : 0 ≤ d) {a0 : Int32} {a1 : Int32} {a2 : Int32} {post : Int32 → Unit → Prop} (h : wp_X5_toMemory a0 a1 a2 post) : AC G MX5_toMemory d 0 0 0 [.int a0, .int a1, .int a2] [] (aw_pi (fun _ : Unit => []) post) := by
  refine AC.of (lv := [(0, .int a0), (1, .int a1), (2, .int a2)]) (by decide) (Nat.le_of_ble_eq_true rfl) rfl ?_
  unfold wp_X5_toMemory at h
  refine aw_iload_n 2 dX5_toMemory_0 rfl rfl ?_
  refine aw_iconst (v := (5 : Int32)) dX5_toMemory_1 (by decide) ?_
  refine aw_ishr dX5_toMemory_2 ?_
  refine aw_bipush (v := (25 : Int32)) dX5_toMemory_3 (by decide) ?_
  refine aw_ishl dX5_toMemory_5 ?_
  refine aw_iload_n 0 dX5_toMemory_6 rfl rfl ?_
  refine aw_bipush (v := (20 : Int32)) dX5_toMemory_7 (by decide) ?_
  refine aw_ishl dX5_toMemory_9 ?_
  refine aw_ior dX5_toMemory_10 ?_
  refine aw_iload_n 1 dX5_toMemory_11 rfl rfl ?_
  refine aw_bipush (v := (15 : Int32)) dX5_toMemory_12 (by decide) ?_
  refine aw_ishl dX5_toMemory_14 ?_
  refine aw_ior dX5_toMemory_15 ?_
  refine aw_sipush (v := (8192 : Int32)) dX5_toMemory_16 (by decide) ?_
  refine aw_ior dX5_toMemory_19 ?_
  refine aw_iload_n 2 dX5_toMemory_20 rfl rfl ?_
  refine aw_bipush (v := (31 : Int32)) dX5_toMemory_21 (by decide) ?_
  refine aw_iand dX5_toMemory_23 ?_
  refine aw_bipush (v := (7 : Int32)) dX5_toMemory_24 (by decide) ?_
  refine aw_ishl dX5_toMemory_26 ?_
  refine aw_ior dX5_toMemory_27 ?_
  refine aw_bipush (v := (35 : Int32)) dX5_toMemory_28 (by decide) ?_
  refine aw_ior dX5_toMemory_30 ?_
  exact aw_iret rfl dX5_toMemory_31 ⟨_, (), rfl, rfl, h⟩
def wp_X5_jump (a0 : Int32) (a1 : Int32) (post : Int32 → Unit → Prop) : Prop :=
  (∀ y1 : Int32, y1 = ((((((a1 >>> ((20 : Int32) &&& 31)) &&& (1 : Int32)) <<< ((31 : Int32) &&& 31)) ||| (((a1 >>> ((1 : Int32) &&& 31)) &&& (1023 : Int32)) <<< ((21 : Int32) &&& 31))) ||| (((a1 >>> ((11 : Int32) &&& 31)) &&& (1 : Int32)) <<< ((20 : Int32) &&& 31))) ||| (((a1 >>> ((12 : Int32) &&& 31)) &&& (255 : Int32)) <<< ((12 : Int32) &&& 31))) → post ((y1 ||| (a0 <<< ((7 : Int32) &&& 31))) ||| (111 : Int32)) ())
theorem kX5_jump {G : aw_G} {d : Nat} (hd : 0 ≤ d) {a0 : Int32} {a1 : Int32} {post : Int32 → Unit → Prop} (h : wp_X5_jump a0 a1 post) : AC G MX5_jump d 0 0 0 [.int a0, .int a1] [] (aw_pi (fun _ : Unit => []) post) := by
  refine AC.of (lv := [(0, .int a0), (1, .int a1)]) (by decide) (Nat.le_of_ble_eq_true rfl) rfl ?_
  unfold wp_X5_jump at h
  refine aw_iload_n 1 dX5_jump_0 rfl rfl ?_
  refine aw_bipush (v := (20 : Int32)) dX5_jump_1 (by decide) ?_
  refine aw_ishr dX5_jump_3 ?_
  refine aw_iconst (v := (1 : Int32)) dX5_jump_4 (by decide) ?_
  refine aw_iand dX5_jump_5 ?_
  refine aw_bipush (v := (31 : Int32)) dX5_jump_6 (by decide) ?_
  refine aw_ishl dX5_jump_8 ?_
  refine aw_iload_n 1 dX5_jump_9 rfl rfl ?_
  refine aw_iconst (v := (1 : Int32)) dX5_jump_10 (by decide) ?_
  refine aw_ishr dX5_jump_11 ?_
  refine aw_sipush (v := (1023 : Int32)) dX5_jump_12 (by decide) ?_
  refine aw_iand dX5_jump_15 ?_
  refine aw_bipush (v := (21 : Int32)) dX5_jump_16 (by decide) ?_
  refine aw_ishl dX5_jump_18 ?_
  refine aw_ior dX5_jump_19 ?_
  refine aw_iload_n 1 dX5_jump_20 rfl rfl ?_
  refine aw_bipush (v := (11 : Int32)) dX5_jump_21 (by decide) ?_
  refine aw_ishr dX5_jump_23 ?_
  refine aw_iconst (v := (1 : Int32)) dX5_jump_24 (by decide) ?_
  refine aw_iand dX5_jump_25 ?_
  refine aw_bipush (v := (20 : Int32)) dX5_jump_26 (by decide) ?_
  refine aw_ishl dX5_jump_28 ?_
  refine aw_ior dX5_jump_29 ?_
  refine aw_iload_n 1 dX5_jump_30 rfl rfl ?_
  refine aw_bipush (v := (12 : Int32)) dX5_jump_31 (by decide) ?_
  refine aw_ishr dX5_jump_33 ?_
  refine aw_sipush (v := (255 : Int32)) dX5_jump_34 (by decide) ?_
  refine aw_iand dX5_jump_37 ?_
  refine aw_bipush (v := (12 : Int32)) dX5_jump_38 (by decide) ?_
  refine aw_ishl dX5_jump_40 ?_
  refine aw_ior dX5_jump_41 ?_
  refine aw_topi (fun y1 ey1 => ?_)
  have h := h y1 ey1
  refine aw_istore_n (lv' := [(2, .int y1), (0, .int a0), (1, .int a1)]) dX5_jump_42 rfl (by decide) rfl ?_
  refine aw_iload_n 0 dX5_jump_43 rfl rfl ?_
  refine aw_iload_n 1 dX5_jump_44 rfl rfl ?_
  refine aw_bipush (v := (7 : Int32)) dX5_jump_45 (by decide) ?_
  refine aw_ishl dX5_jump_47 ?_
  refine aw_ior dX5_jump_48 ?_
  refine aw_bipush (v := (111 : Int32)) dX5_jump_49 (by decide) ?_
  refine aw_ior dX5_jump_51 ?_
  exact aw_iret rfl dX5_jump_52 ⟨_, (), rfl, rfl, h⟩
def wp_X5_jumpByRegister (a0 : Int32) (a1 : Int32) (post : Int32 → Unit → Prop) : Prop :=
  post (((a1 <<< ((15 : Int32) &&& 31)) ||| (a0 <<< ((7 : Int32) &&& 31))) ||| (103 : Int32)) ()
theorem kX5_jumpByRegister {G : aw_G} {d : Nat} (hd : 0 ≤ d) {a0 : Int32} {a1 : Int32} {post : Int32 → Unit → Prop} (h : wp_X5_jumpByRegister a0 a1 post) : AC G MX5_jumpByRegister d 0 0 0 [.int a0, .int a1] [] (aw_pi (fun _ : Unit => []) post) := by
  refine AC.of (lv := [(0, .int a0), (1, .int a1)]) (by decide) (Nat.le_of_ble_eq_true rfl) rfl ?_
  unfold wp_X5_jumpByRegister at h
  refine aw_iload_n 1 dX5_jumpByRegister_0 rfl rfl ?_
  refine aw_bipush (v := (15 : Int32)) dX5_jumpByRegister_1 (by decide) ?_
  refine aw_ishl dX5_jumpByRegister_3 ?_
  refine aw_iload_n 0 dX5_jumpByRegister_4 rfl rfl ?_
  refine aw_bipush (v := (7 : Int32)) dX5_jumpByRegister_5 (by decide) ?_
  refine aw_ishl dX5_jumpByRegister_7 ?_
  refine aw_ior dX5_jumpByRegister_8 ?_
  refine aw_bipush (v := (103 : Int32)) dX5_jumpByRegister_9 (by decide) ?_
  refine aw_ior dX5_jumpByRegister_11 ?_
  exact aw_iret rfl dX5_jumpByRegister_12 ⟨_, (), rfl, rfl, h⟩
def wp_X5_branch (a0 : Int32) (a1 : Int32) (a2 : Int32) (a3 : Int32) (post : Int32 → Unit → Prop) : Prop :=
  (∀ y1 : Int32, y1 = ((((((a3 >>> ((12 : Int32) &&& 31)) &&& (1 : Int32)) <<< ((31 : Int32) &&& 31)) ||| (((a3 >>> ((5 : Int32) &&& 31)) &&& (63 : Int32)) <<< ((25 : Int32) &&& 31))) ||| (((a3 >>> ((1 : Int32) &&& 31)) &&& (15 : Int32)) <<< ((8 : Int32) &&& 31))) ||| (((a3 >>> ((11 : Int32) &&& 31)) &&& (1 : Int32)) <<< ((7 : Int32) &&& 31))) → post ((((y1 ||| (a2 <<< ((20 : Int32) &&& 31))) ||| (a1 <<< ((15 : Int32) &&& 31))) ||| (a0 <<< ((12 : Int32) &&& 31))) ||| (99 : Int32)) ())
theorem kX5_branch {G : aw_G} {d : Nat} (hd : 0 ≤ d) {a0 : Int32} {a1 : Int32} {a2 : Int32} {a3 : Int32} {post : Int32 → Unit → Prop} (h : wp_X5_branch a0 a1 a2 a3 post) : AC G MX5_branch d 0 0 0 [.int a0, .int a1, .int a2, .int a3] [] (aw_pi (fun _ : Unit => []) post) := by
  refine AC.of (lv := [(0, .int a0), (1, .int a1), (2, .int a2), (3, .int a3)]) (by decide) (Nat.le_of_ble_eq_true rfl) rfl ?_
  unfold wp_X5_branch at h
  refine aw_iload_n 3 dX5_branch_0 rfl rfl ?_
  refine aw_bipush (v := (12 : Int32)) dX5_branch_1 (by decide) ?_
  refine aw_ishr dX5_branch_3 ?_
  refine aw_iconst (v := (1 : Int32)) dX5_branch_4 (by decide) ?_
  refine aw_iand dX5_branch_5 ?_
  refine aw_bipush (v := (31 : Int32)) dX5_branch_6 (by decide) ?_
  refine aw_ishl dX5_branch_8 ?_
  refine aw_iload_n 3 dX5_branch_9 rfl rfl ?_
  refine aw_iconst (v := (5 : Int32)) dX5_branch_10 (by decide) ?_
  refine aw_ishr dX5_branch_11 ?_
  refine aw_bipush (v := (63 : Int32)) dX5_branch_12 (by decide) ?_
  refine aw_iand dX5_branch_14 ?_
  refine aw_bipush (v := (25 : Int32)) dX5_branch_15 (by decide) ?_
  refine aw_ishl dX5_branch_17 ?_
  refine aw_ior dX5_branch_18 ?_
  refine aw_iload_n 3 dX5_branch_19 rfl rfl ?_
  refine aw_iconst (v := (1 : Int32)) dX5_branch_20 (by decide) ?_
  refine aw_ishr dX5_branch_21 ?_
  refine aw_bipush (v := (15 : Int32)) dX5_branch_22 (by decide) ?_
  refine aw_iand dX5_branch_24 ?_
  refine aw_bipush (v := (8 : Int32)) dX5_branch_25 (by decide) ?_
  refine aw_ishl dX5_branch_27 ?_
  refine aw_ior dX5_branch_28 ?_
  refine aw_iload_n 3 dX5_branch_29 rfl rfl ?_
  refine aw_bipush (v := (11 : Int32)) dX5_branch_30 (by decide) ?_
  refine aw_ishr dX5_branch_32 ?_
  refine aw_iconst (v := (1 : Int32)) dX5_branch_33 (by decide) ?_
  refine aw_iand dX5_branch_34 ?_
  refine aw_bipush (v := (7 : Int32)) dX5_branch_35 (by decide) ?_
  refine aw_ishl dX5_branch_37 ?_
  refine aw_ior dX5_branch_38 ?_
  refine aw_topi (fun y1 ey1 => ?_)
  have h := h y1 ey1
  refine aw_istore (lv' := [(4, .int y1), (0, .int a0), (1, .int a1), (2, .int a2), (3, .int a3)]) dX5_branch_39 (by decide) rfl ?_
  refine aw_iload 0 dX5_branch_41 rfl ?_
  refine aw_iload_n 3 dX5_branch_43 rfl rfl ?_
  refine aw_bipush (v := (20 : Int32)) dX5_branch_44 (by decide) ?_
  refine aw_ishl dX5_branch_46 ?_
  refine aw_ior dX5_branch_47 ?_
  refine aw_iload_n 2 dX5_branch_48 rfl rfl ?_
  refine aw_bipush (v := (15 : Int32)) dX5_branch_49 (by decide) ?_
  refine aw_ishl dX5_branch_51 ?_
  refine aw_ior dX5_branch_52 ?_
  refine aw_iload_n 1 dX5_branch_53 rfl rfl ?_
  refine aw_bipush (v := (12 : Int32)) dX5_branch_54 (by decide) ?_
  refine aw_ishl dX5_branch_56 ?_
  refine aw_ior dX5_branch_57 ?_
  refine aw_bipush (v := (99 : Int32)) dX5_branch_58 (by decide) ?_
  refine aw_ior dX5_branch_60 ?_
  exact aw_iret rfl dX5_branch_61 ⟨_, (), rfl, rfl, h⟩
def wp_X5_branchIfEqual (a0 : Int32) (a1 : Int32) (a2 : Int32) (post : Int32 → Unit → Prop) : Prop :=
  wp_X5_branch (0 : Int32) a0 a1 a2 (fun r1 τ2 => post r1 ())
theorem kX5_branchIfEqual {G : aw_G} {d : Nat} (hd : 1 ≤ d) {a0 : Int32} {a1 : Int32} {a2 : Int32} {post : Int32 → Unit → Prop} (h : wp_X5_branchIfEqual a0 a1 a2 post) : AC G MX5_branchIfEqual d 0 0 0 [.int a0, .int a1, .int a2] [] (aw_pi (fun _ : Unit => []) post) := by
  refine AC.of (lv := [(0, .int a0), (1, .int a1), (2, .int a2)]) (by decide) (Nat.le_of_ble_eq_true rfl) rfl ?_
  unfold wp_X5_branchIfEqual at h
  refine aw_iconst (v := (0 : Int32)) dX5_branchIfEqual_0 (by decide) ?_
  refine aw_iload_n 0 dX5_branchIfEqual_1 rfl rfl ?_
  refine aw_iload_n 1 dX5_branchIfEqual_2 rfl rfl ?_
  refine aw_iload_n 2 dX5_branchIfEqual_3 rfl rfl ?_
  refine aw_callST (st := []) (As := [.int (0 : Int32), .int a0, .int a1, .int a2]) lX5_13 sttX5_branch (by omega) (kX5_branch (d := 0) (by omega) h) rfl rfl rfl dX5_branchIfEqual_4 rfl (fun _ _ hh => ?_)
  obtain ⟨r1, τ2, rfl, rfl, h⟩ := hh
  refine ⟨rfl, (fun x hx => by cases hx; rfl), ?_⟩
  refine aw_stk (st' := [.int r1]) rfl ?_
  exact aw_iret rfl dX5_branchIfEqual_7 ⟨_, (), rfl, rfl, h⟩
def wp_X5_branchIfNotEqual (a0 : Int32) (a1 : Int32) (a2 : Int32) (post : Int32 → Unit → Prop) : Prop :=
  wp_X5_branch (1 : Int32) a0 a1 a2 (fun r1 τ2 => post r1 ())
theorem kX5_branchIfNotEqual {G : aw_G} {d : Nat} (hd : 1 ≤ d) {a0 : Int32} {a1 : Int32} {a2 : Int32} {post : Int32 → Unit → Prop} (h : wp_X5_branchIfNotEqual a0 a1 a2 post) : AC G MX5_branchIfNotEqual d 0 0 0 [.int a0, .int a1, .int a2] [] (aw_pi (fun _ : Unit => []) post) := by
  refine AC.of (lv := [(0, .int a0), (1, .int a1), (2, .int a2)]) (by decide) (Nat.le_of_ble_eq_true rfl) rfl ?_
  unfold wp_X5_branchIfNotEqual at h
  refine aw_iconst (v := (1 : Int32)) dX5_branchIfNotEqual_0 (by decide) ?_
  refine aw_iload_n 0 dX5_branchIfNotEqual_1 rfl rfl ?_
  refine aw_iload_n 1 dX5_branchIfNotEqual_2 rfl rfl ?_
  refine aw_iload_n 2 dX5_branchIfNotEqual_3 rfl rfl ?_
  refine aw_callST (st := []) (As := [.int (1 : Int32), .int a0, .int a1, .int a2]) lX5_13 sttX5_branch (by omega) (kX5_branch (d := 0) (by omega) h) rfl rfl rfl dX5_branchIfNotEqual_4 rfl (fun _ _ hh => ?_)
  obtain ⟨r1, τ2, rfl, rfl, h⟩ := hh
  refine ⟨rfl, (fun x hx => by cases hx; rfl), ?_⟩
  refine aw_stk (st' := [.int r1]) rfl ?_
  exact aw_iret rfl dX5_branchIfNotEqual_7 ⟨_, (), rfl, rfl, h⟩
def wp_X5_withRegisters (a0 : Int32) (a1 : Int32) (a2 : Int32) (a3 : Int32) (a4 : Int32) (post : Int32 → Unit → Prop) : Prop :=
  post ((((((a0 <<< ((25 : Int32) &&& 31)) ||| (a4 <<< ((20 : Int32) &&& 31))) ||| (a3 <<< ((15 : Int32) &&& 31))) ||| (a1 <<< ((12 : Int32) &&& 31))) ||| (a2 <<< ((7 : Int32) &&& 31))) ||| (51 : Int32)) ()
theorem kX5_withRegisters {G : aw_G} {d : Nat} (hd : 0 ≤ d) {a0 : Int32} {a1 : Int32} {a2 : Int32} {a3 : Int32} {a4 : Int32} {post : Int32 → Unit → Prop} (h : wp_X5_withRegisters a0 a1 a2 a3 a4 post) : AC G MX5_withRegisters d 0 0 0 [.int a0, .int a1, .int a2, .int a3, .int a4] [] (aw_pi (fun _ : Unit => []) post) := by
  refine AC.of (lv := [(0, .int a0), (1, .int a1), (2, .int a2), (3, .int a3), (4, .int a4)]) (by decide) (Nat.le_of_ble_eq_true rfl) rfl ?_
  unfold wp_X5_withRegisters at h
  refine aw_iload_n 0 dX5_withRegisters_0 rfl rfl ?_
  refine aw_bipush (v := (25 : Int32)) dX5_withRegisters_1 (by decide) ?_
  refine aw_ishl dX5_withRegisters_3 ?_
  refine aw_iload 4 dX5_withRegisters_4 rfl ?_
  refine aw_bipush (v := (20 : Int32)) dX5_withRegisters_6 (by decide) ?_
  refine aw_ishl dX5_withRegisters_8 ?_
  refine aw_ior dX5_withRegisters_9 ?_
  refine aw_iload_n 3 dX5_withRegisters_10 rfl rfl ?_
  refine aw_bipush (v := (15 : Int32)) dX5_withRegisters_11 (by decide) ?_
  refine aw_ishl dX5_withRegisters_13 ?_
  refine aw_ior dX5_withRegisters_14 ?_
  refine aw_iload_n 1 dX5_withRegisters_15 rfl rfl ?_
  refine aw_bipush (v := (12 : Int32)) dX5_withRegisters_16 (by decide) ?_
  refine aw_ishl dX5_withRegisters_18 ?_
  refine aw_ior dX5_withRegisters_19 ?_
  refine aw_iload_n 2 dX5_withRegisters_20 rfl rfl ?_
  refine aw_bipush (v := (7 : Int32)) dX5_withRegisters_21 (by decide) ?_
  refine aw_ishl dX5_withRegisters_23 ?_
  refine aw_ior dX5_withRegisters_24 ?_
  refine aw_bipush (v := (51 : Int32)) dX5_withRegisters_25 (by decide) ?_
  refine aw_ior dX5_withRegisters_27 ?_
  exact aw_iret rfl dX5_withRegisters_28 ⟨_, (), rfl, rfl, h⟩
def wp_X5_join (a0 : Int32) (a1 : Int32) (a2 : Int32) (a3 : Int32) (post : Int32 → Unit → Prop) : Prop :=
  ((a0 = (37 : Int32) → wp_X5_withRegisters (1 : Int32) (6 : Int32) a1 a2 a3 (fun r2 τ3 => post r2 ())) ∧ (¬ a0 = (37 : Int32) → ((a0 = (38 : Int32) → wp_X5_withRegisters (0 : Int32) (7 : Int32) a1 a2 a3 (fun r5 τ6 => post r5 ())) ∧ (¬ a0 = (38 : Int32) → ((a0 = (42 : Int32) → wp_X5_withRegisters (1 : Int32) (0 : Int32) a1 a2 a3 (fun r8 τ9 => post r8 ())) ∧ (¬ a0 = (42 : Int32) → ((a0 = (45 : Int32) → wp_X5_withRegisters (32 : Int32) (0 : Int32) a1 a2 a3 (fun r11 τ12 => post r11 ())) ∧ (¬ a0 = (45 : Int32) → ((a0 = (47 : Int32) → wp_X5_withRegisters (1 : Int32) (4 : Int32) a1 a2 a3 (fun r14 τ15 => post r14 ())) ∧ (¬ a0 = (47 : Int32) → ((a0 = (60 : Int32) → wp_X5_withRegisters (0 : Int32) (2 : Int32) a1 a2 a3 (fun r17 τ18 => post r17 ())) ∧ (¬ a0 = (60 : Int32) → ((a0 = (94 : Int32) → wp_X5_withRegisters (0 : Int32) (4 : Int32) a1 a2 a3 (fun r20 τ21 => post r20 ())) ∧ (¬ a0 = (94 : Int32) → ((a0 = (124 : Int32) → wp_X5_withRegisters (0 : Int32) (6 : Int32) a1 a2 a3 (fun r23 τ24 => post r23 ())) ∧ (¬ a0 = (124 : Int32) → ((a0 = (130 : Int32) → wp_X5_withRegisters (0 : Int32) (1 : Int32) a1 a2 a3 (fun r26 τ27 => post r26 ())) ∧ (¬ a0 = (130 : Int32) → ((a0 = (131 : Int32) → wp_X5_withRegisters (32 : Int32) (5 : Int32) a1 a2 a3 (fun r29 τ30 => post r29 ())) ∧ (¬ a0 = (131 : Int32) → wp_X5_withRegisters (0 : Int32) (0 : Int32) a1 a2 a3 (fun r31 τ32 => post r31 ())))))))))))))))))))))
theorem kX5_join {G : aw_G} {d : Nat} (hd : 1 ≤ d) {a0 : Int32} {a1 : Int32} {a2 : Int32} {a3 : Int32} {post : Int32 → Unit → Prop} (h : wp_X5_join a0 a1 a2 a3 post) : AC G MX5_join d 0 0 0 [.int a0, .int a1, .int a2, .int a3] [] (aw_pi (fun _ : Unit => []) post) := by
  refine AC.of (lv := [(0, .int a0), (1, .int a1), (2, .int a2), (3, .int a3)]) (by decide) (Nat.le_of_ble_eq_true rfl) rfl ?_
  unfold wp_X5_join at h
  refine aw_iload_n 0 dX5_join_0 rfl rfl ?_
  by_cases c1 : a0 = (37 : Int32)
  · refine aw_lookup 120 (off := 119) dX5_join_1 (by decide) (aw_swh (a := 37) c1 rfl) (by decide) ?_
    have h := h.1 c1
    refine aw_iconst (v := (1 : Int32)) dX5_join_120 (by decide) ?_
    refine aw_bipush (v := (6 : Int32)) dX5_join_121 (by decide) ?_
    refine aw_iload_n 1 dX5_join_123 rfl rfl ?_
    refine aw_iload_n 2 dX5_join_124 rfl rfl ?_
    refine aw_iload_n 3 dX5_join_125 rfl rfl ?_
    refine aw_callST (st := []) (As := [.int (1 : Int32), .int (6 : Int32), .int a1, .int a2, .int a3]) lX5_16 sttX5_withRegisters (by omega) (kX5_withRegisters (d := 0) (by omega) h) rfl rfl rfl dX5_join_126 rfl (fun _ _ hh => ?_)
    obtain ⟨r2, τ3, rfl, rfl, h⟩ := hh
    refine ⟨rfl, (fun x hx => by cases hx; rfl), ?_⟩
    refine aw_stk (st' := [.int r2]) rfl ?_
    exact aw_iret rfl dX5_join_129 ⟨_, (), rfl, rfl, h⟩
  have h := h.2 c1
  by_cases c4 : a0 = (38 : Int32)
  · refine aw_lookup 130 (off := 129) dX5_join_1 (by decide) ((lv_osw (a := 37) c1 rfl).trans (aw_swh (a := 38) c4 rfl)) (by decide) ?_
    have h := h.1 c4
    refine aw_iconst (v := (0 : Int32)) dX5_join_130 (by decide) ?_
    refine aw_bipush (v := (7 : Int32)) dX5_join_131 (by decide) ?_
    refine aw_iload_n 1 dX5_join_133 rfl rfl ?_
    refine aw_iload_n 2 dX5_join_134 rfl rfl ?_
    refine aw_iload_n 3 dX5_join_135 rfl rfl ?_
    refine aw_callST (st := []) (As := [.int (0 : Int32), .int (7 : Int32), .int a1, .int a2, .int a3]) lX5_16 sttX5_withRegisters (by omega) (kX5_withRegisters (d := 0) (by omega) h) rfl rfl rfl dX5_join_136 rfl (fun _ _ hh => ?_)
    obtain ⟨r5, τ6, rfl, rfl, h⟩ := hh
    refine ⟨rfl, (fun x hx => by cases hx; rfl), ?_⟩
    refine aw_stk (st' := [.int r5]) rfl ?_
    exact aw_iret rfl dX5_join_139 ⟨_, (), rfl, rfl, h⟩
  have h := h.2 c4
  by_cases c7 : a0 = (42 : Int32)
  · refine aw_lookup 102 (off := 101) dX5_join_1 (by decide) ((lv_osw (a := 37) c1 rfl).trans ((lv_osw (a := 38) c4 rfl).trans (aw_swh (a := 42) c7 rfl))) (by decide) ?_
    have h := h.1 c7
    refine aw_iconst (v := (1 : Int32)) dX5_join_102 (by decide) ?_
    refine aw_iconst (v := (0 : Int32)) dX5_join_103 (by decide) ?_
    refine aw_iload_n 1 dX5_join_104 rfl rfl ?_
    refine aw_iload_n 2 dX5_join_105 rfl rfl ?_
    refine aw_iload_n 3 dX5_join_106 rfl rfl ?_
    refine aw_callST (st := []) (As := [.int (1 : Int32), .int (0 : Int32), .int a1, .int a2, .int a3]) lX5_16 sttX5_withRegisters (by omega) (kX5_withRegisters (d := 0) (by omega) h) rfl rfl rfl dX5_join_107 rfl (fun _ _ hh => ?_)
    obtain ⟨r8, τ9, rfl, rfl, h⟩ := hh
    refine ⟨rfl, (fun x hx => by cases hx; rfl), ?_⟩
    refine aw_stk (st' := [.int r8]) rfl ?_
    exact aw_iret rfl dX5_join_110 ⟨_, (), rfl, rfl, h⟩
  have h := h.2 c7
  by_cases c10 : a0 = (45 : Int32)
  · refine aw_lookup 92 (off := 91) dX5_join_1 (by decide) ((lv_osw (a := 37) c1 rfl).trans ((lv_osw (a := 38) c4 rfl).trans ((lv_osw (a := 42) c7 rfl).trans (aw_swh (a := 45) c10 rfl)))) (by decide) ?_
    have h := h.1 c10
    refine aw_bipush (v := (32 : Int32)) dX5_join_92 (by decide) ?_
    refine aw_iconst (v := (0 : Int32)) dX5_join_94 (by decide) ?_
    refine aw_iload_n 1 dX5_join_95 rfl rfl ?_
    refine aw_iload_n 2 dX5_join_96 rfl rfl ?_
    refine aw_iload_n 3 dX5_join_97 rfl rfl ?_
    refine aw_callST (st := []) (As := [.int (32 : Int32), .int (0 : Int32), .int a1, .int a2, .int a3]) lX5_16 sttX5_withRegisters (by omega) (kX5_withRegisters (d := 0) (by omega) h) rfl rfl rfl dX5_join_98 rfl (fun _ _ hh => ?_)
    obtain ⟨r11, τ12, rfl, rfl, h⟩ := hh
    refine ⟨rfl, (fun x hx => by cases hx; rfl), ?_⟩
    refine aw_stk (st' := [.int r11]) rfl ?_
    exact aw_iret rfl dX5_join_101 ⟨_, (), rfl, rfl, h⟩
  have h := h.2 c10
  by_cases c13 : a0 = (47 : Int32)
  · refine aw_lookup 111 (off := 110) dX5_join_1 (by decide) ((lv_osw (a := 37) c1 rfl).trans ((lv_osw (a := 38) c4 rfl).trans ((lv_osw (a := 42) c7 rfl).trans ((lv_osw (a := 45) c10 rfl).trans (aw_swh (a := 47) c13 rfl))))) (by decide) ?_
    have h := h.1 c13
    refine aw_iconst (v := (1 : Int32)) dX5_join_111 (by decide) ?_
    refine aw_iconst (v := (4 : Int32)) dX5_join_112 (by decide) ?_
    refine aw_iload_n 1 dX5_join_113 rfl rfl ?_
    refine aw_iload_n 2 dX5_join_114 rfl rfl ?_
    refine aw_iload_n 3 dX5_join_115 rfl rfl ?_
    refine aw_callST (st := []) (As := [.int (1 : Int32), .int (4 : Int32), .int a1, .int a2, .int a3]) lX5_16 sttX5_withRegisters (by omega) (kX5_withRegisters (d := 0) (by omega) h) rfl rfl rfl dX5_join_116 rfl (fun _ _ hh => ?_)
    obtain ⟨r14, τ15, rfl, rfl, h⟩ := hh
    refine ⟨rfl, (fun x hx => by cases hx; rfl), ?_⟩
    refine aw_stk (st' := [.int r14]) rfl ?_
    exact aw_iret rfl dX5_join_119 ⟨_, (), rfl, rfl, h⟩
  have h := h.2 c13
  by_cases c16 : a0 = (60 : Int32)
  · refine aw_lookup 159 (off := 158) dX5_join_1 (by decide) ((lv_osw (a := 37) c1 rfl).trans ((lv_osw (a := 38) c4 rfl).trans ((lv_osw (a := 42) c7 rfl).trans ((lv_osw (a := 45) c10 rfl).trans ((lv_osw (a := 47) c13 rfl).trans (aw_swh (a := 60) c16 rfl)))))) (by decide) ?_
    have h := h.1 c16
    refine aw_iconst (v := (0 : Int32)) dX5_join_159 (by decide) ?_
    refine aw_iconst (v := (2 : Int32)) dX5_join_160 (by decide) ?_
    refine aw_iload_n 1 dX5_join_161 rfl rfl ?_
    refine aw_iload_n 2 dX5_join_162 rfl rfl ?_
    refine aw_iload_n 3 dX5_join_163 rfl rfl ?_
    refine aw_callST (st := []) (As := [.int (0 : Int32), .int (2 : Int32), .int a1, .int a2, .int a3]) lX5_16 sttX5_withRegisters (by omega) (kX5_withRegisters (d := 0) (by omega) h) rfl rfl rfl dX5_join_164 rfl (fun _ _ hh => ?_)
    obtain ⟨r17, τ18, rfl, rfl, h⟩ := hh
    refine ⟨rfl, (fun x hx => by cases hx; rfl), ?_⟩
    refine aw_stk (st' := [.int r17]) rfl ?_
    exact aw_iret rfl dX5_join_167 ⟨_, (), rfl, rfl, h⟩
  have h := h.2 c16
  by_cases c19 : a0 = (94 : Int32)
  · refine aw_lookup 150 (off := 149) dX5_join_1 (by decide) ((lv_osw (a := 37) c1 rfl).trans ((lv_osw (a := 38) c4 rfl).trans ((lv_osw (a := 42) c7 rfl).trans ((lv_osw (a := 45) c10 rfl).trans ((lv_osw (a := 47) c13 rfl).trans ((lv_osw (a := 60) c16 rfl).trans (aw_swh (a := 94) c19 rfl))))))) (by decide) ?_
    have h := h.1 c19
    refine aw_iconst (v := (0 : Int32)) dX5_join_150 (by decide) ?_
    refine aw_iconst (v := (4 : Int32)) dX5_join_151 (by decide) ?_
    refine aw_iload_n 1 dX5_join_152 rfl rfl ?_
    refine aw_iload_n 2 dX5_join_153 rfl rfl ?_
    refine aw_iload_n 3 dX5_join_154 rfl rfl ?_
    refine aw_callST (st := []) (As := [.int (0 : Int32), .int (4 : Int32), .int a1, .int a2, .int a3]) lX5_16 sttX5_withRegisters (by omega) (kX5_withRegisters (d := 0) (by omega) h) rfl rfl rfl dX5_join_155 rfl (fun _ _ hh => ?_)
    obtain ⟨r20, τ21, rfl, rfl, h⟩ := hh
    refine ⟨rfl, (fun x hx => by cases hx; rfl), ?_⟩
    refine aw_stk (st' := [.int r20]) rfl ?_
    exact aw_iret rfl dX5_join_158 ⟨_, (), rfl, rfl, h⟩
  have h := h.2 c19
  by_cases c22 : a0 = (124 : Int32)
  · refine aw_lookup 140 (off := 139) dX5_join_1 (by decide) ((lv_osw (a := 37) c1 rfl).trans ((lv_osw (a := 38) c4 rfl).trans ((lv_osw (a := 42) c7 rfl).trans ((lv_osw (a := 45) c10 rfl).trans ((lv_osw (a := 47) c13 rfl).trans ((lv_osw (a := 60) c16 rfl).trans ((lv_osw (a := 94) c19 rfl).trans (aw_swh (a := 124) c22 rfl)))))))) (by decide) ?_
    have h := h.1 c22
    refine aw_iconst (v := (0 : Int32)) dX5_join_140 (by decide) ?_
    refine aw_bipush (v := (6 : Int32)) dX5_join_141 (by decide) ?_
    refine aw_iload_n 1 dX5_join_143 rfl rfl ?_
    refine aw_iload_n 2 dX5_join_144 rfl rfl ?_
    refine aw_iload_n 3 dX5_join_145 rfl rfl ?_
    refine aw_callST (st := []) (As := [.int (0 : Int32), .int (6 : Int32), .int a1, .int a2, .int a3]) lX5_16 sttX5_withRegisters (by omega) (kX5_withRegisters (d := 0) (by omega) h) rfl rfl rfl dX5_join_146 rfl (fun _ _ hh => ?_)
    obtain ⟨r23, τ24, rfl, rfl, h⟩ := hh
    refine ⟨rfl, (fun x hx => by cases hx; rfl), ?_⟩
    refine aw_stk (st' := [.int r23]) rfl ?_
    exact aw_iret rfl dX5_join_149 ⟨_, (), rfl, rfl, h⟩
  have h := h.2 c22
  by_cases c25 : a0 = (130 : Int32)
  · refine aw_lookup 168 (off := 167) dX5_join_1 (by decide) ((lv_osw (a := 37) c1 rfl).trans ((lv_osw (a := 38) c4 rfl).trans ((lv_osw (a := 42) c7 rfl).trans ((lv_osw (a := 45) c10 rfl).trans ((lv_osw (a := 47) c13 rfl).trans ((lv_osw (a := 60) c16 rfl).trans ((lv_osw (a := 94) c19 rfl).trans ((lv_osw (a := 124) c22 rfl).trans (aw_swh (a := 130) c25 rfl))))))))) (by decide) ?_
    have h := h.1 c25
    refine aw_iconst (v := (0 : Int32)) dX5_join_168 (by decide) ?_
    refine aw_iconst (v := (1 : Int32)) dX5_join_169 (by decide) ?_
    refine aw_iload_n 1 dX5_join_170 rfl rfl ?_
    refine aw_iload_n 2 dX5_join_171 rfl rfl ?_
    refine aw_iload_n 3 dX5_join_172 rfl rfl ?_
    refine aw_callST (st := []) (As := [.int (0 : Int32), .int (1 : Int32), .int a1, .int a2, .int a3]) lX5_16 sttX5_withRegisters (by omega) (kX5_withRegisters (d := 0) (by omega) h) rfl rfl rfl dX5_join_173 rfl (fun _ _ hh => ?_)
    obtain ⟨r26, τ27, rfl, rfl, h⟩ := hh
    refine ⟨rfl, (fun x hx => by cases hx; rfl), ?_⟩
    refine aw_stk (st' := [.int r26]) rfl ?_
    exact aw_iret rfl dX5_join_176 ⟨_, (), rfl, rfl, h⟩
  have h := h.2 c25
  by_cases c28 : a0 = (131 : Int32)
  · refine aw_lookup 177 (off := 176) dX5_join_1 (by decide) ((lv_osw (a := 37) c1 rfl).trans ((lv_osw (a := 38) c4 rfl).trans ((lv_osw (a := 42) c7 rfl).trans ((lv_osw (a := 45) c10 rfl).trans ((lv_osw (a := 47) c13 rfl).trans ((lv_osw (a := 60) c16 rfl).trans ((lv_osw (a := 94) c19 rfl).trans ((lv_osw (a := 124) c22 rfl).trans ((lv_osw (a := 130) c25 rfl).trans (aw_swh (a := 131) c28 rfl)))))))))) (by decide) ?_
    have h := h.1 c28
    refine aw_bipush (v := (32 : Int32)) dX5_join_177 (by decide) ?_
    refine aw_iconst (v := (5 : Int32)) dX5_join_179 (by decide) ?_
    refine aw_iload_n 1 dX5_join_180 rfl rfl ?_
    refine aw_iload_n 2 dX5_join_181 rfl rfl ?_
    refine aw_iload_n 3 dX5_join_182 rfl rfl ?_
    refine aw_callST (st := []) (As := [.int (32 : Int32), .int (5 : Int32), .int a1, .int a2, .int a3]) lX5_16 sttX5_withRegisters (by omega) (kX5_withRegisters (d := 0) (by omega) h) rfl rfl rfl dX5_join_183 rfl (fun _ _ hh => ?_)
    obtain ⟨r29, τ30, rfl, rfl, h⟩ := hh
    refine ⟨rfl, (fun x hx => by cases hx; rfl), ?_⟩
    refine aw_stk (st' := [.int r29]) rfl ?_
    exact aw_iret rfl dX5_join_186 ⟨_, (), rfl, rfl, h⟩
  have h := h.2 c28
  refine aw_lookup 187 (off := 186) dX5_join_1 (by decide) ((lv_osw (a := 37) c1 rfl).trans ((lv_osw (a := 38) c4 rfl).trans ((lv_osw (a := 42) c7 rfl).trans ((lv_osw (a := 45) c10 rfl).trans ((lv_osw (a := 47) c13 rfl).trans ((lv_osw (a := 60) c16 rfl).trans ((lv_osw (a := 94) c19 rfl).trans ((lv_osw (a := 124) c22 rfl).trans ((lv_osw (a := 130) c25 rfl).trans ((lv_osw (a := 131) c28 rfl).trans rfl)))))))))) (by decide) ?_
  refine aw_iconst (v := (0 : Int32)) dX5_join_187 (by decide) ?_
  refine aw_iconst (v := (0 : Int32)) dX5_join_188 (by decide) ?_
  refine aw_iload_n 1 dX5_join_189 rfl rfl ?_
  refine aw_iload_n 2 dX5_join_190 rfl rfl ?_
  refine aw_iload_n 3 dX5_join_191 rfl rfl ?_
  refine aw_callST (st := []) (As := [.int (0 : Int32), .int (0 : Int32), .int a1, .int a2, .int a3]) lX5_16 sttX5_withRegisters (by omega) (kX5_withRegisters (d := 0) (by omega) h) rfl rfl rfl dX5_join_192 rfl (fun _ _ hh => ?_)
  obtain ⟨r31, τ32, rfl, rfl, h⟩ := hh
  refine ⟨rfl, (fun x hx => by cases hx; rfl), ?_⟩
  refine aw_stk (st' := [.int r31]) rfl ?_
  exact aw_iret rfl dX5_join_195 ⟨_, (), rfl, rfl, h⟩
end WalkX5
