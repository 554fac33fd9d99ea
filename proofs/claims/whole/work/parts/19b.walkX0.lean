section WalkX0
def wp_X0_emit (σ : WSX0) (a1 : Int32) (post : WSX0 → Prop) : Prop :=
  wp_X2_store σ.2.2.2 σ.1.1.1.1.2 a1 (fun r1 τ2 => ((r1 = 0 → post (σ.1, (σ.2.1, (σ.2.2.1, τ2)))) ∧ (¬ r1 = 0 → (∀ y3 : Int32, y3 = (σ.1.1.1.1.2 + (4 : Int32)) → post (((((σ.1.1.1.1.1, y3), σ.1.1.1.2), σ.1.1.2), σ.1.2), (σ.2.1, (σ.2.2.1, τ2)))))))
theorem kX0_emit {G : aw_G} {d : Nat} (hd : 2 ≤ d) {σ : WSX0} {a1 : Int32} {post : WSX0 → Prop} (h : wp_X0_emit σ a1 post) : AC G MX0_emit d 0 0 25 [.ref 0, .int a1] (wX0 G σ) (aw_pv (wX0 G) post) := by
  refine AC.of (lv := [(0, .ref 0), (1, .int a1)]) (by decide) (Nat.le_of_ble_eq_true rfl) rfl ?_
  unfold wp_X0_emit at h
  refine aw_aload_n 0 dX0_emit_0 rfl rfl ?_
  refine aw_getf (v := .ref 12) fX0_25 0 rfl rfl dX0_emit_1 ?_
  refine aw_aload_n 0 dX0_emit_4 rfl rfl ?_
  refine aw_getf (v := .int σ.1.1.1.1.2) fX0_35 0 rfl rfl dX0_emit_5 ?_
  refine aw_iload_n 1 dX0_emit_8 rfl rfl ?_
  refine aw_callV (mc1 := 0) (ms1 := 0) (mc := 0) (ms := 0) (st := []) (q := 12) (As := [.int σ.1.1.1.1.2, .int a1]) (vsc := [.int σ.1.1.1.1.2, .int a1]) lX0_75 insX2_store selX2_store ⟨TX2, 8, rfl⟩ (by omega) (kX2_store (d := 1) (by omega) h) [12, 13, 14, 15] rfl rfl rfl rfl rfl dX0_emit_9 rfl rfl (fun _ _ hh => ?_)
  obtain ⟨r1, τ2, rfl, rfl, h⟩ := hh
  refine ⟨(wX0 G (σ.1, (σ.2.1, (σ.2.2.1, τ2)))), [.int r1], rfl, rfl, rfl, ?_⟩
  refine aw_if_eq 25 dX0_emit_12 (by decide) (fun c4 => ?_) (fun c4 => ?_)
  · have h := h.1 c4
    exact aw_vret rfl dX0_emit_25 ⟨(σ.1, (σ.2.1, (σ.2.2.1, τ2))), rfl, rfl, h⟩
  · have h := h.2 c4
    refine aw_aload_n 0 dX0_emit_15 rfl rfl ?_
    refine aw_dup dX0_emit_16 rfl ?_
    refine aw_getf (v := .int σ.1.1.1.1.2) fX0_35 0 rfl rfl dX0_emit_17 ?_
    refine aw_iconst (v := (4 : Int32)) dX0_emit_20 (by decide) ?_
    refine aw_iadd dX0_emit_21 ?_
    refine aw_topi (fun y3 ey3 => ?_)
    have h := h y3 ey3
    refine aw_putf fX0_35 0 (w' := (wX0 G (((((σ.1.1.1.1.1, y3), σ.1.1.1.2), σ.1.1.2), σ.1.2), (σ.2.1, (σ.2.2.1, τ2))))) rfl (fun _ => ⟨rfl, rfl⟩) (Nat.le_of_ble_eq_true rfl) rfl dX0_emit_22 ?_
    exact aw_vret rfl dX0_emit_25 ⟨(((((σ.1.1.1.1.1, y3), σ.1.1.1.2), σ.1.1.2), σ.1.2), (σ.2.1, (σ.2.2.1, τ2))), rfl, rfl, h⟩
def wp_X0_comeBack (σ : WSX0) (post : WSX0 → Prop) : Prop :=
  wp_X5_jumpByRegister (0 : Int32) (1 : Int32) (fun r1 τ2 => wp_X0_emit σ r1 (fun τ4 => post τ4))
theorem kX0_comeBack {G : aw_G} {d : Nat} (hd : 3 ≤ d) {σ : WSX0} {post : WSX0 → Prop} (h : wp_X0_comeBack σ post) : AC G MX0_comeBack d 0 0 25 [.ref 0] (wX0 G σ) (aw_pv (wX0 G) post) := by
  refine AC.of (lv := [(0, .ref 0)]) (by decide) (Nat.le_of_ble_eq_true rfl) rfl ?_
  unfold wp_X0_comeBack at h
  refine aw_aload_n 0 dX0_comeBack_0 rfl rfl ?_
  refine aw_iconst (v := (0 : Int32)) dX0_comeBack_1 (by decide) ?_
  refine aw_iconst (v := (1 : Int32)) dX0_comeBack_2 (by decide) ?_
  refine aw_callST (st := [.ref 0]) (As := [.int (0 : Int32), .int (1 : Int32)]) lX0_86 sttX5_jumpByRegister (by omega) (kX5_jumpByRegister (d := 0) (by omega) h) rfl rfl rfl dX0_comeBack_3 rfl (fun _ _ hh => ?_)
  obtain ⟨r1, τ2, rfl, rfl, h⟩ := hh
  refine ⟨rfl, (fun x hx => by cases hx; rfl), ?_⟩
  refine aw_stk (st' := [.int r1, .ref 0]) rfl ?_
  refine aw_callVT (mc1 := 0) (ms1 := 0) (mc := 0) (ms := 0) (st := []) (q := 0) (As := [.int r1]) lX0_51 insX0_emit selX0_emit ⟨TX0, 12, rfl⟩ (by omega) (kX0_emit (d := 2) (by omega) h) (Nat.le_of_ble_eq_true rfl) rfl rfl rfl dX0_comeBack_6 rfl (fun _ _ hh => ?_)
  obtain ⟨τ4, rfl, rfl, h⟩ := hh
  refine aw_stk (st' := []) rfl ?_
  exact aw_vret rfl dX0_comeBack_9 ⟨τ4, rfl, rfl, h⟩
def wp_X0_writeEnd (σ : WSX0) (a1 : Int32) (post : WSX0 → Prop) : Prop :=
  wp_X5_add (5 : Int32) (0 : Int32) a1 (fun r1 τ2 => wp_X0_emit σ r1 (fun τ4 => wp_X5_call  (fun r5 τ6 => wp_X0_emit τ4 r5 (fun τ8 => post τ8))))
theorem kX0_writeEnd {G : aw_G} {d : Nat} (hd : 3 ≤ d) {σ : WSX0} {a1 : Int32} {post : WSX0 → Prop} (h : wp_X0_writeEnd σ a1 post) : AC G MX0_writeEnd d 0 0 25 [.ref 0, .int a1] (wX0 G σ) (aw_pv (wX0 G) post) := by
  refine AC.of (lv := [(0, .ref 0), (1, .int a1)]) (by decide) (Nat.le_of_ble_eq_true rfl) rfl ?_
  unfold wp_X0_writeEnd at h
  refine aw_aload_n 0 dX0_writeEnd_0 rfl rfl ?_
  refine aw_iconst (v := (5 : Int32)) dX0_writeEnd_1 (by decide) ?_
  refine aw_iconst (v := (0 : Int32)) dX0_writeEnd_2 (by decide) ?_
  refine aw_iload_n 1 dX0_writeEnd_3 rfl rfl ?_
  refine aw_callST (st := [.ref 0]) (As := [.int (5 : Int32), .int (0 : Int32), .int a1]) lX0_45 sttX5_add (by omega) (kX5_add (d := 1) (by omega) h) rfl rfl rfl dX0_writeEnd_4 rfl (fun _ _ hh => ?_)
  obtain ⟨r1, τ2, rfl, rfl, h⟩ := hh
  refine ⟨rfl, (fun x hx => by cases hx; rfl), ?_⟩
  refine aw_stk (st' := [.int r1, .ref 0]) rfl ?_
  refine aw_callVT (mc1 := 0) (ms1 := 0) (mc := 0) (ms := 0) (st := []) (q := 0) (As := [.int r1]) lX0_51 insX0_emit selX0_emit ⟨TX0, 12, rfl⟩ (by omega) (kX0_emit (d := 2) (by omega) h) (Nat.le_of_ble_eq_true rfl) rfl rfl rfl dX0_writeEnd_7 rfl (fun _ _ hh => ?_)
  obtain ⟨τ4, rfl, rfl, h⟩ := hh
  refine aw_stk (st' := []) rfl ?_
  refine aw_aload_n 0 dX0_writeEnd_10 rfl rfl ?_
  refine aw_callST (st := [.ref 0]) (As := []) lX0_83 sttX5_call (by omega) (kX5_call (d := 0) (by omega) h) rfl rfl rfl dX0_writeEnd_11 rfl (fun _ _ hh => ?_)
  obtain ⟨r5, τ6, rfl, rfl, h⟩ := hh
  refine ⟨rfl, (fun x hx => by cases hx; rfl), ?_⟩
  refine aw_stk (st' := [.int r5, .ref 0]) rfl ?_
  refine aw_callVT (mc1 := 0) (ms1 := 0) (mc := 0) (ms := 0) (st := []) (q := 0) (As := [.int r5]) lX0_51 insX0_emit selX0_emit ⟨TX0, 12, rfl⟩ (by omega) (kX0_emit (d := 2) (by omega) h) (Nat.le_of_ble_eq_true rfl) rfl rfl rfl dX0_writeEnd_14 rfl (fun _ _ hh => ?_)
  obtain ⟨τ8, rfl, rfl, h⟩ := hh
  refine aw_stk (st' := []) rfl ?_
  exact aw_vret rfl dX0_writeEnd_17 ⟨τ8, rfl, rfl, h⟩
def wp_X0_writeCalls (σ : WSX0) (post : WSX0 → Prop) : Prop :=
  wp_X5_branchIfEqual (2 : Int32) (0 : Int32) (12 : Int32) (fun r1 τ2 => wp_X0_emit ((((σ.1.1.1.1, (σ.1.1.1.1.2, σ.1.1.1.2.2)), σ.1.1.2), σ.1.2), σ.2) r1 (fun τ4 => wp_X5_add (2 : Int32) (2 : Int32) ((-1) : Int32) (fun r5 τ6 => wp_X0_emit τ4 r5 (fun τ8 => wp_X0_comeBack τ8  (fun τ10 => wp_X0_writeEnd τ10 (2 : Int32) (fun τ12 => wp_X5_join (94 : Int32) (6 : Int32) (6 : Int32) (7 : Int32) (fun r13 τ14 => wp_X0_emit ((((τ12.1.1.1.1, (τ12.1.1.1.2.1, τ12.1.1.1.1.2)), τ12.1.1.2), τ12.1.2), τ12.2) r13 (fun τ16 => wp_X5_join (38 : Int32) (6 : Int32) (6 : Int32) (3 : Int32) (fun r17 τ18 => wp_X0_emit τ16 r17 (fun τ20 => wp_X5_join (94 : Int32) (6 : Int32) (6 : Int32) (7 : Int32) (fun r21 τ22 => wp_X0_emit τ20 r21 (fun τ24 => wp_X0_comeBack τ24  (fun τ26 => wp_X5_add (5 : Int32) (0 : Int32) (400 : Int32) (fun r27 τ28 => wp_X0_emit (((τ26.1.1.1, ((τ26.1.1.1.1.2, τ26.1.1.2.1.2), τ26.1.1.2.2)), τ26.1.2), τ26.2) r27 (fun τ30 => wp_X5_branchIfEqual (4 : Int32) (5 : Int32) (16 : Int32) (fun r31 τ32 => wp_X0_emit τ30 r31 (fun τ34 => wp_X5_toMemory (6 : Int32) (4 : Int32) (800 : Int32) (fun r35 τ36 => wp_X0_emit τ34 r35 (fun τ38 => wp_X5_add (4 : Int32) (4 : Int32) (4 : Int32) (fun r39 τ40 => wp_X0_emit τ38 r39 (fun τ42 => wp_X0_comeBack τ42  (fun τ44 => wp_X0_writeEnd τ44 (3 : Int32) (fun τ46 => post τ46)))))))))))))))))))))))
theorem kX0_writeCalls {G : aw_G} {d : Nat} (hd : 4 ≤ d) {σ : WSX0} {post : WSX0 → Prop} (h : wp_X0_writeCalls σ post) : AC G MX0_writeCalls d 0 0 25 [.ref 0] (wX0 G σ) (aw_pv (wX0 G) post) := by
  refine AC.of (lv := [(0, .ref 0)]) (by decide) (Nat.le_of_ble_eq_true rfl) rfl ?_
  unfold wp_X0_writeCalls at h
  refine aw_aload_n 0 dX0_writeCalls_0 rfl rfl ?_
  refine aw_aload_n 0 dX0_writeCalls_1 rfl rfl ?_
  refine aw_getf (v := .int σ.1.1.1.1.2) fX0_35 0 rfl rfl dX0_writeCalls_2 ?_
  refine aw_putf fX0_93 0 (w' := (wX0 G ((((σ.1.1.1.1, (σ.1.1.1.1.2, σ.1.1.1.2.2)), σ.1.1.2), σ.1.2), σ.2))) rfl (fun _ => ⟨rfl, rfl⟩) (Nat.le_of_ble_eq_true rfl) rfl dX0_writeCalls_5 ?_
  refine aw_aload_n 0 dX0_writeCalls_8 rfl rfl ?_
  refine aw_iconst (v := (2 : Int32)) dX0_writeCalls_9 (by decide) ?_
  refine aw_iconst (v := (0 : Int32)) dX0_writeCalls_10 (by decide) ?_
  refine aw_bipush (v := (12 : Int32)) dX0_writeCalls_11 (by decide) ?_
  refine aw_callST (st := [.ref 0]) (As := [.int (2 : Int32), .int (0 : Int32), .int (12 : Int32)]) lX0_96 sttX5_branchIfEqual (by omega) (kX5_branchIfEqual (d := 1) (by omega) h) rfl rfl rfl dX0_writeCalls_13 rfl (fun _ _ hh => ?_)
  obtain ⟨r1, τ2, rfl, rfl, h⟩ := hh
  refine ⟨rfl, (fun x hx => by cases hx; rfl), ?_⟩
  refine aw_stk (st' := [.int r1, .ref 0]) rfl ?_
  refine aw_callVT (mc1 := 0) (ms1 := 0) (mc := 0) (ms := 0) (st := []) (q := 0) (As := [.int r1]) lX0_51 insX0_emit selX0_emit ⟨TX0, 12, rfl⟩ (by omega) (kX0_emit (d := 2) (by omega) h) (Nat.le_of_ble_eq_true rfl) rfl rfl rfl dX0_writeCalls_16 rfl (fun _ _ hh => ?_)
  obtain ⟨τ4, rfl, rfl, h⟩ := hh
  refine aw_stk (st' := []) rfl ?_
  refine aw_aload_n 0 dX0_writeCalls_19 rfl rfl ?_
  refine aw_iconst (v := (2 : Int32)) dX0_writeCalls_20 (by decide) ?_
  refine aw_iconst (v := (2 : Int32)) dX0_writeCalls_21 (by decide) ?_
  refine aw_iconst (v := ((-1) : Int32)) dX0_writeCalls_22 (by decide) ?_
  refine aw_callST (st := [.ref 0]) (As := [.int (2 : Int32), .int (2 : Int32), .int ((-1) : Int32)]) lX0_45 sttX5_add (by omega) (kX5_add (d := 1) (by omega) h) rfl rfl rfl dX0_writeCalls_23 rfl (fun _ _ hh => ?_)
  obtain ⟨r5, τ6, rfl, rfl, h⟩ := hh
  refine ⟨rfl, (fun x hx => by cases hx; rfl), ?_⟩
  refine aw_stk (st' := [.int r5, .ref 0]) rfl ?_
  refine aw_callVT (mc1 := 0) (ms1 := 0) (mc := 0) (ms := 0) (st := []) (q := 0) (As := [.int r5]) lX0_51 insX0_emit selX0_emit ⟨TX0, 12, rfl⟩ (by omega) (kX0_emit (d := 2) (by omega) h) (Nat.le_of_ble_eq_true rfl) rfl rfl rfl dX0_writeCalls_26 rfl (fun _ _ hh => ?_)
  obtain ⟨τ8, rfl, rfl, h⟩ := hh
  refine aw_stk (st' := []) rfl ?_
  refine aw_aload_n 0 dX0_writeCalls_29 rfl rfl ?_
  refine aw_callVT (mc1 := 0) (ms1 := 0) (mc := 0) (ms := 0) (st := []) (q := 0) (As := []) lX0_99 insX0_comeBack selX0_comeBack ⟨TX0, 12, rfl⟩ (by omega) (kX0_comeBack (d := 3) (by omega) h) (Nat.le_of_ble_eq_true rfl) rfl rfl rfl dX0_writeCalls_30 rfl (fun _ _ hh => ?_)
  obtain ⟨τ10, rfl, rfl, h⟩ := hh
  refine aw_stk (st' := []) rfl ?_
  refine aw_aload_n 0 dX0_writeCalls_33 rfl rfl ?_
  refine aw_iconst (v := (2 : Int32)) dX0_writeCalls_34 (by decide) ?_
  refine aw_callVT (mc1 := 0) (ms1 := 0) (mc := 0) (ms := 0) (st := []) (q := 0) (As := [.int (2 : Int32)]) lX0_72 insX0_writeEnd selX0_writeEnd ⟨TX0, 12, rfl⟩ (by omega) (kX0_writeEnd (d := 3) (by omega) h) (Nat.le_of_ble_eq_true rfl) rfl rfl rfl dX0_writeCalls_35 rfl (fun _ _ hh => ?_)
  obtain ⟨τ12, rfl, rfl, h⟩ := hh
  refine aw_stk (st' := []) rfl ?_
  refine aw_aload_n 0 dX0_writeCalls_38 rfl rfl ?_
  refine aw_aload_n 0 dX0_writeCalls_39 rfl rfl ?_
  refine aw_getf (v := .int τ12.1.1.1.1.2) fX0_35 0 rfl rfl dX0_writeCalls_40 ?_
  refine aw_putf fX0_102 0 (w' := (wX0 G ((((τ12.1.1.1.1, (τ12.1.1.1.2.1, τ12.1.1.1.1.2)), τ12.1.1.2), τ12.1.2), τ12.2))) rfl (fun _ => ⟨rfl, rfl⟩) (Nat.le_of_ble_eq_true rfl) rfl dX0_writeCalls_43 ?_
  refine aw_aload_n 0 dX0_writeCalls_46 rfl rfl ?_
  refine aw_bipush (v := (94 : Int32)) dX0_writeCalls_47 (by decide) ?_
  refine aw_bipush (v := (6 : Int32)) dX0_writeCalls_49 (by decide) ?_
  refine aw_bipush (v := (6 : Int32)) dX0_writeCalls_51 (by decide) ?_
  refine aw_bipush (v := (7 : Int32)) dX0_writeCalls_53 (by decide) ?_
  refine aw_callST (st := [.ref 0]) (As := [.int (94 : Int32), .int (6 : Int32), .int (6 : Int32), .int (7 : Int32)]) lX0_105 sttX5_join (by omega) (kX5_join (d := 1) (by omega) h) rfl rfl rfl dX0_writeCalls_55 rfl (fun _ _ hh => ?_)
  obtain ⟨r13, τ14, rfl, rfl, h⟩ := hh
  refine ⟨rfl, (fun x hx => by cases hx; rfl), ?_⟩
  refine aw_stk (st' := [.int r13, .ref 0]) rfl ?_
  refine aw_callVT (mc1 := 0) (ms1 := 0) (mc := 0) (ms := 0) (st := []) (q := 0) (As := [.int r13]) lX0_51 insX0_emit selX0_emit ⟨TX0, 12, rfl⟩ (by omega) (kX0_emit (d := 2) (by omega) h) (Nat.le_of_ble_eq_true rfl) rfl rfl rfl dX0_writeCalls_58 rfl (fun _ _ hh => ?_)
  obtain ⟨τ16, rfl, rfl, h⟩ := hh
  refine aw_stk (st' := []) rfl ?_
  refine aw_aload_n 0 dX0_writeCalls_61 rfl rfl ?_
  refine aw_bipush (v := (38 : Int32)) dX0_writeCalls_62 (by decide) ?_
  refine aw_bipush (v := (6 : Int32)) dX0_writeCalls_64 (by decide) ?_
  refine aw_bipush (v := (6 : Int32)) dX0_writeCalls_66 (by decide) ?_
  refine aw_iconst (v := (3 : Int32)) dX0_writeCalls_68 (by decide) ?_
  refine aw_callST (st := [.ref 0]) (As := [.int (38 : Int32), .int (6 : Int32), .int (6 : Int32), .int (3 : Int32)]) lX0_105 sttX5_join (by omega) (kX5_join (d := 1) (by omega) h) rfl rfl rfl dX0_writeCalls_69 rfl (fun _ _ hh => ?_)
  obtain ⟨r17, τ18, rfl, rfl, h⟩ := hh
  refine ⟨rfl, (fun x hx => by cases hx; rfl), ?_⟩
  refine aw_stk (st' := [.int r17, .ref 0]) rfl ?_
  refine aw_callVT (mc1 := 0) (ms1 := 0) (mc := 0) (ms := 0) (st := []) (q := 0) (As := [.int r17]) lX0_51 insX0_emit selX0_emit ⟨TX0, 12, rfl⟩ (by omega) (kX0_emit (d := 2) (by omega) h) (Nat.le_of_ble_eq_true rfl) rfl rfl rfl dX0_writeCalls_72 rfl (fun _ _ hh => ?_)
  obtain ⟨τ20, rfl, rfl, h⟩ := hh
  refine aw_stk (st' := []) rfl ?_
  refine aw_aload_n 0 dX0_writeCalls_75 rfl rfl ?_
  refine aw_bipush (v := (94 : Int32)) dX0_writeCalls_76 (by decide) ?_
  refine aw_bipush (v := (6 : Int32)) dX0_writeCalls_78 (by decide) ?_
  refine aw_bipush (v := (6 : Int32)) dX0_writeCalls_80 (by decide) ?_
  refine aw_bipush (v := (7 : Int32)) dX0_writeCalls_82 (by decide) ?_
  refine aw_callST (st := [.ref 0]) (As := [.int (94 : Int32), .int (6 : Int32), .int (6 : Int32), .int (7 : Int32)]) lX0_105 sttX5_join (by omega) (kX5_join (d := 1) (by omega) h) rfl rfl rfl dX0_writeCalls_84 rfl (fun _ _ hh => ?_)
  obtain ⟨r21, τ22, rfl, rfl, h⟩ := hh
  refine ⟨rfl, (fun x hx => by cases hx; rfl), ?_⟩
  refine aw_stk (st' := [.int r21, .ref 0]) rfl ?_
  refine aw_callVT (mc1 := 0) (ms1 := 0) (mc := 0) (ms := 0) (st := []) (q := 0) (As := [.int r21]) lX0_51 insX0_emit selX0_emit ⟨TX0, 12, rfl⟩ (by omega) (kX0_emit (d := 2) (by omega) h) (Nat.le_of_ble_eq_true rfl) rfl rfl rfl dX0_writeCalls_87 rfl (fun _ _ hh => ?_)
  obtain ⟨τ24, rfl, rfl, h⟩ := hh
  refine aw_stk (st' := []) rfl ?_
  refine aw_aload_n 0 dX0_writeCalls_90 rfl rfl ?_
  refine aw_callVT (mc1 := 0) (ms1 := 0) (mc := 0) (ms := 0) (st := []) (q := 0) (As := []) lX0_99 insX0_comeBack selX0_comeBack ⟨TX0, 12, rfl⟩ (by omega) (kX0_comeBack (d := 3) (by omega) h) (Nat.le_of_ble_eq_true rfl) rfl rfl rfl dX0_writeCalls_91 rfl (fun _ _ hh => ?_)
  obtain ⟨τ26, rfl, rfl, h⟩ := hh
  refine aw_stk (st' := []) rfl ?_
  refine aw_aload_n 0 dX0_writeCalls_94 rfl rfl ?_
  refine aw_aload_n 0 dX0_writeCalls_95 rfl rfl ?_
  refine aw_getf (v := .int τ26.1.1.1.1.2) fX0_35 0 rfl rfl dX0_writeCalls_96 ?_
  refine aw_putf fX0_109 0 (w' := (wX0 G (((τ26.1.1.1, ((τ26.1.1.1.1.2, τ26.1.1.2.1.2), τ26.1.1.2.2)), τ26.1.2), τ26.2))) rfl (fun _ => ⟨rfl, rfl⟩) (Nat.le_of_ble_eq_true rfl) rfl dX0_writeCalls_99 ?_
  refine aw_aload_n 0 dX0_writeCalls_102 rfl rfl ?_
  refine aw_iconst (v := (5 : Int32)) dX0_writeCalls_103 (by decide) ?_
  refine aw_iconst (v := (0 : Int32)) dX0_writeCalls_104 (by decide) ?_
  refine aw_sipush (v := (400 : Int32)) dX0_writeCalls_105 (by decide) ?_
  refine aw_callST (st := [.ref 0]) (As := [.int (5 : Int32), .int (0 : Int32), .int (400 : Int32)]) lX0_45 sttX5_add (by omega) (kX5_add (d := 1) (by omega) h) rfl rfl rfl dX0_writeCalls_108 rfl (fun _ _ hh => ?_)
  obtain ⟨r27, τ28, rfl, rfl, h⟩ := hh
  refine ⟨rfl, (fun x hx => by cases hx; rfl), ?_⟩
  refine aw_stk (st' := [.int r27, .ref 0]) rfl ?_
  refine aw_callVT (mc1 := 0) (ms1 := 0) (mc := 0) (ms := 0) (st := []) (q := 0) (As := [.int r27]) lX0_51 insX0_emit selX0_emit ⟨TX0, 12, rfl⟩ (by omega) (kX0_emit (d := 2) (by omega) h) (Nat.le_of_ble_eq_true rfl) rfl rfl rfl dX0_writeCalls_111 rfl (fun _ _ hh => ?_)
  obtain ⟨τ30, rfl, rfl, h⟩ := hh
  refine aw_stk (st' := []) rfl ?_
  refine aw_aload_n 0 dX0_writeCalls_114 rfl rfl ?_
  refine aw_iconst (v := (4 : Int32)) dX0_writeCalls_115 (by decide) ?_
  refine aw_iconst (v := (5 : Int32)) dX0_writeCalls_116 (by decide) ?_
  refine aw_bipush (v := (16 : Int32)) dX0_writeCalls_117 (by decide) ?_
  refine aw_callST (st := [.ref 0]) (As := [.int (4 : Int32), .int (5 : Int32), .int (16 : Int32)]) lX0_96 sttX5_branchIfEqual (by omega) (kX5_branchIfEqual (d := 1) (by omega) h) rfl rfl rfl dX0_writeCalls_119 rfl (fun _ _ hh => ?_)
  obtain ⟨r31, τ32, rfl, rfl, h⟩ := hh
  refine ⟨rfl, (fun x hx => by cases hx; rfl), ?_⟩
  refine aw_stk (st' := [.int r31, .ref 0]) rfl ?_
  refine aw_callVT (mc1 := 0) (ms1 := 0) (mc := 0) (ms := 0) (st := []) (q := 0) (As := [.int r31]) lX0_51 insX0_emit selX0_emit ⟨TX0, 12, rfl⟩ (by omega) (kX0_emit (d := 2) (by omega) h) (Nat.le_of_ble_eq_true rfl) rfl rfl rfl dX0_writeCalls_122 rfl (fun _ _ hh => ?_)
  obtain ⟨τ34, rfl, rfl, h⟩ := hh
  refine aw_stk (st' := []) rfl ?_
  refine aw_aload_n 0 dX0_writeCalls_125 rfl rfl ?_
  refine aw_bipush (v := (6 : Int32)) dX0_writeCalls_126 (by decide) ?_
  refine aw_iconst (v := (4 : Int32)) dX0_writeCalls_128 (by decide) ?_
  refine aw_sipush (v := (800 : Int32)) dX0_writeCalls_129 (by decide) ?_
  refine aw_callST (st := [.ref 0]) (As := [.int (6 : Int32), .int (4 : Int32), .int (800 : Int32)]) lX0_112 sttX5_toMemory (by omega) (kX5_toMemory (d := 0) (by omega) h) rfl rfl rfl dX0_writeCalls_132 rfl (fun _ _ hh => ?_)
  obtain ⟨r35, τ36, rfl, rfl, h⟩ := hh
  refine ⟨rfl, (fun x hx => by cases hx; rfl), ?_⟩
  refine aw_stk (st' := [.int r35, .ref 0]) rfl ?_
  refine aw_callVT (mc1 := 0) (ms1 := 0) (mc := 0) (ms := 0) (st := []) (q := 0) (As := [.int r35]) lX0_51 insX0_emit selX0_emit ⟨TX0, 12, rfl⟩ (by omega) (kX0_emit (d := 2) (by omega) h) (Nat.le_of_ble_eq_true rfl) rfl rfl rfl dX0_writeCalls_135 rfl (fun _ _ hh => ?_)
  obtain ⟨τ38, rfl, rfl, h⟩ := hh
  refine aw_stk (st' := []) rfl ?_
  refine aw_aload_n 0 dX0_writeCalls_138 rfl rfl ?_
  refine aw_iconst (v := (4 : Int32)) dX0_writeCalls_139 (by decide) ?_
  refine aw_iconst (v := (4 : Int32)) dX0_writeCalls_140 (by decide) ?_
  refine aw_iconst (v := (4 : Int32)) dX0_writeCalls_141 (by decide) ?_
  refine aw_callST (st := [.ref 0]) (As := [.int (4 : Int32), .int (4 : Int32), .int (4 : Int32)]) lX0_45 sttX5_add (by omega) (kX5_add (d := 1) (by omega) h) rfl rfl rfl dX0_writeCalls_142 rfl (fun _ _ hh => ?_)
  obtain ⟨r39, τ40, rfl, rfl, h⟩ := hh
  refine ⟨rfl, (fun x hx => by cases hx; rfl), ?_⟩
  refine aw_stk (st' := [.int r39, .ref 0]) rfl ?_
  refine aw_callVT (mc1 := 0) (ms1 := 0) (mc := 0) (ms := 0) (st := []) (q := 0) (As := [.int r39]) lX0_51 insX0_emit selX0_emit ⟨TX0, 12, rfl⟩ (by omega) (kX0_emit (d := 2) (by omega) h) (Nat.le_of_ble_eq_true rfl) rfl rfl rfl dX0_writeCalls_145 rfl (fun _ _ hh => ?_)
  obtain ⟨τ42, rfl, rfl, h⟩ := hh
  refine aw_stk (st' := []) rfl ?_
  refine aw_aload_n 0 dX0_writeCalls_148 rfl rfl ?_
  refine aw_callVT (mc1 := 0) (ms1 := 0) (mc := 0) (ms := 0) (st := []) (q := 0) (As := []) lX0_99 insX0_comeBack selX0_comeBack ⟨TX0, 12, rfl⟩ (by omega) (kX0_comeBack (d := 3) (by omega) h) (Nat.le_of_ble_eq_true rfl) rfl rfl rfl dX0_writeCalls_149 rfl (fun _ _ hh => ?_)
  obtain ⟨τ44, rfl, rfl, h⟩ := hh
  refine aw_stk (st' := []) rfl ?_
  refine aw_aload_n 0 dX0_writeCalls_152 rfl rfl ?_
  refine aw_iconst (v := (3 : Int32)) dX0_writeCalls_153 (by decide) ?_
  refine aw_callVT (mc1 := 0) (ms1 := 0) (mc := 0) (ms := 0) (st := []) (q := 0) (As := [.int (3 : Int32)]) lX0_72 insX0_writeEnd selX0_writeEnd ⟨TX0, 12, rfl⟩ (by omega) (kX0_writeEnd (d := 3) (by omega) h) (Nat.le_of_ble_eq_true rfl) rfl rfl rfl dX0_writeCalls_154 rfl (fun _ _ hh => ?_)
  obtain ⟨τ46, rfl, rfl, h⟩ := hh
  refine aw_stk (st' := []) rfl ?_
  exact aw_vret rfl dX0_writeCalls_157 ⟨τ46, rfl, rfl, h⟩
def wp_X0_wordPlace (σ : WSX0) (a1 : Int32) (post : Int32 → WSX0 → Prop) : Prop :=
  wp_X3_firstWord (σ.2.1, σ.2.2.1) a1 (fun r1 τ2 => post ((0 : Int32) + (r1 * (4 : Int32))) (σ.1, (τ2.1, (τ2.2, σ.2.2.2))))
theorem kX0_wordPlace {G : aw_G} {d : Nat} (hd : 2 ≤ d) {σ : WSX0} {a1 : Int32} {post : Int32 → WSX0 → Prop} (h : wp_X0_wordPlace σ a1 post) : AC G MX0_wordPlace d 0 0 25 [.ref 0, .int a1] (wX0 G σ) (aw_pi (wX0 G) post) := by
  refine AC.of (lv := [(0, .ref 0), (1, .int a1)]) (by decide) (Nat.le_of_ble_eq_true rfl) rfl ?_
  unfold wp_X0_wordPlace at h
  refine aw_iconst (v := (0 : Int32)) dX0_wordPlace_0 (by decide) ?_
  refine aw_aload_n 0 dX0_wordPlace_1 rfl rfl ?_
  refine aw_getf (v := .ref 3) fX0_21 0 rfl rfl dX0_wordPlace_2 ?_
  refine aw_iload_n 1 dX0_wordPlace_5 rfl rfl ?_
  refine aw_callV (mc1 := 0) (ms1 := 0) (mc := 0) (ms := 0) (st := [.int (0 : Int32)]) (q := 3) (As := [.int a1]) (vsc := [.int a1]) lX0_146 insX3_firstWord selX3_firstWord ⟨TX3, 11, rfl⟩ (by omega) (kX3_firstWord (d := 1) (by omega) h) [3, 4, 5, 6, 7, 8, 9, 10, 11] rfl rfl rfl rfl rfl dX0_wordPlace_6 rfl rfl (fun _ _ hh => ?_)
  obtain ⟨r1, τ2, rfl, rfl, h⟩ := hh
  refine ⟨(wX0 G (σ.1, (τ2.1, (τ2.2, σ.2.2.2)))), [.int r1, .int (0 : Int32)], rfl, rfl, rfl, ?_⟩
  refine aw_iconst (v := (4 : Int32)) dX0_wordPlace_9 (by decide) ?_
  refine aw_imul dX0_wordPlace_10 ?_
  refine aw_iadd dX0_wordPlace_11 ?_
  exact aw_iret rfl dX0_wordPlace_12 ⟨_, (σ.1, (τ2.1, (τ2.2, σ.2.2.2))), rfl, rfl, h⟩
def wp_X0_writeRowCall (σ : WSX0) (a1 : Int32) (a2 : Int32) (a3 : Int32) (post : WSX0 → Prop) : Prop :=
  wp_X3_isRow (σ.2.1, σ.2.2.1) a1 (fun r1 τ2 => ((r1 = 0 → post (σ.1, (τ2.1, (τ2.2, σ.2.2.2)))) ∧ (¬ r1 = 0 → wp_X3_length τ2 a1 (fun r3 τ4 => wp_X5_isBelow (5 : Int32) (6 : Int32) r3 (fun r5 τ6 => wp_X0_emit (σ.1, (τ4.1, (τ4.2, σ.2.2.2))) r5 (fun τ8 => wp_X5_branchIfEqual (5 : Int32) (0 : Int32) (a2 - τ8.1.1.1.1.2) (fun r9 τ10 => wp_X0_emit τ8 r9 (fun τ12 => wp_X5_shiftLeft (6 : Int32) (6 : Int32) (2 : Int32) (fun r13 τ14 => wp_X0_emit τ12 r13 (fun τ16 => wp_X0_emit τ16 a3 (fun τ18 => wp_X0_comeBack τ18  (fun τ20 => post τ20))))))))))))
theorem kX0_writeRowCall {G : aw_G} {d : Nat} (hd : 4 ≤ d) {σ : WSX0} {a1 : Int32} {a2 : Int32} {a3 : Int32} {post : WSX0 → Prop} (h : wp_X0_writeRowCall σ a1 a2 a3 post) : AC G MX0_writeRowCall d 0 0 25 [.ref 0, .int a1, .int a2, .int a3] (wX0 G σ) (aw_pv (wX0 G) post) := by
  refine AC.of (lv := [(0, .ref 0), (1, .int a1), (2, .int a2), (3, .int a3)]) (by decide) (Nat.le_of_ble_eq_true rfl) rfl ?_
  unfold wp_X0_writeRowCall at h
  refine aw_aload_n 0 dX0_writeRowCall_0 rfl rfl ?_
  refine aw_getf (v := .ref 3) fX0_21 0 rfl rfl dX0_writeRowCall_1 ?_
  refine aw_iload_n 1 dX0_writeRowCall_4 rfl rfl ?_
  refine aw_callV (mc1 := 0) (ms1 := 0) (mc := 0) (ms := 0) (st := []) (q := 3) (As := [.int a1]) (vsc := [.int a1]) lX0_116 insX3_isRow selX3_isRow ⟨TX3, 11, rfl⟩ (by omega) (kX3_isRow (d := 2) (by omega) h) [3, 4, 5, 6, 7, 8, 9, 10, 11] rfl rfl rfl rfl rfl dX0_writeRowCall_5 rfl rfl (fun _ _ hh => ?_)
  obtain ⟨r1, τ2, rfl, rfl, h⟩ := hh
  refine ⟨(wX0 G (σ.1, (τ2.1, (τ2.2, σ.2.2.2)))), [.int r1], rfl, rfl, rfl, ?_⟩
  refine aw_if_eq 65 dX0_writeRowCall_8 (by decide) (fun c21 => ?_) (fun c21 => ?_)
  · have h := h.1 c21
    exact aw_vret rfl dX0_writeRowCall_65 ⟨(σ.1, (τ2.1, (τ2.2, σ.2.2.2))), rfl, rfl, h⟩
  · have h := h.2 c21
    refine aw_aload_n 0 dX0_writeRowCall_11 rfl rfl ?_
    refine aw_iconst (v := (5 : Int32)) dX0_writeRowCall_12 (by decide) ?_
    refine aw_bipush (v := (6 : Int32)) dX0_writeRowCall_13 (by decide) ?_
    refine aw_aload_n 0 dX0_writeRowCall_15 rfl rfl ?_
    refine aw_getf (v := .ref 3) fX0_21 0 rfl rfl dX0_writeRowCall_16 ?_
    refine aw_iload_n 1 dX0_writeRowCall_19 rfl rfl ?_
    refine aw_callV (mc1 := 0) (ms1 := 0) (mc := 0) (ms := 0) (st := [.int (6 : Int32), .int (5 : Int32), .ref 0]) (q := 3) (As := [.int a1]) (vsc := [.int a1]) lX0_137 insX3_length selX3_length ⟨TX3, 11, rfl⟩ (by omega) (kX3_length (d := 1) (by omega) h) [3, 4, 5, 6, 7, 8, 9, 10, 11] rfl rfl rfl rfl rfl dX0_writeRowCall_20 rfl rfl (fun _ _ hh => ?_)
    obtain ⟨r3, τ4, rfl, rfl, h⟩ := hh
    refine ⟨(wX0 G (σ.1, (τ4.1, (τ4.2, σ.2.2.2)))), [.int r3, .int (6 : Int32), .int (5 : Int32), .ref 0], rfl, rfl, rfl, ?_⟩
    refine aw_callST (st := [.ref 0]) (As := [.int (5 : Int32), .int (6 : Int32), .int r3]) lX0_140 sttX5_isBelow (by omega) (kX5_isBelow (d := 1) (by omega) h) rfl rfl rfl dX0_writeRowCall_23 rfl (fun _ _ hh => ?_)
    obtain ⟨r5, τ6, rfl, rfl, h⟩ := hh
    refine ⟨rfl, (fun x hx => by cases hx; rfl), ?_⟩
    refine aw_stk (st' := [.int r5, .ref 0]) rfl ?_
    refine aw_callVT (mc1 := 0) (ms1 := 0) (mc := 0) (ms := 0) (st := []) (q := 0) (As := [.int r5]) lX0_51 insX0_emit selX0_emit ⟨TX0, 12, rfl⟩ (by omega) (kX0_emit (d := 2) (by omega) h) (Nat.le_of_ble_eq_true rfl) rfl rfl rfl dX0_writeRowCall_26 rfl (fun _ _ hh => ?_)
    obtain ⟨τ8, rfl, rfl, h⟩ := hh
    refine aw_stk (st' := []) rfl ?_
    refine aw_aload_n 0 dX0_writeRowCall_29 rfl rfl ?_
    refine aw_iconst (v := (5 : Int32)) dX0_writeRowCall_30 (by decide) ?_
    refine aw_iconst (v := (0 : Int32)) dX0_writeRowCall_31 (by decide) ?_
    refine aw_iload_n 2 dX0_writeRowCall_32 rfl rfl ?_
    refine aw_aload_n 0 dX0_writeRowCall_33 rfl rfl ?_
    refine aw_getf (v := .int τ8.1.1.1.1.2) fX0_35 0 rfl rfl dX0_writeRowCall_34 ?_
    refine aw_isub dX0_writeRowCall_37 ?_
    refine aw_callST (st := [.ref 0]) (As := [.int (5 : Int32), .int (0 : Int32), .int (a2 - τ8.1.1.1.1.2)]) lX0_96 sttX5_branchIfEqual (by omega) (kX5_branchIfEqual (d := 1) (by omega) h) rfl rfl rfl dX0_writeRowCall_38 rfl (fun _ _ hh => ?_)
    obtain ⟨r9, τ10, rfl, rfl, h⟩ := hh
    refine ⟨rfl, (fun x hx => by cases hx; rfl), ?_⟩
    refine aw_stk (st' := [.int r9, .ref 0]) rfl ?_
    refine aw_callVT (mc1 := 0) (ms1 := 0) (mc := 0) (ms := 0) (st := []) (q := 0) (As := [.int r9]) lX0_51 insX0_emit selX0_emit ⟨TX0, 12, rfl⟩ (by omega) (kX0_emit (d := 2) (by omega) h) (Nat.le_of_ble_eq_true rfl) rfl rfl rfl dX0_writeRowCall_41 rfl (fun _ _ hh => ?_)
    obtain ⟨τ12, rfl, rfl, h⟩ := hh
    refine aw_stk (st' := []) rfl ?_
    refine aw_aload_n 0 dX0_writeRowCall_44 rfl rfl ?_
    refine aw_bipush (v := (6 : Int32)) dX0_writeRowCall_45 (by decide) ?_
    refine aw_bipush (v := (6 : Int32)) dX0_writeRowCall_47 (by decide) ?_
    refine aw_iconst (v := (2 : Int32)) dX0_writeRowCall_49 (by decide) ?_
    refine aw_callST (st := [.ref 0]) (As := [.int (6 : Int32), .int (6 : Int32), .int (2 : Int32)]) lX0_143 sttX5_shiftLeft (by omega) (kX5_shiftLeft (d := 1) (by omega) h) rfl rfl rfl dX0_writeRowCall_50 rfl (fun _ _ hh => ?_)
    obtain ⟨r13, τ14, rfl, rfl, h⟩ := hh
    refine ⟨rfl, (fun x hx => by cases hx; rfl), ?_⟩
    refine aw_stk (st' := [.int r13, .ref 0]) rfl ?_
    refine aw_callVT (mc1 := 0) (ms1 := 0) (mc := 0) (ms := 0) (st := []) (q := 0) (As := [.int r13]) lX0_51 insX0_emit selX0_emit ⟨TX0, 12, rfl⟩ (by omega) (kX0_emit (d := 2) (by omega) h) (Nat.le_of_ble_eq_true rfl) rfl rfl rfl dX0_writeRowCall_53 rfl (fun _ _ hh => ?_)
    obtain ⟨τ16, rfl, rfl, h⟩ := hh
    refine aw_stk (st' := []) rfl ?_
    refine aw_aload_n 0 dX0_writeRowCall_56 rfl rfl ?_
    refine aw_iload_n 3 dX0_writeRowCall_57 rfl rfl ?_
    refine aw_callVT (mc1 := 0) (ms1 := 0) (mc := 0) (ms := 0) (st := []) (q := 0) (As := [.int a3]) lX0_51 insX0_emit selX0_emit ⟨TX0, 12, rfl⟩ (by omega) (kX0_emit (d := 2) (by omega) h) (Nat.le_of_ble_eq_true rfl) rfl rfl rfl dX0_writeRowCall_58 rfl (fun _ _ hh => ?_)
    obtain ⟨τ18, rfl, rfl, h⟩ := hh
    refine aw_stk (st' := []) rfl ?_
    refine aw_aload_n 0 dX0_writeRowCall_61 rfl rfl ?_
    refine aw_callVT (mc1 := 0) (ms1 := 0) (mc := 0) (ms := 0) (st := []) (q := 0) (As := []) lX0_99 insX0_comeBack selX0_comeBack ⟨TX0, 12, rfl⟩ (by omega) (kX0_comeBack (d := 3) (by omega) h) (Nat.le_of_ble_eq_true rfl) rfl rfl rfl dX0_writeRowCall_62 rfl (fun _ _ hh => ?_)
    obtain ⟨τ20, rfl, rfl, h⟩ := hh
    refine aw_stk (st' := []) rfl ?_
    exact aw_vret rfl dX0_writeRowCall_65 ⟨τ20, rfl, rfl, h⟩
def wb_X0_writeRowCalls_126  (post : WSX0 → Prop) (rec_126 : WSX0 × Int32 × Int32 → Prop) (σ : WSX0) (x2 : Int32) (x3 : Int32) : Prop :=
  wp_X3_size (σ.2.1, σ.2.2.1)  (fun r8 τ9 => ((r8 ≤ x3 → post (σ.1, (τ9.1, (τ9.2, σ.2.2.2)))) ∧ (¬ r8 ≤ x3 → wp_X0_wordPlace (σ.1, (τ9.1, (τ9.2, σ.2.2.2))) x3 (fun r10 τ11 => wp_X5_add (6 : Int32) (6 : Int32) r10 (fun r12 τ13 => wp_X0_writeRowCall τ11 x3 x2 r12 (fun τ15 => rec_126 (τ15, x2, (x3 + 1))))))))
def wp_X0_writeRowCalls_126  (post : WSX0 → Prop) (n : Nat) (σ : WSX0) (x2 : Int32) (x3 : Int32) : Prop := aw_loop (fun r (a : WSX0 × Int32 × Int32) => wb_X0_writeRowCalls_126  post r a.1 a.2.1 a.2.2) n (σ, x2, x3)
theorem aw_X0_writeRowCalls_126 {G : aw_G} {d : Nat} (hd : 5 ≤ d) {post : WSX0 → Prop}  : ∀ (n : Nat) (σ : WSX0) (x2 : Int32) (x3 : Int32), wp_X0_writeRowCalls_126  post n σ x2 x3 → AW G MX0_writeRowCalls d 0 0 25 (aw_pv (wX0 G) post) 126 [(0, .ref 0), (2, .int x2), (3, .int x3)] [] (wX0 G σ) := by
  intro n
  induction n with
  | zero => intro σ x2 x3 h; exact h.elim
  | succ n ih =>
    intro σ x2 x3 h
    have hrec_126 : ∀ a : WSX0 × Int32 × Int32, aw_loop (fun r (a : WSX0 × Int32 × Int32) => wb_X0_writeRowCalls_126  post r a.1 a.2.1 a.2.2) n a → AW G MX0_writeRowCalls d 0 0 25 (aw_pv (wX0 G) post) 126 [(0, .ref 0), (2, .int a.2.1), (3, .int a.2.2)] [] (wX0 G a.1) := fun a h => ih a.1 a.2.1 a.2.2 h
    have h : wb_X0_writeRowCalls_126  post (aw_loop (fun r (a : WSX0 × Int32 × Int32) => wb_X0_writeRowCalls_126  post r a.1 a.2.1 a.2.2) n) σ x2 x3 := h
    unfold wb_X0_writeRowCalls_126 at h
    refine aw_iload_n 2 dX0_writeRowCalls_126 rfl rfl ?_
    refine aw_aload_n 0 dX0_writeRowCalls_127 rfl rfl ?_
    refine aw_getf (v := .ref 3) fX0_21 0 rfl rfl dX0_writeRowCalls_128 ?_
    refine aw_callV (mc1 := 0) (ms1 := 0) (mc := 0) (ms := 0) (st := [.int x3]) (q := 3) (As := []) (vsc := []) lX0_115 insX3_size selX3_size ⟨TX3, 11, rfl⟩ (by omega) (kX3_size (d := 0) (by omega) h) [3, 4, 5, 6, 7, 8, 9, 10, 11] rfl rfl rfl rfl rfl dX0_writeRowCalls_131 rfl rfl (fun _ _ hh => ?_)
    obtain ⟨r8, τ9, rfl, rfl, h⟩ := hh
    refine ⟨(wX0 G (σ.1, (τ9.1, (τ9.2, σ.2.2.2)))), [.int r8, .int x3], rfl, rfl, rfl, ?_⟩
    refine aw_icmp_ge 161 dX0_writeRowCalls_134 (by decide) (fun c16 => ?_) (fun c16 => ?_)
    · have h := h.1 c16
      exact aw_vret rfl dX0_writeRowCalls_161 ⟨(σ.1, (τ9.1, (τ9.2, σ.2.2.2))), rfl, rfl, h⟩
    · have h := h.2 c16
      refine aw_aload_n 0 dX0_writeRowCalls_137 rfl rfl ?_
      refine aw_iload_n 2 dX0_writeRowCalls_138 rfl rfl ?_
      refine aw_iload_n 1 dX0_writeRowCalls_139 rfl rfl ?_
      refine aw_bipush (v := (6 : Int32)) dX0_writeRowCalls_140 (by decide) ?_
      refine aw_bipush (v := (6 : Int32)) dX0_writeRowCalls_142 (by decide) ?_
      refine aw_aload_n 0 dX0_writeRowCalls_144 rfl rfl ?_
      refine aw_iload_n 2 dX0_writeRowCalls_145 rfl rfl ?_
      refine aw_callVT (mc1 := 0) (ms1 := 0) (mc := 0) (ms := 0) (st := [.int (6 : Int32), .int (6 : Int32), .int x2, .int x3, .ref 0]) (q := 0) (As := [.int x3]) lX0_123 insX0_wordPlace selX0_wordPlace ⟨TX0, 12, rfl⟩ (by omega) (kX0_wordPlace (d := 2) (by omega) h) (Nat.le_of_ble_eq_true rfl) rfl rfl rfl dX0_writeRowCalls_146 rfl (fun _ _ hh => ?_)
      obtain ⟨r10, τ11, rfl, rfl, h⟩ := hh
      refine aw_stk (st' := [.int r10, .int (6 : Int32), .int (6 : Int32), .int x2, .int x3, .ref 0]) rfl ?_
      refine aw_callST (st := [.int x2, .int x3, .ref 0]) (As := [.int (6 : Int32), .int (6 : Int32), .int r10]) lX0_45 sttX5_add (by omega) (kX5_add (d := 1) (by omega) h) rfl rfl rfl dX0_writeRowCalls_149 rfl (fun _ _ hh => ?_)
      obtain ⟨r12, τ13, rfl, rfl, h⟩ := hh
      refine ⟨rfl, (fun x hx => by cases hx; rfl), ?_⟩
      refine aw_stk (st' := [.int r12, .int x2, .int x3, .ref 0]) rfl ?_
      refine aw_callVT (mc1 := 0) (ms1 := 0) (mc := 0) (ms := 0) (st := []) (q := 0) (As := [.int x3, .int x2, .int r12]) lX0_130 insX0_writeRowCall selX0_writeRowCall ⟨TX0, 12, rfl⟩ (by omega) (kX0_writeRowCall (d := 4) (by omega) h) (Nat.le_of_ble_eq_true rfl) rfl rfl rfl dX0_writeRowCalls_152 rfl (fun _ _ hh => ?_)
      obtain ⟨τ15, rfl, rfl, h⟩ := hh
      refine aw_stk (st' := []) rfl ?_
      refine aw_iinc 2 (v := (x3 + 1)) (lv' := [(3, .int (x3 + 1)), (0, .ref 0), (2, .int x2)]) dX0_writeRowCalls_155 rfl rfl (by decide) rfl ?_
      refine aw_goto 126 dX0_writeRowCalls_158 (by decide) ?_
      refine aw_lvsub (lv' := [(0, .ref 0), (2, .int x2), (3, .int (x3 + 1))]) [1, 2, 0] rfl ?_
      exact hrec_126 (τ15, x2, (x3 + 1)) h
def wb_X0_writeRowCalls_76  (post : WSX0 → Prop) (rec_76 : WSX0 × Int32 × Int32 → Prop) (σ : WSX0) (x2 : Int32) (x3 : Int32) : Prop :=
  wp_X3_size (σ.2.1, σ.2.2.1)  (fun r4 τ5 => ((r4 ≤ x3 → wp_X0_writeEnd (σ.1, (τ5.1, (τ5.2, σ.2.2.2))) (1 : Int32) (fun τ7 => (∃ n17, wp_X0_writeRowCalls_126  post n17 (((τ7.1.1.1, (τ7.1.1.2.1, (τ7.1.1.1.1.2, τ7.1.1.2.2.2))), τ7.1.2), τ7.2) x2 (0 : Int32)))) ∧ (¬ r4 ≤ x3 → wp_X0_wordPlace (σ.1, (τ5.1, (τ5.2, σ.2.2.2))) x3 (fun r18 τ19 => wp_X5_fromMemory (6 : Int32) (6 : Int32) r18 (fun r20 τ21 => wp_X0_writeRowCall τ19 x3 x2 r20 (fun τ23 => rec_76 (τ23, x2, (x3 + 1))))))))
def wp_X0_writeRowCalls_76  (post : WSX0 → Prop) (n : Nat) (σ : WSX0) (x2 : Int32) (x3 : Int32) : Prop := aw_loop (fun r (a : WSX0 × Int32 × Int32) => wb_X0_writeRowCalls_76  post r a.1 a.2.1 a.2.2) n (σ, x2, x3)
theorem aw_X0_writeRowCalls_76 {G : aw_G} {d : Nat} (hd : 5 ≤ d) {post : WSX0 → Prop}  : ∀ (n : Nat) (σ : WSX0) (x2 : Int32) (x3 : Int32), wp_X0_writeRowCalls_76  post n σ x2 x3 → AW G MX0_writeRowCalls d 0 0 25 (aw_pv (wX0 G) post) 76 [(0, .ref 0), (2, .int x2), (3, .int x3)] [] (wX0 G σ) := by
  intro n
  induction n with
  | zero => intro σ x2 x3 h; exact h.elim
  | succ n ih =>
    intro σ x2 x3 h
    have hrec_76 : ∀ a : WSX0 × Int32 × Int32, aw_loop (fun r (a : WSX0 × Int32 × Int32) => wb_X0_writeRowCalls_76  post r a.1 a.2.1 a.2.2) n a → AW G MX0_writeRowCalls d 0 0 25 (aw_pv (wX0 G) post) 76 [(0, .ref 0), (2, .int a.2.1), (3, .int a.2.2)] [] (wX0 G a.1) := fun a h => ih a.1 a.2.1 a.2.2 h
    have h : wb_X0_writeRowCalls_76  post (aw_loop (fun r (a : WSX0 × Int32 × Int32) => wb_X0_writeRowCalls_76  post r a.1 a.2.1 a.2.2) n) σ x2 x3 := h
    unfold wb_X0_writeRowCalls_76 at h
    refine aw_iload_n 2 dX0_writeRowCalls_76 rfl rfl ?_
    refine aw_aload_n 0 dX0_writeRowCalls_77 rfl rfl ?_
    refine aw_getf (v := .ref 3) fX0_21 0 rfl rfl dX0_writeRowCalls_78 ?_
    refine aw_callV (mc1 := 0) (ms1 := 0) (mc := 0) (ms := 0) (st := [.int x3]) (q := 3) (As := []) (vsc := []) lX0_115 insX3_size selX3_size ⟨TX3, 11, rfl⟩ (by omega) (kX3_size (d := 0) (by omega) h) [3, 4, 5, 6, 7, 8, 9, 10, 11] rfl rfl rfl rfl rfl dX0_writeRowCalls_81 rfl rfl (fun _ _ hh => ?_)
    obtain ⟨r4, τ5, rfl, rfl, h⟩ := hh
    refine ⟨(wX0 G (σ.1, (τ5.1, (τ5.2, σ.2.2.2)))), [.int r4, .int x3], rfl, rfl, rfl, ?_⟩
    refine aw_icmp_ge 111 dX0_writeRowCalls_84 (by decide) (fun c24 => ?_) (fun c24 => ?_)
    · have h := h.1 c24
      refine aw_aload_n 0 dX0_writeRowCalls_111 rfl rfl ?_
      refine aw_iconst (v := (1 : Int32)) dX0_writeRowCalls_112 (by decide) ?_
      refine aw_callVT (mc1 := 0) (ms1 := 0) (mc := 0) (ms := 0) (st := []) (q := 0) (As := [.int (1 : Int32)]) lX0_72 insX0_writeEnd selX0_writeEnd ⟨TX0, 12, rfl⟩ (by omega) (kX0_writeEnd (d := 3) (by omega) h) (Nat.le_of_ble_eq_true rfl) rfl rfl rfl dX0_writeRowCalls_113 rfl (fun _ _ hh => ?_)
      obtain ⟨τ7, rfl, rfl, h⟩ := hh
      refine aw_stk (st' := []) rfl ?_
      refine aw_aload_n 0 dX0_writeRowCalls_116 rfl rfl ?_
      refine aw_aload_n 0 dX0_writeRowCalls_117 rfl rfl ?_
      refine aw_getf (v := .int τ7.1.1.1.1.2) fX0_35 0 rfl rfl dX0_writeRowCalls_118 ?_
      refine aw_putf fX0_134 0 (w' := (wX0 G (((τ7.1.1.1, (τ7.1.1.2.1, (τ7.1.1.1.1.2, τ7.1.1.2.2.2))), τ7.1.2), τ7.2))) rfl (fun _ => ⟨rfl, rfl⟩) (Nat.le_of_ble_eq_true rfl) rfl dX0_writeRowCalls_121 ?_
      refine aw_iconst (v := (0 : Int32)) dX0_writeRowCalls_124 (by decide) ?_
      refine aw_istore_n (lv' := [(3, .int (0 : Int32)), (0, .ref 0), (2, .int x2)]) dX0_writeRowCalls_125 rfl (by decide) rfl ?_
      refine aw_lvsub (lv' := [(0, .ref 0), (2, .int x2), (3, .int (0 : Int32))]) [1, 2, 0] rfl ?_
      obtain ⟨n17, h⟩ := h
      exact aw_X0_writeRowCalls_126 hd  n17 (((τ7.1.1.1, (τ7.1.1.2.1, (τ7.1.1.1.1.2, τ7.1.1.2.2.2))), τ7.1.2), τ7.2) x2 (0 : Int32) h
    · have h := h.2 c24
      refine aw_aload_n 0 dX0_writeRowCalls_87 rfl rfl ?_
      refine aw_iload_n 2 dX0_writeRowCalls_88 rfl rfl ?_
      refine aw_iload_n 1 dX0_writeRowCalls_89 rfl rfl ?_
      refine aw_bipush (v := (6 : Int32)) dX0_writeRowCalls_90 (by decide) ?_
      refine aw_bipush (v := (6 : Int32)) dX0_writeRowCalls_92 (by decide) ?_
      refine aw_aload_n 0 dX0_writeRowCalls_94 rfl rfl ?_
      refine aw_iload_n 2 dX0_writeRowCalls_95 rfl rfl ?_
      refine aw_callVT (mc1 := 0) (ms1 := 0) (mc := 0) (ms := 0) (st := [.int (6 : Int32), .int (6 : Int32), .int x2, .int x3, .ref 0]) (q := 0) (As := [.int x3]) lX0_123 insX0_wordPlace selX0_wordPlace ⟨TX0, 12, rfl⟩ (by omega) (kX0_wordPlace (d := 2) (by omega) h) (Nat.le_of_ble_eq_true rfl) rfl rfl rfl dX0_writeRowCalls_96 rfl (fun _ _ hh => ?_)
      obtain ⟨r18, τ19, rfl, rfl, h⟩ := hh
      refine aw_stk (st' := [.int r18, .int (6 : Int32), .int (6 : Int32), .int x2, .int x3, .ref 0]) rfl ?_
      refine aw_callST (st := [.int x2, .int x3, .ref 0]) (As := [.int (6 : Int32), .int (6 : Int32), .int r18]) lX0_127 sttX5_fromMemory (by omega) (kX5_fromMemory (d := 0) (by omega) h) rfl rfl rfl dX0_writeRowCalls_99 rfl (fun _ _ hh => ?_)
      obtain ⟨r20, τ21, rfl, rfl, h⟩ := hh
      refine ⟨rfl, (fun x hx => by cases hx; rfl), ?_⟩
      refine aw_stk (st' := [.int r20, .int x2, .int x3, .ref 0]) rfl ?_
      refine aw_callVT (mc1 := 0) (ms1 := 0) (mc := 0) (ms := 0) (st := []) (q := 0) (As := [.int x3, .int x2, .int r20]) lX0_130 insX0_writeRowCall selX0_writeRowCall ⟨TX0, 12, rfl⟩ (by omega) (kX0_writeRowCall (d := 4) (by omega) h) (Nat.le_of_ble_eq_true rfl) rfl rfl rfl dX0_writeRowCalls_102 rfl (fun _ _ hh => ?_)
      obtain ⟨τ23, rfl, rfl, h⟩ := hh
      refine aw_stk (st' := []) rfl ?_
      refine aw_iinc 2 (v := (x3 + 1)) (lv' := [(3, .int (x3 + 1)), (0, .ref 0), (2, .int x2)]) dX0_writeRowCalls_105 rfl rfl (by decide) rfl ?_
      refine aw_goto 76 dX0_writeRowCalls_108 (by decide) ?_
      refine aw_lvsub (lv' := [(0, .ref 0), (2, .int x2), (3, .int (x3 + 1))]) [1, 2, 0] rfl ?_
      exact hrec_76 (τ23, x2, (x3 + 1)) h
def wp_X0_writeRowCalls_56  (post : WSX0 → Prop) (σ : WSX0) (x1 : Int32) : Prop :=
  (∀ y3 : Int32, y3 = (σ.1.1.1.1.2 + (x1 * (20 : Int32))) → (∃ n25, wp_X0_writeRowCalls_76  post n25 (((σ.1.1.1, ((σ.1.1.2.1.1, σ.1.1.1.1.2), σ.1.1.2.2)), σ.1.2), σ.2) y3 (0 : Int32)))
theorem aw_X0_writeRowCalls_56 {G : aw_G} {d : Nat} (hd : 5 ≤ d) {post : WSX0 → Prop}  {σ : WSX0} {x1 : Int32} (h : wp_X0_writeRowCalls_56  post σ x1) : AW G MX0_writeRowCalls d 0 0 25 (aw_pv (wX0 G) post) 56 [(0, .ref 0), (1, .int x1)] [] (wX0 G σ) := by
  unfold wp_X0_writeRowCalls_56 at h
  refine aw_aload_n 0 dX0_writeRowCalls_56 rfl rfl ?_
  refine aw_aload_n 0 dX0_writeRowCalls_57 rfl rfl ?_
  refine aw_getf (v := .int σ.1.1.1.1.2) fX0_35 0 rfl rfl dX0_writeRowCalls_58 ?_
  refine aw_putf fX0_120 0 (w' := (wX0 G (((σ.1.1.1, ((σ.1.1.2.1.1, σ.1.1.1.1.2), σ.1.1.2.2)), σ.1.2), σ.2))) rfl (fun _ => ⟨rfl, rfl⟩) (Nat.le_of_ble_eq_true rfl) rfl dX0_writeRowCalls_61 ?_
  refine aw_aload_n 0 dX0_writeRowCalls_64 rfl rfl ?_
  refine aw_getf (v := .int σ.1.1.1.1.2) fX0_35 0 rfl rfl dX0_writeRowCalls_65 ?_
  refine aw_iload_n 1 dX0_writeRowCalls_68 rfl rfl ?_
  refine aw_bipush (v := (20 : Int32)) dX0_writeRowCalls_69 (by decide) ?_
  refine aw_imul dX0_writeRowCalls_71 ?_
  refine aw_iadd dX0_writeRowCalls_72 ?_
  refine aw_topi (fun y3 ey3 => ?_)
  have h := h y3 ey3
  refine aw_istore_n (lv' := [(2, .int y3), (0, .ref 0), (1, .int x1)]) dX0_writeRowCalls_73 rfl (by decide) rfl ?_
  refine aw_iconst (v := (0 : Int32)) dX0_writeRowCalls_74 (by decide) ?_
  refine aw_istore_n (lv' := [(3, .int (0 : Int32)), (2, .int y3), (0, .ref 0), (1, .int x1)]) dX0_writeRowCalls_75 rfl (by decide) rfl ?_
  refine aw_lvsub (lv' := [(0, .ref 0), (2, .int y3), (3, .int (0 : Int32))]) [2, 1, 0] rfl ?_
  obtain ⟨n25, h⟩ := h
  exact aw_X0_writeRowCalls_76 hd  n25 (((σ.1.1.1, ((σ.1.1.2.1.1, σ.1.1.1.1.2), σ.1.1.2.2)), σ.1.2), σ.2) y3 (0 : Int32) h
def wp_X0_writeRowCalls_48 (rec_4 : WSX0 × Int32 × Int32 → Prop) (post : WSX0 → Prop) (σ : WSX0) (x2 : Int32) (s0 : Int32) (s1 : Int32) : Prop :=
  (∀ y29 : Int32, y29 = (s1 + s0) → rec_4 (σ, y29, (x2 + 1)))
theorem aw_X0_writeRowCalls_48 {G : aw_G} {d : Nat} (hd : 5 ≤ d) {rec_4 : WSX0 × Int32 × Int32 → Prop} {post : WSX0 → Prop} (hrec_4 : ∀ a : WSX0 × Int32 × Int32, rec_4 a → AW G MX0_writeRowCalls d 0 0 25 (aw_pv (wX0 G) post) 4 [(0, .ref 0), (1, .int a.2.1), (2, .int a.2.2)] [] (wX0 G a.1)) {σ : WSX0} {x2 : Int32} {s0 : Int32} {s1 : Int32} (h : wp_X0_writeRowCalls_48 rec_4 post σ x2 s0 s1) : AW G MX0_writeRowCalls d 0 0 25 (aw_pv (wX0 G) post) 48 [(0, .ref 0), (2, .int x2)] [.int s0, .int s1] (wX0 G σ) := by
  unfold wp_X0_writeRowCalls_48 at h
  refine aw_iadd dX0_writeRowCalls_48 ?_
  refine aw_topi (fun y29 ey29 => ?_)
  have h := h y29 ey29
  refine aw_istore_n (lv' := [(1, .int y29), (0, .ref 0), (2, .int x2)]) dX0_writeRowCalls_49 rfl (by decide) rfl ?_
  refine aw_iinc 2 (v := (x2 + 1)) (lv' := [(2, .int (x2 + 1)), (1, .int y29), (0, .ref 0)]) dX0_writeRowCalls_50 rfl rfl (by decide) rfl ?_
  refine aw_goto 4 dX0_writeRowCalls_53 (by decide) ?_
  refine aw_lvsub (lv' := [(0, .ref 0), (1, .int y29), (2, .int (x2 + 1))]) [2, 1, 0] rfl ?_
  exact hrec_4 (σ, y29, (x2 + 1)) h
def wb_X0_writeRowCalls_4  (post : WSX0 → Prop) (rec_4 : WSX0 × Int32 × Int32 → Prop) (σ : WSX0) (x1 : Int32) (x2 : Int32) : Prop :=
  wp_X3_size (σ.2.1, σ.2.2.1)  (fun r1 τ2 => ((r1 ≤ x2 → wp_X0_writeRowCalls_56  post (σ.1, (τ2.1, (τ2.2, σ.2.2.2))) x1) ∧ (¬ r1 ≤ x2 → (((200 : Int32) ≤ x2 → wp_X0_writeRowCalls_56  post (σ.1, (τ2.1, (τ2.2, σ.2.2.2))) x1) ∧ (¬ (200 : Int32) ≤ x2 → (vp_in x2 200 ∧ ∀ y26 : Nat → Int32, y26 = upd σ.1.1.1.1.1 (x2).toNatClampNeg x1 → wp_X3_isRow τ2 x2 (fun r27 τ28 => ((r27 = 0 → wp_X0_writeRowCalls_48 rec_4 post (((((y26, σ.1.1.1.1.2), σ.1.1.1.2), σ.1.1.2), σ.1.2), (τ28.1, (τ28.2, σ.2.2.2))) x2 (0 : Int32) x1) ∧ (¬ r27 = 0 → wp_X0_writeRowCalls_48 rec_4 post (((((y26, σ.1.1.1.1.2), σ.1.1.1.2), σ.1.1.2), σ.1.2), (τ28.1, (τ28.2, σ.2.2.2))) x2 (1 : Int32) x1)))))))))
def wp_X0_writeRowCalls_4  (post : WSX0 → Prop) (n : Nat) (σ : WSX0) (x1 : Int32) (x2 : Int32) : Prop := aw_loop (fun r (a : WSX0 × Int32 × Int32) => wb_X0_writeRowCalls_4  post r a.1 a.2.1 a.2.2) n (σ, x1, x2)
theorem aw_X0_writeRowCalls_4 {G : aw_G} {d : Nat} (hd : 5 ≤ d) {post : WSX0 → Prop}  : ∀ (n : Nat) (σ : WSX0) (x1 : Int32) (x2 : Int32), wp_X0_writeRowCalls_4  post n σ x1 x2 → AW G MX0_writeRowCalls d 0 0 25 (aw_pv (wX0 G) post) 4 [(0, .ref 0), (1, .int x1), (2, .int x2)] [] (wX0 G σ) := by
  intro n
  induction n with
  | zero => intro σ x1 x2 h; exact h.elim
  | succ n ih =>
    intro σ x1 x2 h
    have hrec_4 : ∀ a : WSX0 × Int32 × Int32, aw_loop (fun r (a : WSX0 × Int32 × Int32) => wb_X0_writeRowCalls_4  post r a.1 a.2.1 a.2.2) n a → AW G MX0_writeRowCalls d 0 0 25 (aw_pv (wX0 G) post) 4 [(0, .ref 0), (1, .int a.2.1), (2, .int a.2.2)] [] (wX0 G a.1) := fun a h => ih a.1 a.2.1 a.2.2 h
    have h : wb_X0_writeRowCalls_4  post (aw_loop (fun r (a : WSX0 × Int32 × Int32) => wb_X0_writeRowCalls_4  post r a.1 a.2.1 a.2.2) n) σ x1 x2 := h
    unfold wb_X0_writeRowCalls_4 at h
    refine aw_iload_n 2 dX0_writeRowCalls_4 rfl rfl ?_
    refine aw_aload_n 0 dX0_writeRowCalls_5 rfl rfl ?_
    refine aw_getf (v := .ref 3) fX0_21 0 rfl rfl dX0_writeRowCalls_6 ?_
    refine aw_callV (mc1 := 0) (ms1 := 0) (mc := 0) (ms := 0) (st := [.int x2]) (q := 3) (As := []) (vsc := []) lX0_115 insX3_size selX3_size ⟨TX3, 11, rfl⟩ (by omega) (kX3_size (d := 0) (by omega) h) [3, 4, 5, 6, 7, 8, 9, 10, 11] rfl rfl rfl rfl rfl dX0_writeRowCalls_9 rfl rfl (fun _ _ hh => ?_)
    obtain ⟨r1, τ2, rfl, rfl, h⟩ := hh
    refine ⟨(wX0 G (σ.1, (τ2.1, (τ2.2, σ.2.2.2)))), [.int r1, .int x2], rfl, rfl, rfl, ?_⟩
    refine aw_icmp_ge 56 dX0_writeRowCalls_12 (by decide) (fun c32 => ?_) (fun c32 => ?_)
    · have h := h.1 c32
      refine aw_lvsub (lv' := [(0, .ref 0), (1, .int x1)]) [0, 1] rfl ?_
      exact aw_X0_writeRowCalls_56 hd  h
    · have h := h.2 c32
      refine aw_iload_n 2 dX0_writeRowCalls_15 rfl rfl ?_
      refine aw_aload_n 0 dX0_writeRowCalls_16 rfl rfl ?_
      refine aw_getf (v := .ref 1) fX0_13 0 rfl rfl dX0_writeRowCalls_17 ?_
      refine aw_alen 1 0 (v := (200 : Int32)) rfl rfl rfl dX0_writeRowCalls_20 ?_
      refine aw_icmp_ge 56 dX0_writeRowCalls_21 (by decide) (fun c31 => ?_) (fun c31 => ?_)
      · have h := h.1 c31
        refine aw_lvsub (lv' := [(0, .ref 0), (1, .int x1)]) [0, 1] rfl ?_
        exact aw_X0_writeRowCalls_56 hd  h
      · have h := h.2 c31
        refine aw_aload_n 0 dX0_writeRowCalls_24 rfl rfl ?_
        refine aw_getf (v := .ref 1) fX0_13 0 rfl rfl dX0_writeRowCalls_25 ?_
        refine aw_iload_n 2 dX0_writeRowCalls_28 rfl rfl ?_
        refine aw_iload_n 1 dX0_writeRowCalls_29 rfl rfl ?_
        refine aw_iast 1 (n := 200) (f := σ.1.1.1.1.1) (w' := fun y26 => (wX0 G (((((y26, σ.1.1.1.1.2), σ.1.1.1.2), σ.1.1.2), σ.1.2), (τ2.1, (τ2.2, σ.2.2.2))))) rfl h.1 (fun _ => rfl) dX0_writeRowCalls_30 (fun y26 ey26 => ?_)
        have h := h.2 y26 ey26
        refine aw_iload_n 1 dX0_writeRowCalls_31 rfl rfl ?_
        refine aw_aload_n 0 dX0_writeRowCalls_32 rfl rfl ?_
        refine aw_getf (v := .ref 3) fX0_21 0 rfl rfl dX0_writeRowCalls_33 ?_
        refine aw_iload_n 2 dX0_writeRowCalls_36 rfl rfl ?_
        refine aw_callV (mc1 := 0) (ms1 := 0) (mc := 0) (ms := 0) (st := [.int x1]) (q := 3) (As := [.int x2]) (vsc := [.int x2]) lX0_116 insX3_isRow selX3_isRow ⟨TX3, 11, rfl⟩ (by omega) (kX3_isRow (d := 2) (by omega) h) [3, 4, 5, 6, 7, 8, 9, 10, 11] rfl rfl rfl rfl rfl dX0_writeRowCalls_37 rfl rfl (fun _ _ hh => ?_)
        obtain ⟨r27, τ28, rfl, rfl, h⟩ := hh
        refine ⟨(wX0 G (((((y26, σ.1.1.1.1.2), σ.1.1.1.2), σ.1.1.2), σ.1.2), (τ28.1, (τ28.2, σ.2.2.2)))), [.int r27, .int x1], rfl, rfl, rfl, ?_⟩
        refine aw_if_eq 47 dX0_writeRowCalls_40 (by decide) (fun c30 => ?_) (fun c30 => ?_)
        · have h := h.1 c30
          refine aw_iconst (v := (0 : Int32)) dX0_writeRowCalls_47 (by decide) ?_
          refine aw_lvsub (lv' := [(0, .ref 0), (2, .int x2)]) [0, 2] rfl ?_
          exact aw_X0_writeRowCalls_48 hd hrec_4 h
        · have h := h.2 c30
          refine aw_iconst (v := (1 : Int32)) dX0_writeRowCalls_43 (by decide) ?_
          refine aw_goto 48 dX0_writeRowCalls_44 (by decide) ?_
          refine aw_lvsub (lv' := [(0, .ref 0), (2, .int x2)]) [0, 2] rfl ?_
          exact aw_X0_writeRowCalls_48 hd hrec_4 h
def wp_X0_writeRowCalls (σ : WSX0) (post : WSX0 → Prop) : Prop :=
  (∃ n33, wp_X0_writeRowCalls_4  post n33 σ (0 : Int32) (0 : Int32))
theorem kX0_writeRowCalls {G : aw_G} {d : Nat} (hd : 5 ≤ d) {σ : WSX0} {post : WSX0 → Prop} (h : wp_X0_writeRowCalls σ post) : AC G MX0_writeRowCalls d 0 0 25 [.ref 0] (wX0 G σ) (aw_pv (wX0 G) post) := by
  refine AC.of (lv := [(0, .ref 0)]) (by decide) (Nat.le_of_ble_eq_true rfl) rfl ?_
  unfold wp_X0_writeRowCalls at h
  refine aw_iconst (v := (0 : Int32)) dX0_writeRowCalls_0 (by decide) ?_
  refine aw_istore_n (lv' := [(1, .int (0 : Int32)), (0, .ref 0)]) dX0_writeRowCalls_1 rfl (by decide) rfl ?_
  refine aw_iconst (v := (0 : Int32)) dX0_writeRowCalls_2 (by decide) ?_
  refine aw_istore_n (lv' := [(2, .int (0 : Int32)), (1, .int (0 : Int32)), (0, .ref 0)]) dX0_writeRowCalls_3 rfl (by decide) rfl ?_
  refine aw_lvsub (lv' := [(0, .ref 0), (1, .int (0 : Int32)), (2, .int (0 : Int32))]) [2, 1, 0] rfl ?_
  obtain ⟨n33, h⟩ := h
  exact aw_X0_writeRowCalls_4 hd  n33 σ (0 : Int32) (0 : Int32) h
def wp_X0_closeJump (σ : WSX0) (a1 : Int32) (post : WSX0 → Prop) : Prop :=
  wp_X5_jump (0 : Int32) (σ.1.1.1.1.2 - a1) (fun r1 τ2 => wp_X2_store σ.2.2.2 a1 r1 (fun r3 τ4 => post (σ.1, (σ.2.1, (σ.2.2.1, τ4)))))
theorem kX0_closeJump {G : aw_G} {d : Nat} (hd : 2 ≤ d) {σ : WSX0} {a1 : Int32} {post : WSX0 → Prop} (h : wp_X0_closeJump σ a1 post) : AC G MX0_closeJump d 0 0 25 [.ref 0, .int a1] (wX0 G σ) (aw_pv (wX0 G) post) := by
  refine AC.of (lv := [(0, .ref 0), (1, .int a1)]) (by decide) (Nat.le_of_ble_eq_true rfl) rfl ?_
  unfold wp_X0_closeJump at h
  refine aw_aload_n 0 dX0_closeJump_0 rfl rfl ?_
  refine aw_getf (v := .ref 12) fX0_25 0 rfl rfl dX0_closeJump_1 ?_
  refine aw_iload_n 1 dX0_closeJump_4 rfl rfl ?_
  refine aw_iconst (v := (0 : Int32)) dX0_closeJump_5 (by decide) ?_
  refine aw_aload_n 0 dX0_closeJump_6 rfl rfl ?_
  refine aw_getf (v := .int σ.1.1.1.1.2) fX0_35 0 rfl rfl dX0_closeJump_7 ?_
  refine aw_iload_n 1 dX0_closeJump_10 rfl rfl ?_
  refine aw_isub dX0_closeJump_11 ?_
  refine aw_callST (st := [.int a1, .ref 12]) (As := [.int (0 : Int32), .int (σ.1.1.1.1.2 - a1)]) lX0_79 sttX5_jump (by omega) (kX5_jump (d := 0) (by omega) h) rfl rfl rfl dX0_closeJump_12 rfl (fun _ _ hh => ?_)
  obtain ⟨r1, τ2, rfl, rfl, h⟩ := hh
  refine ⟨rfl, (fun x hx => by cases hx; rfl), ?_⟩
  refine aw_stk (st' := [.int r1, .int a1, .ref 12]) rfl ?_
  refine aw_callV (mc1 := 0) (ms1 := 0) (mc := 0) (ms := 0) (st := []) (q := 12) (As := [.int a1, .int r1]) (vsc := [.int a1, .int r1]) lX0_75 insX2_store selX2_store ⟨TX2, 8, rfl⟩ (by omega) (kX2_store (d := 1) (by omega) h) [12, 13, 14, 15] rfl rfl rfl rfl rfl dX0_closeJump_15 rfl rfl (fun _ _ hh => ?_)
  obtain ⟨r3, τ4, rfl, rfl, h⟩ := hh
  refine ⟨(wX0 G (σ.1, (σ.2.1, (σ.2.2.1, τ4)))), [.int r3], rfl, rfl, rfl, ?_⟩
  refine aw_pop dX0_closeJump_18 rfl ?_
  exact aw_vret rfl dX0_closeJump_19 ⟨(σ.1, (σ.2.1, (σ.2.2.1, τ4))), rfl, rfl, h⟩
def wp_X0_callFor (σ : WSX0) (a1 : Int32) (a2 : Int32) (post : WSX0 → Prop) : Prop :=
  wp_X5_jump (1 : Int32) (a2 - σ.1.1.1.1.2) (fun r1 τ2 => wp_X0_emit σ r1 (fun τ4 => wp_X4_keepBack τ4.1.2 a1 τ4.1.1.1.1.2 (fun τ6 => post ((τ4.1.1, τ6), τ4.2))))
theorem kX0_callFor {G : aw_G} {d : Nat} (hd : 3 ≤ d) {σ : WSX0} {a1 : Int32} {a2 : Int32} {post : WSX0 → Prop} (h : wp_X0_callFor σ a1 a2 post) : AC G MX0_callFor d 0 0 25 [.ref 0, .int a1, .int a2] (wX0 G σ) (aw_pv (wX0 G) post) := by
  refine AC.of (lv := [(0, .ref 0), (1, .int a1), (2, .int a2)]) (by decide) (Nat.le_of_ble_eq_true rfl) rfl ?_
  unfold wp_X0_callFor at h
  refine aw_aload_n 0 dX0_callFor_0 rfl rfl ?_
  refine aw_iconst (v := (1 : Int32)) dX0_callFor_1 (by decide) ?_
  refine aw_iload_n 2 dX0_callFor_2 rfl rfl ?_
  refine aw_aload_n 0 dX0_callFor_3 rfl rfl ?_
  refine aw_getf (v := .int σ.1.1.1.1.2) fX0_35 0 rfl rfl dX0_callFor_4 ?_
  refine aw_isub dX0_callFor_7 ?_
  refine aw_callST (st := [.ref 0]) (As := [.int (1 : Int32), .int (a2 - σ.1.1.1.1.2)]) lX0_79 sttX5_jump (by omega) (kX5_jump (d := 0) (by omega) h) rfl rfl rfl dX0_callFor_8 rfl (fun _ _ hh => ?_)
  obtain ⟨r1, τ2, rfl, rfl, h⟩ := hh
  refine ⟨rfl, (fun x hx => by cases hx; rfl), ?_⟩
  refine aw_stk (st' := [.int r1, .ref 0]) rfl ?_
  refine aw_callVT (mc1 := 0) (ms1 := 0) (mc := 0) (ms := 0) (st := []) (q := 0) (As := [.int r1]) lX0_51 insX0_emit selX0_emit ⟨TX0, 12, rfl⟩ (by omega) (kX0_emit (d := 2) (by omega) h) (Nat.le_of_ble_eq_true rfl) rfl rfl rfl dX0_callFor_11 rfl (fun _ _ hh => ?_)
  obtain ⟨τ4, rfl, rfl, h⟩ := hh
  refine aw_stk (st' := []) rfl ?_
  refine aw_aload_n 0 dX0_callFor_14 rfl rfl ?_
  refine aw_getf (v := .ref 2) fX0_17 0 rfl rfl dX0_callFor_15 ?_
  refine aw_iload_n 1 dX0_callFor_18 rfl rfl ?_
  refine aw_aload_n 0 dX0_callFor_19 rfl rfl ?_
  refine aw_getf (v := .int τ4.1.1.1.1.2) fX0_35 0 rfl rfl dX0_callFor_20 ?_
  refine aw_callV (mc1 := 0) (ms1 := 0) (mc := 0) (ms := 0) (st := []) (q := 2) (As := [.int a1, .int τ4.1.1.1.1.2]) (vsc := [.int a1, .int τ4.1.1.1.1.2]) lX0_89 insX4_keepBack selX4_keepBack ⟨TX4, 10, rfl⟩ (by omega) (kX4_keepBack (d := 1) (by omega) h) [2, 16, 17, 18, 19, 20, 21, 22, 23, 24] rfl rfl rfl rfl rfl dX0_callFor_23 rfl rfl (fun _ _ hh => ?_)
  obtain ⟨τ6, rfl, rfl, h⟩ := hh
  refine ⟨(wX0 G ((τ4.1.1, τ6), τ4.2)), [], rfl, rfl, rfl, ?_⟩
  exact aw_vret rfl dX0_callFor_26 ⟨((τ4.1.1, τ6), τ4.2), rfl, rfl, h⟩
def wp_X0_writeStep (σ : WSX0) (a1 : Int32) (post : WSX0 → Prop) : Prop :=
  ((¬ σ.1.1.2.2.2.2 = 0 → post σ) ∧ (σ.1.1.2.2.2.2 = 0 → wp_X0_callFor σ a1 σ.1.1.1.2.1 (fun τ2 => post τ2)))
theorem kX0_writeStep {G : aw_G} {d : Nat} (hd : 4 ≤ d) {σ : WSX0} {a1 : Int32} {post : WSX0 → Prop} (h : wp_X0_writeStep σ a1 post) : AC G MX0_writeStep d 0 0 25 [.ref 0, .int a1] (wX0 G σ) (aw_pv (wX0 G) post) := by
  refine AC.of (lv := [(0, .ref 0), (1, .int a1)]) (by decide) (Nat.le_of_ble_eq_true rfl) rfl ?_
  unfold wp_X0_writeStep at h
  refine aw_aload_n 0 dX0_writeStep_0 rfl rfl ?_
  refine aw_getf (v := .int σ.1.1.2.2.2.2) fX0_42 0 rfl rfl dX0_writeStep_1 ?_
  refine aw_if_ne 16 dX0_writeStep_4 (by decide) (fun c3 => ?_) (fun c3 => ?_)
  · have h := h.1 c3
    exact aw_vret rfl dX0_writeStep_16 ⟨σ, rfl, rfl, h⟩
  · have h := h.2 c3
    refine aw_aload_n 0 dX0_writeStep_7 rfl rfl ?_
    refine aw_iload_n 1 dX0_writeStep_8 rfl rfl ?_
    refine aw_aload_n 0 dX0_writeStep_9 rfl rfl ?_
    refine aw_getf (v := .int σ.1.1.1.2.1) fX0_93 0 rfl rfl dX0_writeStep_10 ?_
    refine aw_callVT (mc1 := 0) (ms1 := 0) (mc := 0) (ms := 0) (st := []) (q := 0) (As := [.int a1, .int σ.1.1.1.2.1]) lX0_164 insX0_callFor selX0_callFor ⟨TX0, 12, rfl⟩ (by omega) (kX0_callFor (d := 3) (by omega) h) (Nat.le_of_ble_eq_true rfl) rfl rfl rfl dX0_writeStep_13 rfl (fun _ _ hh => ?_)
    obtain ⟨τ2, rfl, rfl, h⟩ := hh
    refine aw_stk (st' := []) rfl ?_
    exact aw_vret rfl dX0_writeStep_16 ⟨τ2, rfl, rfl, h⟩
def wp_X0_isLeaf (σ : WSX0) (a1 : Int32) (post : Int32 → WSX0 → Prop) : Prop :=
  wp_X4_kind σ.1.2 a1 (fun r1 τ2 => ((r1 = (3 : Int32) → post (1 : Int32) ((σ.1.1, τ2), σ.2)) ∧ (¬ r1 = (3 : Int32) → ((r1 = (2 : Int32) → post (1 : Int32) ((σ.1.1, τ2), σ.2)) ∧ (¬ r1 = (2 : Int32) → ((¬ r1 = (30 : Int32) → post (0 : Int32) ((σ.1.1, τ2), σ.2)) ∧ (r1 = (30 : Int32) → post (1 : Int32) ((σ.1.1, τ2), σ.2))))))))
theorem kX0_isLeaf {G : aw_G} {d : Nat} (hd : 2 ≤ d) {σ : WSX0} {a1 : Int32} {post : Int32 → WSX0 → Prop} (h : wp_X0_isLeaf σ a1 post) : AC G MX0_isLeaf d 0 0 25 [.ref 0, .int a1] (wX0 G σ) (aw_pi (wX0 G) post) := by
  refine AC.of (lv := [(0, .ref 0), (1, .int a1)]) (by decide) (Nat.le_of_ble_eq_true rfl) rfl ?_
  unfold wp_X0_isLeaf at h
  refine aw_aload_n 0 dX0_isLeaf_0 rfl rfl ?_
  refine aw_getf (v := .ref 2) fX0_17 0 rfl rfl dX0_isLeaf_1 ?_
  refine aw_iload_n 1 dX0_isLeaf_4 rfl rfl ?_
  refine aw_callV (mc1 := 0) (ms1 := 0) (mc := 0) (ms := 0) (st := []) (q := 2) (As := [.int a1]) (vsc := [.int a1]) lX0_149 insX4_kind selX4_kind ⟨TX4, 10, rfl⟩ (by omega) (kX4_kind (d := 1) (by omega) h) [2, 16, 17, 18, 19, 20, 21, 22, 23, 24] rfl rfl rfl rfl rfl dX0_isLeaf_5 rfl rfl (fun _ _ hh => ?_)
  obtain ⟨r1, τ2, rfl, rfl, h⟩ := hh
  refine ⟨(wX0 G ((σ.1.1, τ2), σ.2)), [.int r1], rfl, rfl, rfl, ?_⟩
  refine aw_istore_n (lv' := [(2, .int r1), (0, .ref 0), (1, .int a1)]) dX0_isLeaf_8 rfl (by decide) rfl ?_
  refine aw_iload_n 0 dX0_isLeaf_9 rfl rfl ?_
  refine aw_iconst (v := (3 : Int32)) dX0_isLeaf_10 (by decide) ?_
  refine aw_icmp_eq 25 dX0_isLeaf_11 (by decide) (fun c5 => ?_) (fun c5 => ?_)
  · have h := h.1 c5
    refine aw_iconst (v := (1 : Int32)) dX0_isLeaf_25 (by decide) ?_
    refine aw_goto 30 dX0_isLeaf_26 (by decide) ?_
    exact aw_zret rfl rfl dX0_isLeaf_30 ⟨_, ((σ.1.1, τ2), σ.2), rfl, rfl, h⟩
  · have h := h.2 c5
    refine aw_iload_n 0 dX0_isLeaf_14 rfl rfl ?_
    refine aw_iconst (v := (2 : Int32)) dX0_isLeaf_15 (by decide) ?_
    refine aw_icmp_eq 25 dX0_isLeaf_16 (by decide) (fun c4 => ?_) (fun c4 => ?_)
    · have h := h.1 c4
      refine aw_iconst (v := (1 : Int32)) dX0_isLeaf_25 (by decide) ?_
      refine aw_goto 30 dX0_isLeaf_26 (by decide) ?_
      exact aw_zret rfl rfl dX0_isLeaf_30 ⟨_, ((σ.1.1, τ2), σ.2), rfl, rfl, h⟩
    · have h := h.2 c4
      refine aw_iload_n 0 dX0_isLeaf_19 rfl rfl ?_
      refine aw_bipush (v := (30 : Int32)) dX0_isLeaf_20 (by decide) ?_
      refine aw_icmp_ne 29 dX0_isLeaf_22 (by decide) (fun c3 => ?_) (fun c3 => ?_)
      · have h := h.1 c3
        refine aw_iconst (v := (0 : Int32)) dX0_isLeaf_29 (by decide) ?_
        exact aw_zret rfl rfl dX0_isLeaf_30 ⟨_, ((σ.1.1, τ2), σ.2), rfl, rfl, h⟩
      · have h := h.2 c3
        refine aw_iconst (v := (1 : Int32)) dX0_isLeaf_25 (by decide) ?_
        refine aw_goto 30 dX0_isLeaf_26 (by decide) ?_
        exact aw_zret rfl rfl dX0_isLeaf_30 ⟨_, ((σ.1.1, τ2), σ.2), rfl, rfl, h⟩
def wp_X0_isPair (σ : WSX0) (a1 : Int32) (post : Int32 → WSX0 → Prop) : Prop :=
  wp_X4_kind σ.1.2 a1 (fun r1 τ2 => wp_X4_level r1 (fun r3 τ4 => ((r3 = ((-1) : Int32) → post (0 : Int32) ((σ.1.1, τ2), σ.2)) ∧ (¬ r3 = ((-1) : Int32) → post (1 : Int32) ((σ.1.1, τ2), σ.2)))))
theorem kX0_isPair {G : aw_G} {d : Nat} (hd : 2 ≤ d) {σ : WSX0} {a1 : Int32} {post : Int32 → WSX0 → Prop} (h : wp_X0_isPair σ a1 post) : AC G MX0_isPair d 0 0 25 [.ref 0, .int a1] (wX0 G σ) (aw_pi (wX0 G) post) := by
  refine AC.of (lv := [(0, .ref 0), (1, .int a1)]) (by decide) (Nat.le_of_ble_eq_true rfl) rfl ?_
  unfold wp_X0_isPair at h
  refine aw_aload_n 0 dX0_isPair_0 rfl rfl ?_
  refine aw_getf (v := .ref 2) fX0_17 0 rfl rfl dX0_isPair_1 ?_
  refine aw_iload_n 1 dX0_isPair_4 rfl rfl ?_
  refine aw_callV (mc1 := 0) (ms1 := 0) (mc := 0) (ms := 0) (st := []) (q := 2) (As := [.int a1]) (vsc := [.int a1]) lX0_149 insX4_kind selX4_kind ⟨TX4, 10, rfl⟩ (by omega) (kX4_kind (d := 1) (by omega) h) [2, 16, 17, 18, 19, 20, 21, 22, 23, 24] rfl rfl rfl rfl rfl dX0_isPair_5 rfl rfl (fun _ _ hh => ?_)
  obtain ⟨r1, τ2, rfl, rfl, h⟩ := hh
  refine ⟨(wX0 G ((σ.1.1, τ2), σ.2)), [.int r1], rfl, rfl, rfl, ?_⟩
  refine aw_callST (st := []) (As := [.int r1]) lX0_237 sttX4_level (by omega) (kX4_level (d := 0) (by omega) h) rfl rfl rfl dX0_isPair_8 rfl (fun _ _ hh => ?_)
  obtain ⟨r3, τ4, rfl, rfl, h⟩ := hh
  refine ⟨rfl, (fun x hx => by cases hx; rfl), ?_⟩
  refine aw_stk (st' := [.int r3]) rfl ?_
  refine aw_iconst (v := ((-1) : Int32)) dX0_isPair_11 (by decide) ?_
  refine aw_icmp_eq 19 dX0_isPair_12 (by decide) (fun c5 => ?_) (fun c5 => ?_)
  · have h := h.1 c5
    refine aw_iconst (v := (0 : Int32)) dX0_isPair_19 (by decide) ?_
    exact aw_zret rfl rfl dX0_isPair_20 ⟨_, ((σ.1.1, τ2), σ.2), rfl, rfl, h⟩
  · have h := h.2 c5
    refine aw_iconst (v := (1 : Int32)) dX0_isPair_15 (by decide) ?_
    refine aw_goto 20 dX0_isPair_16 (by decide) ?_
    exact aw_zret rfl rfl dX0_isPair_20 ⟨_, ((σ.1.1, τ2), σ.2), rfl, rfl, h⟩
def wp_X0_rightFirst_45  (post : Int32 → WSX0 → Prop) (σ : WSX0) (x2 : Int32) : Prop :=
  wp_X4_calls σ.1.2 x2 (fun r8 τ9 => ((¬ r8 = 0 → post (0 : Int32) ((σ.1.1, τ9), σ.2)) ∧ (r8 = 0 → post (1 : Int32) ((σ.1.1, τ9), σ.2))))
theorem aw_X0_rightFirst_45 {G : aw_G} {d : Nat} (hd : 3 ≤ d) {post : Int32 → WSX0 → Prop}  {σ : WSX0} {x2 : Int32} (h : wp_X0_rightFirst_45  post σ x2) : AW G MX0_rightFirst d 0 0 25 (aw_pi (wX0 G) post) 45 [(0, .ref 0), (2, .int x2)] [] (wX0 G σ) := by
  unfold wp_X0_rightFirst_45 at h
  refine aw_aload_n 0 dX0_rightFirst_45 rfl rfl ?_
  refine aw_getf (v := .ref 2) fX0_17 0 rfl rfl dX0_rightFirst_46 ?_
  refine aw_iload_n 1 dX0_rightFirst_49 rfl rfl ?_
  refine aw_callV (mc1 := 0) (ms1 := 0) (mc := 0) (ms := 0) (st := []) (q := 2) (As := [.int x2]) (vsc := [.int x2]) lX0_234 insX4_calls selX4_calls ⟨TX4, 10, rfl⟩ (by omega) (kX4_calls (d := 1) (by omega) h) [2, 16, 17, 18, 19, 20, 21, 22, 23, 24] rfl rfl rfl rfl rfl dX0_rightFirst_50 rfl rfl (fun _ _ hh => ?_)
  obtain ⟨r8, τ9, rfl, rfl, h⟩ := hh
  refine ⟨(wX0 G ((σ.1.1, τ9), σ.2)), [.int r8], rfl, rfl, rfl, ?_⟩
  refine aw_if_ne 60 dX0_rightFirst_53 (by decide) (fun c10 => ?_) (fun c10 => ?_)
  · have h := h.1 c10
    refine aw_iconst (v := (0 : Int32)) dX0_rightFirst_60 (by decide) ?_
    exact aw_zret rfl rfl dX0_rightFirst_61 ⟨_, ((σ.1.1, τ9), σ.2), rfl, rfl, h⟩
  · have h := h.2 c10
    refine aw_iconst (v := (1 : Int32)) dX0_rightFirst_56 (by decide) ?_
    refine aw_goto 61 dX0_rightFirst_57 (by decide) ?_
    exact aw_zret rfl rfl dX0_rightFirst_61 ⟨_, ((σ.1.1, τ9), σ.2), rfl, rfl, h⟩
def wp_X0_rightFirst (σ : WSX0) (a1 : Int32) (post : Int32 → WSX0 → Prop) : Prop :=
  wp_X0_isPair σ a1 (fun r1 τ2 => ((¬ r1 = 0 → wp_X4_left τ2.1.2 a1 (fun r3 τ4 => (∀ y5 : Int32, y5 = (a1 - (1 : Int32)) → wp_X4_calls τ4 r3 (fun r6 τ7 => ((¬ r6 = 0 → wp_X0_rightFirst_45  post ((τ2.1.1, τ7), τ2.2) r3) ∧ (r6 = 0 → wp_X4_calls τ7 y5 (fun r11 τ12 => ((r11 = 0 → wp_X4_need τ12 y5 (fun r13 τ14 => wp_X4_need τ14 r3 (fun r15 τ16 => ((r13 ≤ r15 → post (0 : Int32) ((τ2.1.1, τ16), τ2.2)) ∧ (¬ r13 ≤ r15 → post (1 : Int32) ((τ2.1.1, τ16), τ2.2)))))) ∧ (¬ r11 = 0 → wp_X0_rightFirst_45  post ((τ2.1.1, τ12), τ2.2) r3))))))))) ∧ (r1 = 0 → post (0 : Int32) τ2)))
theorem kX0_rightFirst {G : aw_G} {d : Nat} (hd : 3 ≤ d) {σ : WSX0} {a1 : Int32} {post : Int32 → WSX0 → Prop} (h : wp_X0_rightFirst σ a1 post) : AC G MX0_rightFirst d 0 0 25 [.ref 0, .int a1] (wX0 G σ) (aw_pi (wX0 G) post) := by
  refine AC.of (lv := [(0, .ref 0), (1, .int a1)]) (by decide) (Nat.le_of_ble_eq_true rfl) rfl ?_
  unfold wp_X0_rightFirst at h
  refine aw_aload_n 0 dX0_rightFirst_0 rfl rfl ?_
  refine aw_iload_n 1 dX0_rightFirst_1 rfl rfl ?_
  refine aw_callVT (mc1 := 0) (ms1 := 0) (mc := 0) (ms := 0) (st := []) (q := 0) (As := [.int a1]) lX0_212 insX0_isPair selX0_isPair ⟨TX0, 12, rfl⟩ (by omega) (kX0_isPair (d := 2) (by omega) h) (Nat.le_of_ble_eq_true rfl) rfl rfl rfl dX0_rightFirst_2 rfl (fun _ _ hh => ?_)
  obtain ⟨r1, τ2, rfl, rfl, h⟩ := hh
  refine aw_stk (st' := [.int r1]) rfl ?_
  refine aw_if_ne 10 dX0_rightFirst_5 (by decide) (fun c20 => ?_) (fun c20 => ?_)
  · have h := h.1 c20
    refine aw_aload_n 0 dX0_rightFirst_10 rfl rfl ?_
    refine aw_getf (v := .ref 2) fX0_17 0 rfl rfl dX0_rightFirst_11 ?_
    refine aw_iload_n 1 dX0_rightFirst_14 rfl rfl ?_
    refine aw_callV (mc1 := 0) (ms1 := 0) (mc := 0) (ms := 0) (st := []) (q := 2) (As := [.int a1]) (vsc := [.int a1]) lX0_215 insX4_left selX4_left ⟨TX4, 10, rfl⟩ (by omega) (kX4_left (d := 1) (by omega) h) [2, 16, 17, 18, 19, 20, 21, 22, 23, 24] rfl rfl rfl rfl rfl dX0_rightFirst_15 rfl rfl (fun _ _ hh => ?_)
    obtain ⟨r3, τ4, rfl, rfl, h⟩ := hh
    refine ⟨(wX0 G ((τ2.1.1, τ4), τ2.2)), [.int r3], rfl, rfl, rfl, ?_⟩
    refine aw_istore_n (lv' := [(2, .int r3), (0, .ref 0), (1, .int a1)]) dX0_rightFirst_18 rfl (by decide) rfl ?_
    refine aw_iload_n 2 dX0_rightFirst_19 rfl rfl ?_
    refine aw_iconst (v := (1 : Int32)) dX0_rightFirst_20 (by decide) ?_
    refine aw_isub dX0_rightFirst_21 ?_
    refine aw_topi (fun y5 ey5 => ?_)
    have h := h y5 ey5
    refine aw_istore_n (lv' := [(3, .int y5), (2, .int r3), (0, .ref 0), (1, .int a1)]) dX0_rightFirst_22 rfl (by decide) rfl ?_
    refine aw_aload_n 2 dX0_rightFirst_23 rfl rfl ?_
    refine aw_getf (v := .ref 2) fX0_17 0 rfl rfl dX0_rightFirst_24 ?_
    refine aw_iload_n 1 dX0_rightFirst_27 rfl rfl ?_
    refine aw_callV (mc1 := 0) (ms1 := 0) (mc := 0) (ms := 0) (st := []) (q := 2) (As := [.int r3]) (vsc := [.int r3]) lX0_234 insX4_calls selX4_calls ⟨TX4, 10, rfl⟩ (by omega) (kX4_calls (d := 1) (by omega) h) [2, 16, 17, 18, 19, 20, 21, 22, 23, 24] rfl rfl rfl rfl rfl dX0_rightFirst_28 rfl rfl (fun _ _ hh => ?_)
    obtain ⟨r6, τ7, rfl, rfl, h⟩ := hh
    refine ⟨(wX0 G ((τ2.1.1, τ7), τ2.2)), [.int r6], rfl, rfl, rfl, ?_⟩
    refine aw_if_ne 45 dX0_rightFirst_31 (by decide) (fun c19 => ?_) (fun c19 => ?_)
    · have h := h.1 c19
      refine aw_lvsub (lv' := [(0, .ref 0), (2, .int r3)]) [2, 1] rfl ?_
      exact aw_X0_rightFirst_45 hd  h
    · have h := h.2 c19
      refine aw_aload_n 2 dX0_rightFirst_34 rfl rfl ?_
      refine aw_getf (v := .ref 2) fX0_17 0 rfl rfl dX0_rightFirst_35 ?_
      refine aw_iload_n 0 dX0_rightFirst_38 rfl rfl ?_
      refine aw_callV (mc1 := 0) (ms1 := 0) (mc := 0) (ms := 0) (st := []) (q := 2) (As := [.int y5]) (vsc := [.int y5]) lX0_234 insX4_calls selX4_calls ⟨TX4, 10, rfl⟩ (by omega) (kX4_calls (d := 1) (by omega) h) [2, 16, 17, 18, 19, 20, 21, 22, 23, 24] rfl rfl rfl rfl rfl dX0_rightFirst_39 rfl rfl (fun _ _ hh => ?_)
      obtain ⟨r11, τ12, rfl, rfl, h⟩ := hh
      refine ⟨(wX0 G ((τ2.1.1, τ12), τ2.2)), [.int r11], rfl, rfl, rfl, ?_⟩
      refine aw_if_eq 62 dX0_rightFirst_42 (by decide) (fun c18 => ?_) (fun c18 => ?_)
      · have h := h.1 c18
        refine aw_aload_n 2 dX0_rightFirst_62 rfl rfl ?_
        refine aw_getf (v := .ref 2) fX0_17 0 rfl rfl dX0_rightFirst_63 ?_
        refine aw_iload_n 0 dX0_rightFirst_66 rfl rfl ?_
        refine aw_callV (mc1 := 0) (ms1 := 0) (mc := 0) (ms := 0) (st := []) (q := 2) (As := [.int y5]) (vsc := [.int y5]) lX0_240 insX4_need selX4_need ⟨TX4, 10, rfl⟩ (by omega) (kX4_need (d := 1) (by omega) h) [2, 16, 17, 18, 19, 20, 21, 22, 23, 24] rfl rfl rfl rfl rfl dX0_rightFirst_67 rfl rfl (fun _ _ hh => ?_)
        obtain ⟨r13, τ14, rfl, rfl, h⟩ := hh
        refine ⟨(wX0 G ((τ2.1.1, τ14), τ2.2)), [.int r13], rfl, rfl, rfl, ?_⟩
        refine aw_aload_n 2 dX0_rightFirst_70 rfl rfl ?_
        refine aw_getf (v := .ref 2) fX0_17 0 rfl rfl dX0_rightFirst_71 ?_
        refine aw_iload_n 1 dX0_rightFirst_74 rfl rfl ?_
        refine aw_callV (mc1 := 0) (ms1 := 0) (mc := 0) (ms := 0) (st := [.int r13]) (q := 2) (As := [.int r3]) (vsc := [.int r3]) lX0_240 insX4_need selX4_need ⟨TX4, 10, rfl⟩ (by omega) (kX4_need (d := 1) (by omega) h) [2, 16, 17, 18, 19, 20, 21, 22, 23, 24] rfl rfl rfl rfl rfl dX0_rightFirst_75 rfl rfl (fun _ _ hh => ?_)
        obtain ⟨r15, τ16, rfl, rfl, h⟩ := hh
        refine ⟨(wX0 G ((τ2.1.1, τ16), τ2.2)), [.int r15, .int r13], rfl, rfl, rfl, ?_⟩
        refine aw_icmp_le 85 dX0_rightFirst_78 (by decide) (fun c17 => ?_) (fun c17 => ?_)
        · have h := h.1 c17
          refine aw_iconst (v := (0 : Int32)) dX0_rightFirst_85 (by decide) ?_
          exact aw_zret rfl rfl dX0_rightFirst_86 ⟨_, ((τ2.1.1, τ16), τ2.2), rfl, rfl, h⟩
        · have h := h.2 c17
          refine aw_iconst (v := (1 : Int32)) dX0_rightFirst_81 (by decide) ?_
          refine aw_goto 86 dX0_rightFirst_82 (by decide) ?_
          exact aw_zret rfl rfl dX0_rightFirst_86 ⟨_, ((τ2.1.1, τ16), τ2.2), rfl, rfl, h⟩
      · have h := h.2 c18
        refine aw_lvsub (lv' := [(0, .ref 0), (2, .int r3)]) [2, 1] rfl ?_
        exact aw_X0_rightFirst_45 hd  h
  · have h := h.2 c20
    refine aw_iconst (v := (0 : Int32)) dX0_rightFirst_8 (by decide) ?_
    exact aw_zret rfl rfl dX0_rightFirst_9 ⟨_, τ2, rfl, rfl, h⟩
def wp_X0_register (a0 : Int32) (post : Int32 → Unit → Prop) : Prop :=
  post (if (31 : Int32) < ((6 : Int32) + a0) then (31 : Int32) else ((6 : Int32) + a0)) ()
theorem kX0_register {G : aw_G} {d : Nat} (hd : 1 ≤ d) {a0 : Int32} {post : Int32 → Unit → Prop} (h : wp_X0_register a0 post) : AC G MX0_register d 0 0 0 [.int a0] [] (aw_pi (fun _ : Unit => []) post) := by
  refine AC.of (lv := [(0, .int a0)]) (by decide) (Nat.le_of_ble_eq_true rfl) rfl ?_
  unfold wp_X0_register at h
  refine aw_bipush (v := (6 : Int32)) dX0_register_0 (by decide) ?_
  refine aw_iload_n 0 dX0_register_2 rfl rfl ?_
  refine aw_iadd dX0_register_3 ?_
  refine aw_bipush (v := (31 : Int32)) dX0_register_4 (by decide) ?_
  refine aw_mmin qX0_243 mathS_min iniJ9 mathK_min (by omega) (Nat.le_of_ble_eq_true rfl) dX0_register_6 ?_
  exact aw_iret rfl dX0_register_9 ⟨_, (), rfl, rfl, h⟩
def wp_X0_writeLeaf (σ : WSX0) (a1 : Int32) (a2 : Int32) (post : WSX0 → Prop) : Prop :=
  wp_X4_kind σ.1.2 a1 (fun r1 τ2 => ((¬ r1 = (2 : Int32) → wp_X4_value τ2 a1 (fun r3 τ4 => (∀ y5 : Int32, y5 = ((r3 <<< ((20 : Int32) &&& 31)) >>> ((20 : Int32) &&& 31)) → ((¬ y5 = r3 → wp_X0_register a2 (fun r6 τ7 => wp_X5_upper r6 (r3 - y5) (fun r8 τ9 => wp_X0_emit ((σ.1.1, τ4), σ.2) r8 (fun τ11 => wp_X0_register a2 (fun r12 τ13 => wp_X0_register a2 (fun r14 τ15 => wp_X5_add r12 r14 y5 (fun r16 τ17 => wp_X0_emit τ11 r16 (fun τ19 => post τ19)))))))) ∧ (y5 = r3 → wp_X0_register a2 (fun r20 τ21 => wp_X5_add r20 (0 : Int32) r3 (fun r22 τ23 => wp_X0_emit ((σ.1.1, τ4), σ.2) r22 (fun τ25 => post τ25)))))))) ∧ (r1 = (2 : Int32) → wp_X0_register a2 (fun r27 τ28 => wp_X4_value τ2 a1 (fun r29 τ30 => wp_X0_wordPlace ((σ.1.1, τ30), σ.2) r29 (fun r31 τ32 => wp_X5_fromMemory r27 (0 : Int32) r31 (fun r33 τ34 => wp_X0_emit τ32 r33 (fun τ36 => post τ36))))))))
theorem kX0_writeLeaf {G : aw_G} {d : Nat} (hd : 3 ≤ d) {σ : WSX0} {a1 : Int32} {a2 : Int32} {post : WSX0 → Prop} (h : wp_X0_writeLeaf σ a1 a2 post) : AC G MX0_writeLeaf d 0 0 25 [.ref 0, .int a1, .int a2] (wX0 G σ) (aw_pv (wX0 G) post) := by
  refine AC.of (lv := [(0, .ref 0), (1, .int a1), (2, .int a2)]) (by decide) (Nat.le_of_ble_eq_true rfl) rfl ?_
  unfold wp_X0_writeLeaf at h
  refine aw_aload_n 0 dX0_writeLeaf_0 rfl rfl ?_
  refine aw_getf (v := .ref 2) fX0_17 0 rfl rfl dX0_writeLeaf_1 ?_
  refine aw_iload_n 1 dX0_writeLeaf_4 rfl rfl ?_
  refine aw_callV (mc1 := 0) (ms1 := 0) (mc := 0) (ms := 0) (st := []) (q := 2) (As := [.int a1]) (vsc := [.int a1]) lX0_149 insX4_kind selX4_kind ⟨TX4, 10, rfl⟩ (by omega) (kX4_kind (d := 1) (by omega) h) [2, 16, 17, 18, 19, 20, 21, 22, 23, 24] rfl rfl rfl rfl rfl dX0_writeLeaf_5 rfl rfl (fun _ _ hh => ?_)
  obtain ⟨r1, τ2, rfl, rfl, h⟩ := hh
  refine ⟨(wX0 G ((σ.1.1, τ2), σ.2)), [.int r1], rfl, rfl, rfl, ?_⟩
  refine aw_iconst (v := (2 : Int32)) dX0_writeLeaf_8 (by decide) ?_
  refine aw_icmp_ne 37 dX0_writeLeaf_9 (by decide) (fun c37 => ?_) (fun c37 => ?_)
  · have h := h.1 c37
    refine aw_aload_n 0 dX0_writeLeaf_37 rfl rfl ?_
    refine aw_getf (v := .ref 2) fX0_17 0 rfl rfl dX0_writeLeaf_38 ?_
    refine aw_iload_n 1 dX0_writeLeaf_41 rfl rfl ?_
    refine aw_callV (mc1 := 0) (ms1 := 0) (mc := 0) (ms := 0) (st := []) (q := 2) (As := [.int a1]) (vsc := [.int a1]) lX0_158 insX4_value selX4_value ⟨TX4, 10, rfl⟩ (by omega) (kX4_value (d := 1) (by omega) h) [2, 16, 17, 18, 19, 20, 21, 22, 23, 24] rfl rfl rfl rfl rfl dX0_writeLeaf_42 rfl rfl (fun _ _ hh => ?_)
    obtain ⟨r3, τ4, rfl, rfl, h⟩ := hh
    refine ⟨(wX0 G ((σ.1.1, τ4), σ.2)), [.int r3], rfl, rfl, rfl, ?_⟩
    refine aw_istore_n (lv' := [(3, .int r3), (0, .ref 0), (1, .int a1), (2, .int a2)]) dX0_writeLeaf_45 rfl (by decide) rfl ?_
    refine aw_iload_n 0 dX0_writeLeaf_46 rfl rfl ?_
    refine aw_bipush (v := (20 : Int32)) dX0_writeLeaf_47 (by decide) ?_
    refine aw_ishl dX0_writeLeaf_49 ?_
    refine aw_bipush (v := (20 : Int32)) dX0_writeLeaf_50 (by decide) ?_
    refine aw_ishr dX0_writeLeaf_52 ?_
    refine aw_topi (fun y5 ey5 => ?_)
    have h := h y5 ey5
    refine aw_istore (lv' := [(4, .int y5), (3, .int r3), (0, .ref 0), (1, .int a1), (2, .int a2)]) dX0_writeLeaf_53 (by decide) rfl ?_
    refine aw_iload 0 dX0_writeLeaf_55 rfl ?_
    refine aw_iload_n 1 dX0_writeLeaf_57 rfl rfl ?_
    refine aw_icmp_ne 75 dX0_writeLeaf_58 (by decide) (fun c26 => ?_) (fun c26 => ?_)
    · have h := h.1 c26
      refine aw_aload_n 2 dX0_writeLeaf_75 rfl rfl ?_
      refine aw_iload_n 4 dX0_writeLeaf_76 rfl rfl ?_
      refine aw_callST (st := [.ref 0]) (As := [.int a2]) lX0_224 sttX0_register (by omega) (kX0_register (d := 1) (by omega) h) rfl rfl rfl dX0_writeLeaf_77 rfl (fun _ _ hh => ?_)
      obtain ⟨r6, τ7, rfl, rfl, h⟩ := hh
      refine ⟨rfl, (fun x hx => by cases hx; rfl), ?_⟩
      refine aw_stk (st' := [.int r6, .ref 0]) rfl ?_
      refine aw_iload_n 1 dX0_writeLeaf_80 rfl rfl ?_
      refine aw_iload 0 dX0_writeLeaf_81 rfl ?_
      refine aw_isub dX0_writeLeaf_83 ?_
      refine aw_callST (st := [.ref 0]) (As := [.int r6, .int (r3 - y5)]) lX0_248 sttX5_upper (by omega) (kX5_upper (d := 0) (by omega) h) rfl rfl rfl dX0_writeLeaf_84 rfl (fun _ _ hh => ?_)
      obtain ⟨r8, τ9, rfl, rfl, h⟩ := hh
      refine ⟨rfl, (fun x hx => by cases hx; rfl), ?_⟩
      refine aw_stk (st' := [.int r8, .ref 0]) rfl ?_
      refine aw_callVT (mc1 := 0) (ms1 := 0) (mc := 0) (ms := 0) (st := []) (q := 0) (As := [.int r8]) lX0_51 insX0_emit selX0_emit ⟨TX0, 12, rfl⟩ (by omega) (kX0_emit (d := 2) (by omega) h) (Nat.le_of_ble_eq_true rfl) rfl rfl rfl dX0_writeLeaf_87 rfl (fun _ _ hh => ?_)
      obtain ⟨τ11, rfl, rfl, h⟩ := hh
      refine aw_stk (st' := []) rfl ?_
      refine aw_aload_n 2 dX0_writeLeaf_90 rfl rfl ?_
      refine aw_iload_n 4 dX0_writeLeaf_91 rfl rfl ?_
      refine aw_callST (st := [.ref 0]) (As := [.int a2]) lX0_224 sttX0_register (by omega) (kX0_register (d := 1) (by omega) h) rfl rfl rfl dX0_writeLeaf_92 rfl (fun _ _ hh => ?_)
      obtain ⟨r12, τ13, rfl, rfl, h⟩ := hh
      refine ⟨rfl, (fun x hx => by cases hx; rfl), ?_⟩
      refine aw_stk (st' := [.int r12, .ref 0]) rfl ?_
      refine aw_iload_n 4 dX0_writeLeaf_95 rfl rfl ?_
      refine aw_callST (st := [.int r12, .ref 0]) (As := [.int a2]) lX0_224 sttX0_register (by omega) (kX0_register (d := 1) (by omega) h) rfl rfl rfl dX0_writeLeaf_96 rfl (fun _ _ hh => ?_)
      obtain ⟨r14, τ15, rfl, rfl, h⟩ := hh
      refine ⟨rfl, (fun x hx => by cases hx; rfl), ?_⟩
      refine aw_stk (st' := [.int r14, .int r12, .ref 0]) rfl ?_
      refine aw_iload 0 dX0_writeLeaf_99 rfl ?_
      refine aw_callST (st := [.ref 0]) (As := [.int r12, .int r14, .int y5]) lX0_45 sttX5_add (by omega) (kX5_add (d := 1) (by omega) h) rfl rfl rfl dX0_writeLeaf_101 rfl (fun _ _ hh => ?_)
      obtain ⟨r16, τ17, rfl, rfl, h⟩ := hh
      refine ⟨rfl, (fun x hx => by cases hx; rfl), ?_⟩
      refine aw_stk (st' := [.int r16, .ref 0]) rfl ?_
      refine aw_callVT (mc1 := 0) (ms1 := 0) (mc := 0) (ms := 0) (st := []) (q := 0) (As := [.int r16]) lX0_51 insX0_emit selX0_emit ⟨TX0, 12, rfl⟩ (by omega) (kX0_emit (d := 2) (by omega) h) (Nat.le_of_ble_eq_true rfl) rfl rfl rfl dX0_writeLeaf_104 rfl (fun _ _ hh => ?_)
      obtain ⟨τ19, rfl, rfl, h⟩ := hh
      refine aw_stk (st' := []) rfl ?_
      exact aw_vret rfl dX0_writeLeaf_107 ⟨τ19, rfl, rfl, h⟩
    · have h := h.2 c26
      refine aw_aload_n 2 dX0_writeLeaf_61 rfl rfl ?_
      refine aw_iload_n 4 dX0_writeLeaf_62 rfl rfl ?_
      refine aw_callST (st := [.ref 0]) (As := [.int a2]) lX0_224 sttX0_register (by omega) (kX0_register (d := 1) (by omega) h) rfl rfl rfl dX0_writeLeaf_63 rfl (fun _ _ hh => ?_)
      obtain ⟨r20, τ21, rfl, rfl, h⟩ := hh
      refine ⟨rfl, (fun x hx => by cases hx; rfl), ?_⟩
      refine aw_stk (st' := [.int r20, .ref 0]) rfl ?_
      refine aw_iconst (v := (0 : Int32)) dX0_writeLeaf_66 (by decide) ?_
      refine aw_iload_n 1 dX0_writeLeaf_67 rfl rfl ?_
      refine aw_callST (st := [.ref 0]) (As := [.int r20, .int (0 : Int32), .int r3]) lX0_45 sttX5_add (by omega) (kX5_add (d := 1) (by omega) h) rfl rfl rfl dX0_writeLeaf_68 rfl (fun _ _ hh => ?_)
      obtain ⟨r22, τ23, rfl, rfl, h⟩ := hh
      refine ⟨rfl, (fun x hx => by cases hx; rfl), ?_⟩
      refine aw_stk (st' := [.int r22, .ref 0]) rfl ?_
      refine aw_callVT (mc1 := 0) (ms1 := 0) (mc := 0) (ms := 0) (st := []) (q := 0) (As := [.int r22]) lX0_51 insX0_emit selX0_emit ⟨TX0, 12, rfl⟩ (by omega) (kX0_emit (d := 2) (by omega) h) (Nat.le_of_ble_eq_true rfl) rfl rfl rfl dX0_writeLeaf_71 rfl (fun _ _ hh => ?_)
      obtain ⟨τ25, rfl, rfl, h⟩ := hh
      refine aw_stk (st' := []) rfl ?_
      exact aw_vret rfl dX0_writeLeaf_74 ⟨τ25, rfl, rfl, h⟩
  · have h := h.2 c37
    refine aw_aload_n 0 dX0_writeLeaf_12 rfl rfl ?_
    refine aw_iload_n 2 dX0_writeLeaf_13 rfl rfl ?_
    refine aw_callST (st := [.ref 0]) (As := [.int a2]) lX0_224 sttX0_register (by omega) (kX0_register (d := 1) (by omega) h) rfl rfl rfl dX0_writeLeaf_14 rfl (fun _ _ hh => ?_)
    obtain ⟨r27, τ28, rfl, rfl, h⟩ := hh
    refine ⟨rfl, (fun x hx => by cases hx; rfl), ?_⟩
    refine aw_stk (st' := [.int r27, .ref 0]) rfl ?_
    refine aw_iconst (v := (0 : Int32)) dX0_writeLeaf_17 (by decide) ?_
    refine aw_aload_n 0 dX0_writeLeaf_18 rfl rfl ?_
    refine aw_aload_n 0 dX0_writeLeaf_19 rfl rfl ?_
    refine aw_getf (v := .ref 2) fX0_17 0 rfl rfl dX0_writeLeaf_20 ?_
    refine aw_iload_n 1 dX0_writeLeaf_23 rfl rfl ?_
    refine aw_callV (mc1 := 0) (ms1 := 0) (mc := 0) (ms := 0) (st := [.ref 0, .int (0 : Int32), .int r27, .ref 0]) (q := 2) (As := [.int a1]) (vsc := [.int a1]) lX0_158 insX4_value selX4_value ⟨TX4, 10, rfl⟩ (by omega) (kX4_value (d := 1) (by omega) h) [2, 16, 17, 18, 19, 20, 21, 22, 23, 24] rfl rfl rfl rfl rfl dX0_writeLeaf_24 rfl rfl (fun _ _ hh => ?_)
    obtain ⟨r29, τ30, rfl, rfl, h⟩ := hh
    refine ⟨(wX0 G ((σ.1.1, τ30), σ.2)), [.int r29, .ref 0, .int (0 : Int32), .int r27, .ref 0], rfl, rfl, rfl, ?_⟩
    refine aw_callVT (mc1 := 0) (ms1 := 0) (mc := 0) (ms := 0) (st := [.int (0 : Int32), .int r27, .ref 0]) (q := 0) (As := [.int r29]) lX0_123 insX0_wordPlace selX0_wordPlace ⟨TX0, 12, rfl⟩ (by omega) (kX0_wordPlace (d := 2) (by omega) h) (Nat.le_of_ble_eq_true rfl) rfl rfl rfl dX0_writeLeaf_27 rfl (fun _ _ hh => ?_)
    obtain ⟨r31, τ32, rfl, rfl, h⟩ := hh
    refine aw_stk (st' := [.int r31, .int (0 : Int32), .int r27, .ref 0]) rfl ?_
    refine aw_callST (st := [.ref 0]) (As := [.int r27, .int (0 : Int32), .int r31]) lX0_127 sttX5_fromMemory (by omega) (kX5_fromMemory (d := 0) (by omega) h) rfl rfl rfl dX0_writeLeaf_30 rfl (fun _ _ hh => ?_)
    obtain ⟨r33, τ34, rfl, rfl, h⟩ := hh
    refine ⟨rfl, (fun x hx => by cases hx; rfl), ?_⟩
    refine aw_stk (st' := [.int r33, .ref 0]) rfl ?_
    refine aw_callVT (mc1 := 0) (ms1 := 0) (mc := 0) (ms := 0) (st := []) (q := 0) (As := [.int r33]) lX0_51 insX0_emit selX0_emit ⟨TX0, 12, rfl⟩ (by omega) (kX0_emit (d := 2) (by omega) h) (Nat.le_of_ble_eq_true rfl) rfl rfl rfl dX0_writeLeaf_33 rfl (fun _ _ hh => ?_)
    obtain ⟨τ36, rfl, rfl, h⟩ := hh
    refine aw_stk (st' := []) rfl ?_
    exact aw_vret rfl dX0_writeLeaf_36 ⟨τ36, rfl, rfl, h⟩
def wp_X0_rowCall (σ : WSX0) (a1 : Int32) (a2 : Int32) (post : Int32 → WSX0 → Prop) : Prop :=
  ((a2 < 0 → post a1 σ) ∧ (¬ a2 < 0 → ((a2 < (200 : Int32) → (vp_in a2 200 ∧ post (a1 + ((σ.1.1.1.1.1 (a2).toNatClampNeg) * (20 : Int32))) σ)) ∧ (¬ a2 < (200 : Int32) → post a1 σ))))
theorem kX0_rowCall {G : aw_G} {d : Nat} (hd : 0 ≤ d) {σ : WSX0} {a1 : Int32} {a2 : Int32} {post : Int32 → WSX0 → Prop} (h : wp_X0_rowCall σ a1 a2 post) : AC G MX0_rowCall d 0 0 25 [.ref 0, .int a1, .int a2] (wX0 G σ) (aw_pi (wX0 G) post) := by
  refine AC.of (lv := [(0, .ref 0), (1, .int a1), (2, .int a2)]) (by decide) (Nat.le_of_ble_eq_true rfl) rfl ?_
  unfold wp_X0_rowCall at h
  refine aw_iload_n 2 dX0_rowCall_0 rfl rfl ?_
  refine aw_if_lt 13 dX0_rowCall_1 (by decide) (fun c2 => ?_) (fun c2 => ?_)
  · have h := h.1 c2
    refine aw_iload_n 1 dX0_rowCall_13 rfl rfl ?_
    refine aw_goto 28 dX0_rowCall_14 (by decide) ?_
    exact aw_iret rfl dX0_rowCall_28 ⟨_, σ, rfl, rfl, h⟩
  · have h := h.2 c2
    refine aw_iload_n 2 dX0_rowCall_4 rfl rfl ?_
    refine aw_aload_n 0 dX0_rowCall_5 rfl rfl ?_
    refine aw_getf (v := .ref 1) fX0_13 0 rfl rfl dX0_rowCall_6 ?_
    refine aw_alen 1 0 (v := (200 : Int32)) rfl rfl rfl dX0_rowCall_9 ?_
    refine aw_icmp_lt 17 dX0_rowCall_10 (by decide) (fun c1 => ?_) (fun c1 => ?_)
    · have h := h.1 c1
      refine aw_iload_n 1 dX0_rowCall_17 rfl rfl ?_
      refine aw_aload_n 0 dX0_rowCall_18 rfl rfl ?_
      refine aw_getf (v := .ref 1) fX0_13 0 rfl rfl dX0_rowCall_19 ?_
      refine aw_iload_n 2 dX0_rowCall_22 rfl rfl ?_
      refine aw_iald 1 (n := 200) (f := σ.1.1.1.1.1) rfl h.1 dX0_rowCall_23 ?_
      have h := h.2
      refine aw_bipush (v := (20 : Int32)) dX0_rowCall_24 (by decide) ?_
      refine aw_imul dX0_rowCall_26 ?_
      refine aw_iadd dX0_rowCall_27 ?_
      exact aw_iret rfl dX0_rowCall_28 ⟨_, σ, rfl, rfl, h⟩
    · have h := h.2 c1
      refine aw_iload_n 1 dX0_rowCall_13 rfl rfl ?_
      refine aw_goto 28 dX0_rowCall_14 (by decide) ?_
      exact aw_iret rfl dX0_rowCall_28 ⟨_, σ, rfl, rfl, h⟩
def wp_X0_writeUnary (σ : WSX0) (a1 : Int32) (a2 : Int32) (post : WSX0 → Prop) : Prop :=
  wp_X4_kind σ.1.2 a1 (fun r1 τ2 => ((r1 = (29 : Int32) → wp_X5_join (45 : Int32) a2 (0 : Int32) a2 (fun r4 τ5 => wp_X0_emit ((σ.1.1, τ2), σ.2) r4 (fun τ7 => post τ7))) ∧ (¬ r1 = (29 : Int32) → ((r1 = (126 : Int32) → wp_X5_turn a2 a2 ((-1) : Int32) (fun r9 τ10 => wp_X0_emit ((σ.1.1, τ2), σ.2) r9 (fun τ12 => post τ12))) ∧ (¬ r1 = (126 : Int32) → wp_X5_isBelow a2 a2 (1 : Int32) (fun r13 τ14 => wp_X0_emit ((σ.1.1, τ2), σ.2) r13 (fun τ16 => post τ16)))))))
theorem kX0_writeUnary {G : aw_G} {d : Nat} (hd : 3 ≤ d) {σ : WSX0} {a1 : Int32} {a2 : Int32} {post : WSX0 → Prop} (h : wp_X0_writeUnary σ a1 a2 post) : AC G MX0_writeUnary d 0 0 25 [.ref 0, .int a1, .int a2] (wX0 G σ) (aw_pv (wX0 G) post) := by
  refine AC.of (lv := [(0, .ref 0), (1, .int a1), (2, .int a2)]) (by decide) (Nat.le_of_ble_eq_true rfl) rfl ?_
  unfold wp_X0_writeUnary at h
  refine aw_aload_n 0 dX0_writeUnary_0 rfl rfl ?_
  refine aw_getf (v := .ref 2) fX0_17 0 rfl rfl dX0_writeUnary_1 ?_
  refine aw_iload_n 1 dX0_writeUnary_4 rfl rfl ?_
  refine aw_callV (mc1 := 0) (ms1 := 0) (mc := 0) (ms := 0) (st := []) (q := 2) (As := [.int a1]) (vsc := [.int a1]) lX0_149 insX4_kind selX4_kind ⟨TX4, 10, rfl⟩ (by omega) (kX4_kind (d := 1) (by omega) h) [2, 16, 17, 18, 19, 20, 21, 22, 23, 24] rfl rfl rfl rfl rfl dX0_writeUnary_5 rfl rfl (fun _ _ hh => ?_)
  obtain ⟨r1, τ2, rfl, rfl, h⟩ := hh
  refine ⟨(wX0 G ((σ.1.1, τ2), σ.2)), [.int r1], rfl, rfl, rfl, ?_⟩
  by_cases c3 : r1 = (29 : Int32)
  · refine aw_lookup 36 (off := 28) dX0_writeUnary_8 (by decide) (aw_swh (a := 29) c3 rfl) (by decide) ?_
    have h := h.1 c3
    refine aw_aload_n 0 dX0_writeUnary_36 rfl rfl ?_
    refine aw_bipush (v := (45 : Int32)) dX0_writeUnary_37 (by decide) ?_
    refine aw_iload_n 2 dX0_writeUnary_39 rfl rfl ?_
    refine aw_iconst (v := (0 : Int32)) dX0_writeUnary_40 (by decide) ?_
    refine aw_iload_n 2 dX0_writeUnary_41 rfl rfl ?_
    refine aw_callST (st := [.ref 0]) (As := [.int (45 : Int32), .int a2, .int (0 : Int32), .int a2]) lX0_105 sttX5_join (by omega) (kX5_join (d := 1) (by omega) h) rfl rfl rfl dX0_writeUnary_42 rfl (fun _ _ hh => ?_)
    obtain ⟨r4, τ5, rfl, rfl, h⟩ := hh
    refine ⟨rfl, (fun x hx => by cases hx; rfl), ?_⟩
    refine aw_stk (st' := [.int r4, .ref 0]) rfl ?_
    refine aw_callVT (mc1 := 0) (ms1 := 0) (mc := 0) (ms := 0) (st := []) (q := 0) (As := [.int r4]) lX0_51 insX0_emit selX0_emit ⟨TX0, 12, rfl⟩ (by omega) (kX0_emit (d := 2) (by omega) h) (Nat.le_of_ble_eq_true rfl) rfl rfl rfl dX0_writeUnary_45 rfl (fun _ _ hh => ?_)
    obtain ⟨τ7, rfl, rfl, h⟩ := hh
    refine aw_stk (st' := []) rfl ?_
    refine aw_goto 74 dX0_writeUnary_48 (by decide) ?_
    exact aw_vret rfl dX0_writeUnary_74 ⟨τ7, rfl, rfl, h⟩
  have h := h.2 c3
  by_cases c8 : r1 = (126 : Int32)
  · refine aw_lookup 51 (off := 43) dX0_writeUnary_8 (by decide) ((lv_osw (a := 29) c3 rfl).trans (aw_swh (a := 126) c8 rfl)) (by decide) ?_
    have h := h.1 c8
    refine aw_aload_n 0 dX0_writeUnary_51 rfl rfl ?_
    refine aw_iload_n 2 dX0_writeUnary_52 rfl rfl ?_
    refine aw_iload_n 2 dX0_writeUnary_53 rfl rfl ?_
    refine aw_iconst (v := ((-1) : Int32)) dX0_writeUnary_54 (by decide) ?_
    refine aw_callST (st := [.ref 0]) (As := [.int a2, .int a2, .int ((-1) : Int32)]) lX0_251 sttX5_turn (by omega) (kX5_turn (d := 1) (by omega) h) rfl rfl rfl dX0_writeUnary_55 rfl (fun _ _ hh => ?_)
    obtain ⟨r9, τ10, rfl, rfl, h⟩ := hh
    refine ⟨rfl, (fun x hx => by cases hx; rfl), ?_⟩
    refine aw_stk (st' := [.int r9, .ref 0]) rfl ?_
    refine aw_callVT (mc1 := 0) (ms1 := 0) (mc := 0) (ms := 0) (st := []) (q := 0) (As := [.int r9]) lX0_51 insX0_emit selX0_emit ⟨TX0, 12, rfl⟩ (by omega) (kX0_emit (d := 2) (by omega) h) (Nat.le_of_ble_eq_true rfl) rfl rfl rfl dX0_writeUnary_58 rfl (fun _ _ hh => ?_)
    obtain ⟨τ12, rfl, rfl, h⟩ := hh
    refine aw_stk (st' := []) rfl ?_
    refine aw_goto 74 dX0_writeUnary_61 (by decide) ?_
    exact aw_vret rfl dX0_writeUnary_74 ⟨τ12, rfl, rfl, h⟩
  have h := h.2 c8
  refine aw_lookup 64 (off := 56) dX0_writeUnary_8 (by decide) ((lv_osw (a := 29) c3 rfl).trans ((lv_osw (a := 126) c8 rfl).trans rfl)) (by decide) ?_
  refine aw_aload_n 0 dX0_writeUnary_64 rfl rfl ?_
  refine aw_iload_n 2 dX0_writeUnary_65 rfl rfl ?_
  refine aw_iload_n 2 dX0_writeUnary_66 rfl rfl ?_
  refine aw_iconst (v := (1 : Int32)) dX0_writeUnary_67 (by decide) ?_
  refine aw_callST (st := [.ref 0]) (As := [.int a2, .int a2, .int (1 : Int32)]) lX0_140 sttX5_isBelow (by omega) (kX5_isBelow (d := 1) (by omega) h) rfl rfl rfl dX0_writeUnary_68 rfl (fun _ _ hh => ?_)
  obtain ⟨r13, τ14, rfl, rfl, h⟩ := hh
  refine ⟨rfl, (fun x hx => by cases hx; rfl), ?_⟩
  refine aw_stk (st' := [.int r13, .ref 0]) rfl ?_
  refine aw_callVT (mc1 := 0) (ms1 := 0) (mc := 0) (ms := 0) (st := []) (q := 0) (As := [.int r13]) lX0_51 insX0_emit selX0_emit ⟨TX0, 12, rfl⟩ (by omega) (kX0_emit (d := 2) (by omega) h) (Nat.le_of_ble_eq_true rfl) rfl rfl rfl dX0_writeUnary_71 rfl (fun _ _ hh => ?_)
  obtain ⟨τ16, rfl, rfl, h⟩ := hh
  refine aw_stk (st' := []) rfl ?_
  exact aw_vret rfl dX0_writeUnary_74 ⟨τ16, rfl, rfl, h⟩
def wp_X0_writePair (σ : WSX0) (a1 : Int32) (a2 : Int32) (a3 : Int32) (a4 : Int32) (post : WSX0 → Prop) : Prop :=
  wp_X4_kind σ.1.2 a1 (fun r1 τ2 => wp_X0_register a2 (fun r3 τ4 => ((r1 = (128 : Int32) → wp_X0_register a4 (fun r6 τ7 => wp_X0_register a3 (fun r8 τ9 => wp_X5_join (60 : Int32) r3 r6 r8 (fun r10 τ11 => wp_X0_emit ((σ.1.1, τ2), σ.2) r10 (fun τ13 => wp_X5_turn r3 r3 (1 : Int32) (fun r14 τ15 => wp_X0_emit τ13 r14 (fun τ17 => post τ17))))))) ∧ (¬ r1 = (128 : Int32) → ((r1 = (129 : Int32) → wp_X0_register a3 (fun r19 τ20 => wp_X0_register a4 (fun r21 τ22 => wp_X5_join (94 : Int32) r3 r19 r21 (fun r23 τ24 => wp_X0_emit ((σ.1.1, τ2), σ.2) r23 (fun τ26 => wp_X5_isBelow r3 r3 (1 : Int32) (fun r27 τ28 => wp_X0_emit τ26 r27 (fun τ30 => post τ30))))))) ∧ (¬ r1 = (129 : Int32) → wp_X0_register a3 (fun r31 τ32 => wp_X0_register a4 (fun r33 τ34 => wp_X5_join r1 r3 r31 r33 (fun r35 τ36 => wp_X0_emit ((σ.1.1, τ2), σ.2) r35 (fun τ38 => post τ38))))))))))
theorem kX0_writePair {G : aw_G} {d : Nat} (hd : 3 ≤ d) {σ : WSX0} {a1 : Int32} {a2 : Int32} {a3 : Int32} {a4 : Int32} {post : WSX0 → Prop} (h : wp_X0_writePair σ a1 a2 a3 a4 post) : AC G MX0_writePair d 0 0 25 [.ref 0, .int a1, .int a2, .int a3, .int a4] (wX0 G σ) (aw_pv (wX0 G) post) := by
  refine AC.of (lv := [(0, .ref 0), (1, .int a1), (2, .int a2), (3, .int a3), (4, .int a4)]) (by decide) (Nat.le_of_ble_eq_true rfl) rfl ?_
  unfold wp_X0_writePair at h
  refine aw_aload_n 0 dX0_writePair_0 rfl rfl ?_
  refine aw_getf (v := .ref 2) fX0_17 0 rfl rfl dX0_writePair_1 ?_
  refine aw_iload_n 1 dX0_writePair_4 rfl rfl ?_
  refine aw_callV (mc1 := 0) (ms1 := 0) (mc := 0) (ms := 0) (st := []) (q := 2) (As := [.int a1]) (vsc := [.int a1]) lX0_149 insX4_kind selX4_kind ⟨TX4, 10, rfl⟩ (by omega) (kX4_kind (d := 1) (by omega) h) [2, 16, 17, 18, 19, 20, 21, 22, 23, 24] rfl rfl rfl rfl rfl dX0_writePair_5 rfl rfl (fun _ _ hh => ?_)
  obtain ⟨r1, τ2, rfl, rfl, h⟩ := hh
  refine ⟨(wX0 G ((σ.1.1, τ2), σ.2)), [.int r1], rfl, rfl, rfl, ?_⟩
  refine aw_istore (lv' := [(5, .int r1), (0, .ref 0), (1, .int a1), (2, .int a2), (3, .int a3), (4, .int a4)]) dX0_writePair_8 (by decide) rfl ?_
  refine aw_iload_n 3 dX0_writePair_10 rfl rfl ?_
  refine aw_callST (st := []) (As := [.int a2]) lX0_224 sttX0_register (by omega) (kX0_register (d := 1) (by omega) h) rfl rfl rfl dX0_writePair_11 rfl (fun _ _ hh => ?_)
  obtain ⟨r3, τ4, rfl, rfl, h⟩ := hh
  refine ⟨rfl, (fun x hx => by cases hx; rfl), ?_⟩
  refine aw_stk (st' := [.int r3]) rfl ?_
  refine aw_istore (lv' := [(6, .int r3), (5, .int r1), (0, .ref 0), (1, .int a1), (2, .int a2), (3, .int a3), (4, .int a4)]) dX0_writePair_14 (by decide) rfl ?_
  refine aw_iload 1 dX0_writePair_16 rfl ?_
  by_cases c5 : r1 = (128 : Int32)
  · refine aw_lookup 79 (off := 61) dX0_writePair_18 (by decide) (aw_swh (a := 128) c5 rfl) (by decide) ?_
    have h := h.1 c5
    refine aw_aload_n 2 dX0_writePair_79 rfl rfl ?_
    refine aw_bipush (v := (60 : Int32)) dX0_writePair_80 (by decide) ?_
    refine aw_iload 0 dX0_writePair_82 rfl ?_
    refine aw_iload 6 dX0_writePair_84 rfl ?_
    refine aw_callST (st := [.int r3, .int (60 : Int32), .ref 0]) (As := [.int a4]) lX0_224 sttX0_register (by omega) (kX0_register (d := 1) (by omega) h) rfl rfl rfl dX0_writePair_86 rfl (fun _ _ hh => ?_)
    obtain ⟨r6, τ7, rfl, rfl, h⟩ := hh
    refine ⟨rfl, (fun x hx => by cases hx; rfl), ?_⟩
    refine aw_stk (st' := [.int r6, .int r3, .int (60 : Int32), .ref 0]) rfl ?_
    refine aw_iload_n 5 dX0_writePair_89 rfl rfl ?_
    refine aw_callST (st := [.int r6, .int r3, .int (60 : Int32), .ref 0]) (As := [.int a3]) lX0_224 sttX0_register (by omega) (kX0_register (d := 1) (by omega) h) rfl rfl rfl dX0_writePair_90 rfl (fun _ _ hh => ?_)
    obtain ⟨r8, τ9, rfl, rfl, h⟩ := hh
    refine ⟨rfl, (fun x hx => by cases hx; rfl), ?_⟩
    refine aw_stk (st' := [.int r8, .int r6, .int r3, .int (60 : Int32), .ref 0]) rfl ?_
    refine aw_callST (st := [.ref 0]) (As := [.int (60 : Int32), .int r3, .int r6, .int r8]) lX0_105 sttX5_join (by omega) (kX5_join (d := 1) (by omega) h) rfl rfl rfl dX0_writePair_93 rfl (fun _ _ hh => ?_)
    obtain ⟨r10, τ11, rfl, rfl, h⟩ := hh
    refine ⟨rfl, (fun x hx => by cases hx; rfl), ?_⟩
    refine aw_stk (st' := [.int r10, .ref 0]) rfl ?_
    refine aw_callVT (mc1 := 0) (ms1 := 0) (mc := 0) (ms := 0) (st := []) (q := 0) (As := [.int r10]) lX0_51 insX0_emit selX0_emit ⟨TX0, 12, rfl⟩ (by omega) (kX0_emit (d := 2) (by omega) h) (Nat.le_of_ble_eq_true rfl) rfl rfl rfl dX0_writePair_96 rfl (fun _ _ hh => ?_)
    obtain ⟨τ13, rfl, rfl, h⟩ := hh
    refine aw_stk (st' := []) rfl ?_
    refine aw_aload_n 2 dX0_writePair_99 rfl rfl ?_
    refine aw_iload 0 dX0_writePair_100 rfl ?_
    refine aw_iload 0 dX0_writePair_102 rfl ?_
    refine aw_iconst (v := (1 : Int32)) dX0_writePair_104 (by decide) ?_
    refine aw_callST (st := [.ref 0]) (As := [.int r3, .int r3, .int (1 : Int32)]) lX0_251 sttX5_turn (by omega) (kX5_turn (d := 1) (by omega) h) rfl rfl rfl dX0_writePair_105 rfl (fun _ _ hh => ?_)
    obtain ⟨r14, τ15, rfl, rfl, h⟩ := hh
    refine ⟨rfl, (fun x hx => by cases hx; rfl), ?_⟩
    refine aw_stk (st' := [.int r14, .ref 0]) rfl ?_
    refine aw_callVT (mc1 := 0) (ms1 := 0) (mc := 0) (ms := 0) (st := []) (q := 0) (As := [.int r14]) lX0_51 insX0_emit selX0_emit ⟨TX0, 12, rfl⟩ (by omega) (kX0_emit (d := 2) (by omega) h) (Nat.le_of_ble_eq_true rfl) rfl rfl rfl dX0_writePair_108 rfl (fun _ _ hh => ?_)
    obtain ⟨τ17, rfl, rfl, h⟩ := hh
    refine aw_stk (st' := []) rfl ?_
    refine aw_goto 134 dX0_writePair_111 (by decide) ?_
    exact aw_vret rfl dX0_writePair_134 ⟨τ17, rfl, rfl, h⟩
  have h := h.2 c5
  by_cases c18 : r1 = (129 : Int32)
  · refine aw_lookup 44 (off := 26) dX0_writePair_18 (by decide) ((lv_osw (a := 128) c5 rfl).trans (aw_swh (a := 129) c18 rfl)) (by decide) ?_
    have h := h.1 c18
    refine aw_aload_n 2 dX0_writePair_44 rfl rfl ?_
    refine aw_bipush (v := (94 : Int32)) dX0_writePair_45 (by decide) ?_
    refine aw_iload 0 dX0_writePair_47 rfl ?_
    refine aw_iload_n 5 dX0_writePair_49 rfl rfl ?_
    refine aw_callST (st := [.int r3, .int (94 : Int32), .ref 0]) (As := [.int a3]) lX0_224 sttX0_register (by omega) (kX0_register (d := 1) (by omega) h) rfl rfl rfl dX0_writePair_50 rfl (fun _ _ hh => ?_)
    obtain ⟨r19, τ20, rfl, rfl, h⟩ := hh
    refine ⟨rfl, (fun x hx => by cases hx; rfl), ?_⟩
    refine aw_stk (st' := [.int r19, .int r3, .int (94 : Int32), .ref 0]) rfl ?_
    refine aw_iload 6 dX0_writePair_53 rfl ?_
    refine aw_callST (st := [.int r19, .int r3, .int (94 : Int32), .ref 0]) (As := [.int a4]) lX0_224 sttX0_register (by omega) (kX0_register (d := 1) (by omega) h) rfl rfl rfl dX0_writePair_55 rfl (fun _ _ hh => ?_)
    obtain ⟨r21, τ22, rfl, rfl, h⟩ := hh
    refine ⟨rfl, (fun x hx => by cases hx; rfl), ?_⟩
    refine aw_stk (st' := [.int r21, .int r19, .int r3, .int (94 : Int32), .ref 0]) rfl ?_
    refine aw_callST (st := [.ref 0]) (As := [.int (94 : Int32), .int r3, .int r19, .int r21]) lX0_105 sttX5_join (by omega) (kX5_join (d := 1) (by omega) h) rfl rfl rfl dX0_writePair_58 rfl (fun _ _ hh => ?_)
    obtain ⟨r23, τ24, rfl, rfl, h⟩ := hh
    refine ⟨rfl, (fun x hx => by cases hx; rfl), ?_⟩
    refine aw_stk (st' := [.int r23, .ref 0]) rfl ?_
    refine aw_callVT (mc1 := 0) (ms1 := 0) (mc := 0) (ms := 0) (st := []) (q := 0) (As := [.int r23]) lX0_51 insX0_emit selX0_emit ⟨TX0, 12, rfl⟩ (by omega) (kX0_emit (d := 2) (by omega) h) (Nat.le_of_ble_eq_true rfl) rfl rfl rfl dX0_writePair_61 rfl (fun _ _ hh => ?_)
    obtain ⟨τ26, rfl, rfl, h⟩ := hh
    refine aw_stk (st' := []) rfl ?_
    refine aw_aload_n 2 dX0_writePair_64 rfl rfl ?_
    refine aw_iload 0 dX0_writePair_65 rfl ?_
    refine aw_iload 0 dX0_writePair_67 rfl ?_
    refine aw_iconst (v := (1 : Int32)) dX0_writePair_69 (by decide) ?_
    refine aw_callST (st := [.ref 0]) (As := [.int r3, .int r3, .int (1 : Int32)]) lX0_140 sttX5_isBelow (by omega) (kX5_isBelow (d := 1) (by omega) h) rfl rfl rfl dX0_writePair_70 rfl (fun _ _ hh => ?_)
    obtain ⟨r27, τ28, rfl, rfl, h⟩ := hh
    refine ⟨rfl, (fun x hx => by cases hx; rfl), ?_⟩
    refine aw_stk (st' := [.int r27, .ref 0]) rfl ?_
    refine aw_callVT (mc1 := 0) (ms1 := 0) (mc := 0) (ms := 0) (st := []) (q := 0) (As := [.int r27]) lX0_51 insX0_emit selX0_emit ⟨TX0, 12, rfl⟩ (by omega) (kX0_emit (d := 2) (by omega) h) (Nat.le_of_ble_eq_true rfl) rfl rfl rfl dX0_writePair_73 rfl (fun _ _ hh => ?_)
    obtain ⟨τ30, rfl, rfl, h⟩ := hh
    refine aw_stk (st' := []) rfl ?_
    refine aw_goto 134 dX0_writePair_76 (by decide) ?_
    exact aw_vret rfl dX0_writePair_134 ⟨τ30, rfl, rfl, h⟩
  have h := h.2 c18
  refine aw_lookup 114 (off := 96) dX0_writePair_18 (by decide) ((lv_osw (a := 128) c5 rfl).trans ((lv_osw (a := 129) c18 rfl).trans rfl)) (by decide) ?_
  refine aw_aload_n 2 dX0_writePair_114 rfl rfl ?_
  refine aw_iload 1 dX0_writePair_115 rfl ?_
  refine aw_iload 0 dX0_writePair_117 rfl ?_
  refine aw_iload_n 5 dX0_writePair_119 rfl rfl ?_
  refine aw_callST (st := [.int r3, .int r1, .ref 0]) (As := [.int a3]) lX0_224 sttX0_register (by omega) (kX0_register (d := 1) (by omega) h) rfl rfl rfl dX0_writePair_120 rfl (fun _ _ hh => ?_)
  obtain ⟨r31, τ32, rfl, rfl, h⟩ := hh
  refine ⟨rfl, (fun x hx => by cases hx; rfl), ?_⟩
  refine aw_stk (st' := [.int r31, .int r3, .int r1, .ref 0]) rfl ?_
  refine aw_iload 6 dX0_writePair_123 rfl ?_
  refine aw_callST (st := [.int r31, .int r3, .int r1, .ref 0]) (As := [.int a4]) lX0_224 sttX0_register (by omega) (kX0_register (d := 1) (by omega) h) rfl rfl rfl dX0_writePair_125 rfl (fun _ _ hh => ?_)
  obtain ⟨r33, τ34, rfl, rfl, h⟩ := hh
  refine ⟨rfl, (fun x hx => by cases hx; rfl), ?_⟩
  refine aw_stk (st' := [.int r33, .int r31, .int r3, .int r1, .ref 0]) rfl ?_
  refine aw_callST (st := [.ref 0]) (As := [.int r1, .int r3, .int r31, .int r33]) lX0_105 sttX5_join (by omega) (kX5_join (d := 1) (by omega) h) rfl rfl rfl dX0_writePair_128 rfl (fun _ _ hh => ?_)
  obtain ⟨r35, τ36, rfl, rfl, h⟩ := hh
  refine ⟨rfl, (fun x hx => by cases hx; rfl), ?_⟩
  refine aw_stk (st' := [.int r35, .ref 0]) rfl ?_
  refine aw_callVT (mc1 := 0) (ms1 := 0) (mc := 0) (ms := 0) (st := []) (q := 0) (As := [.int r35]) lX0_51 insX0_emit selX0_emit ⟨TX0, 12, rfl⟩ (by omega) (kX0_emit (d := 2) (by omega) h) (Nat.le_of_ble_eq_true rfl) rfl rfl rfl dX0_writePair_131 rfl (fun _ _ hh => ?_)
  obtain ⟨τ38, rfl, rfl, h⟩ := hh
  refine aw_stk (st' := []) rfl ?_
  exact aw_vret rfl dX0_writePair_134 ⟨τ38, rfl, rfl, h⟩
def wp_X0_hold (σ : WSX0) (a1 : Int32) (post : WSX0 → Prop) : Prop :=
  wp_X5_toMemory a1 (0 : Int32) ((1200 : Int32) + (σ.1.1.2.2.2.1 * (4 : Int32))) (fun r1 τ2 => wp_X0_emit σ r1 (fun τ4 => (∀ y5 : Int32, y5 = (τ4.1.1.2.2.2.1 + (1 : Int32)) → post (((τ4.1.1.1, (τ4.1.1.2.1, (τ4.1.1.2.2.1, (y5, τ4.1.1.2.2.2.2)))), τ4.1.2), τ4.2))))
theorem kX0_hold {G : aw_G} {d : Nat} (hd : 3 ≤ d) {σ : WSX0} {a1 : Int32} {post : WSX0 → Prop} (h : wp_X0_hold σ a1 post) : AC G MX0_hold d 0 0 25 [.ref 0, .int a1] (wX0 G σ) (aw_pv (wX0 G) post) := by
  refine AC.of (lv := [(0, .ref 0), (1, .int a1)]) (by decide) (Nat.le_of_ble_eq_true rfl) rfl ?_
  unfold wp_X0_hold at h
  refine aw_aload_n 0 dX0_hold_0 rfl rfl ?_
  refine aw_iload_n 1 dX0_hold_1 rfl rfl ?_
  refine aw_iconst (v := (0 : Int32)) dX0_hold_2 (by decide) ?_
  refine aw_sipush (v := (1200 : Int32)) dX0_hold_3 (by decide) ?_
  refine aw_aload_n 0 dX0_hold_6 rfl rfl ?_
  refine aw_getf (v := .int σ.1.1.2.2.2.1) fX0_39 0 rfl rfl dX0_hold_7 ?_
  refine aw_iconst (v := (4 : Int32)) dX0_hold_10 (by decide) ?_
  refine aw_imul dX0_hold_11 ?_
  refine aw_iadd dX0_hold_12 ?_
  refine aw_callST (st := [.ref 0]) (As := [.int a1, .int (0 : Int32), .int ((1200 : Int32) + (σ.1.1.2.2.2.1 * (4 : Int32)))]) lX0_112 sttX5_toMemory (by omega) (kX5_toMemory (d := 0) (by omega) h) rfl rfl rfl dX0_hold_13 rfl (fun _ _ hh => ?_)
  obtain ⟨r1, τ2, rfl, rfl, h⟩ := hh
  refine ⟨rfl, (fun x hx => by cases hx; rfl), ?_⟩
  refine aw_stk (st' := [.int r1, .ref 0]) rfl ?_
  refine aw_callVT (mc1 := 0) (ms1 := 0) (mc := 0) (ms := 0) (st := []) (q := 0) (As := [.int r1]) lX0_51 insX0_emit selX0_emit ⟨TX0, 12, rfl⟩ (by omega) (kX0_emit (d := 2) (by omega) h) (Nat.le_of_ble_eq_true rfl) rfl rfl rfl dX0_hold_16 rfl (fun _ _ hh => ?_)
  obtain ⟨τ4, rfl, rfl, h⟩ := hh
  refine aw_stk (st' := []) rfl ?_
  refine aw_aload_n 0 dX0_hold_19 rfl rfl ?_
  refine aw_dup dX0_hold_20 rfl ?_
  refine aw_getf (v := .int τ4.1.1.2.2.2.1) fX0_39 0 rfl rfl dX0_hold_21 ?_
  refine aw_iconst (v := (1 : Int32)) dX0_hold_24 (by decide) ?_
  refine aw_iadd dX0_hold_25 ?_
  refine aw_topi (fun y5 ey5 => ?_)
  have h := h y5 ey5
  refine aw_putf fX0_39 0 (w' := (wX0 G (((τ4.1.1.1, (τ4.1.1.2.1, (τ4.1.1.2.2.1, (y5, τ4.1.1.2.2.2.2)))), τ4.1.2), τ4.2))) rfl (fun _ => ⟨rfl, rfl⟩) (Nat.le_of_ble_eq_true rfl) rfl dX0_hold_26 ?_
  exact aw_vret rfl dX0_hold_29 ⟨(((τ4.1.1.1, (τ4.1.1.2.1, (τ4.1.1.2.2.1, (y5, τ4.1.1.2.2.2.2)))), τ4.1.2), τ4.2), rfl, rfl, h⟩
def wp_X0_release (σ : WSX0) (a1 : Int32) (post : WSX0 → Prop) : Prop :=
  (∀ y1 : Int32, y1 = (σ.1.1.2.2.2.1 - (1 : Int32)) → wp_X5_fromMemory a1 (0 : Int32) ((1200 : Int32) + (y1 * (4 : Int32))) (fun r2 τ3 => wp_X0_emit (((σ.1.1.1, (σ.1.1.2.1, (σ.1.1.2.2.1, (y1, σ.1.1.2.2.2.2)))), σ.1.2), σ.2) r2 (fun τ5 => post τ5)))
theorem kX0_release {G : aw_G} {d : Nat} (hd : 3 ≤ d) {σ : WSX0} {a1 : Int32} {post : WSX0 → Prop} (h : wp_X0_release σ a1 post) : AC G MX0_release d 0 0 25 [.ref 0, .int a1] (wX0 G σ) (aw_pv (wX0 G) post) := by
  refine AC.of (lv := [(0, .ref 0), (1, .int a1)]) (by decide) (Nat.le_of_ble_eq_true rfl) rfl ?_
  unfold wp_X0_release at h
  refine aw_aload_n 0 dX0_release_0 rfl rfl ?_
  refine aw_dup dX0_release_1 rfl ?_
  refine aw_getf (v := .int σ.1.1.2.2.2.1) fX0_39 0 rfl rfl dX0_release_2 ?_
  refine aw_iconst (v := (1 : Int32)) dX0_release_5 (by decide) ?_
  refine aw_isub dX0_release_6 ?_
  refine aw_topi (fun y1 ey1 => ?_)
  have h := h y1 ey1
  refine aw_putf fX0_39 0 (w' := (wX0 G (((σ.1.1.1, (σ.1.1.2.1, (σ.1.1.2.2.1, (y1, σ.1.1.2.2.2.2)))), σ.1.2), σ.2))) rfl (fun _ => ⟨rfl, rfl⟩) (Nat.le_of_ble_eq_true rfl) rfl dX0_release_7 ?_
  refine aw_aload_n 0 dX0_release_10 rfl rfl ?_
  refine aw_iload_n 1 dX0_release_11 rfl rfl ?_
  refine aw_iconst (v := (0 : Int32)) dX0_release_12 (by decide) ?_
  refine aw_sipush (v := (1200 : Int32)) dX0_release_13 (by decide) ?_
  refine aw_aload_n 0 dX0_release_16 rfl rfl ?_
  refine aw_getf (v := .int y1) fX0_39 0 rfl rfl dX0_release_17 ?_
  refine aw_iconst (v := (4 : Int32)) dX0_release_20 (by decide) ?_
  refine aw_imul dX0_release_21 ?_
  refine aw_iadd dX0_release_22 ?_
  refine aw_callST (st := [.ref 0]) (As := [.int a1, .int (0 : Int32), .int ((1200 : Int32) + (y1 * (4 : Int32)))]) lX0_127 sttX5_fromMemory (by omega) (kX5_fromMemory (d := 0) (by omega) h) rfl rfl rfl dX0_release_23 rfl (fun _ _ hh => ?_)
  obtain ⟨r2, τ3, rfl, rfl, h⟩ := hh
  refine ⟨rfl, (fun x hx => by cases hx; rfl), ?_⟩
  refine aw_stk (st' := [.int r2, .ref 0]) rfl ?_
  refine aw_callVT (mc1 := 0) (ms1 := 0) (mc := 0) (ms := 0) (st := []) (q := 0) (As := [.int r2]) lX0_51 insX0_emit selX0_emit ⟨TX0, 12, rfl⟩ (by omega) (kX0_emit (d := 2) (by omega) h) (Nat.le_of_ble_eq_true rfl) rfl rfl rfl dX0_release_26 rfl (fun _ _ hh => ?_)
  obtain ⟨τ5, rfl, rfl, h⟩ := hh
  refine aw_stk (st' := []) rfl ?_
  exact aw_vret rfl dX0_release_29 ⟨τ5, rfl, rfl, h⟩
def Mg_wv (k : Nat) : aw_M := match k with

  | _ => MX0_writeValue
def wp_X0_writeValue_321 (rc : Nat → WSX0 → List Int32 → (Int32 → WSX0 → Prop) → Prop) (rec_121 : WSX0 × Int32 × Int32 × Int32 × Int32 × Int32 → Prop) (post : WSX0 → Prop) (σ : WSX0) (x1 : Int32) (x3 : Int32) (x4 : Int32) (x5 : Int32) (x6 : Int32) : Prop :=
  rec_121 (σ, x1, x3, x4, x5, (x6 + 1))
theorem aw_X0_writeValue_321 {G : aw_G} {d : Nat} (hd : 4 ≤ d) {dg : Nat} (hdg : dg + 1 ≤ d) {rc : Nat → WSX0 → List Int32 → (Int32 → WSX0 → Prop) → Prop} (hrc : ∀ (k : Nat) (σ : WSX0) (xs : List Int32) (po : Int32 → WSX0 → Prop), rc k σ xs po → AC G (Mg_wv k) dg 0 0 25 (.ref 0 :: xs.map .int) (wX0 G σ) (aw_pv (wX0 G) (fun τ => po 0 τ))) {rec_121 : WSX0 × Int32 × Int32 × Int32 × Int32 × Int32 → Prop} {post : WSX0 → Prop} (hrec_121 : ∀ a : WSX0 × Int32 × Int32 × Int32 × Int32 × Int32, rec_121 a → AW G MX0_writeValue d 0 0 25 (aw_pv (wX0 G) post) 121 [(0, .ref 0), (1, .int a.2.1), (3, .int a.2.2.1), (4, .int a.2.2.2.1), (5, .int a.2.2.2.2.1), (6, .int a.2.2.2.2.2)] [] (wX0 G a.1)) {σ : WSX0} {x1 : Int32} {x3 : Int32} {x4 : Int32} {x5 : Int32} {x6 : Int32} (h : wp_X0_writeValue_321 rc rec_121 post σ x1 x3 x4 x5 x6) : AW G MX0_writeValue d 0 0 25 (aw_pv (wX0 G) post) 321 [(0, .ref 0), (1, .int x1), (3, .int x3), (4, .int x4), (5, .int x5), (6, .int x6)] [] (wX0 G σ) := by
  unfold wp_X0_writeValue_321 at h
  refine aw_iinc 5 (v := (x6 + 1)) (lv' := [(6, .int (x6 + 1)), (0, .ref 0), (1, .int x1), (3, .int x3), (4, .int x4), (5, .int x5)]) dX0_writeValue_321 rfl rfl (by decide) rfl ?_
  refine aw_goto 121 dX0_writeValue_324 (by decide) ?_
  refine aw_lvsub (lv' := [(0, .ref 0), (1, .int x1), (3, .int x3), (4, .int x4), (5, .int x5), (6, .int (x6 + 1))]) [1, 2, 3, 4, 5, 0] rfl ?_
  exact hrec_121 (σ, x1, x3, x4, x5, (x6 + 1)) h
def wb_X0_writeValue_121 (rc : Nat → WSX0 → List Int32 → (Int32 → WSX0 → Prop) → Prop)  (post : WSX0 → Prop) (rec_121 : WSX0 × Int32 × Int32 × Int32 × Int32 × Int32 → Prop) (σ : WSX0) (x1 : Int32) (x3 : Int32) (x4 : Int32) (x5 : Int32) (x6 : Int32) : Prop :=
  wp_X4_size σ.1.2  (fun r5 τ6 => ((r5 ≤ x6 → post ((σ.1.1, τ6), σ.2)) ∧ (¬ r5 ≤ x6 → ((x4 = x1 → post ((σ.1.1, τ6), σ.2)) ∧ (¬ x4 = x1 → wp_X4_tie τ6 x4 (fun r7 τ8 => wp_X4_kind τ8 r7 (fun r9 τ10 => ((¬ r9 = (28 : Int32) → wp_X0_isPair ((σ.1.1, τ10), σ.2) r7 (fun r11 τ12 => ((¬ r11 = 0 → wp_X0_rightFirst τ12 r7 (fun r13 τ14 => ((r13 = 0 → wp_X4_calls τ14.1.2 (r7 - (1 : Int32)) (fun r15 τ16 => ((r15 = 0 → rc 0 ((τ14.1.1, τ16), τ14.2) [(r7 - (1 : Int32)), (x5 + (1 : Int32)), (x3 + (1 : Int32))] (fun _ τ18 => wp_X0_writePair τ18 r7 x5 x5 (x5 + (1 : Int32)) (fun τ20 => wp_X0_writeValue_321 rc rec_121 post τ20 x1 x3 r7 x5 x6))) ∧ (¬ r15 = 0 → wp_X0_hold ((τ14.1.1, τ16), τ14.2) (6 : Int32) (fun τ22 => rc 0 τ22 [(r7 - (1 : Int32)), (0 : Int32), (x3 + (1 : Int32))] (fun _ τ24 => wp_X0_release τ24 (7 : Int32) (fun τ26 => wp_X0_writePair τ26 r7 (0 : Int32) (1 : Int32) (0 : Int32) (fun τ28 => wp_X0_writeValue_321 rc rec_121 post τ28 x1 x3 r7 x5 x6)))))))) ∧ (¬ r13 = 0 → wp_X0_writePair τ14 r7 (x5 + (-1)) ((x5 + (-1)) + (1 : Int32)) (x5 + (-1)) (fun τ31 => wp_X0_writeValue_321 rc rec_121 post τ31 x1 x3 r7 (x5 + (-1)) x6))))) ∧ (r11 = 0 → wp_X0_register x5 (fun r33 τ34 => wp_X0_writeUnary τ12 r7 r33 (fun τ36 => wp_X0_writeValue_321 rc rec_121 post τ36 x1 x3 r7 x5 x6)))))) ∧ (r9 = (28 : Int32) → wp_X4_value τ10 r7 (fun r38 τ39 => wp_X0_rowCall ((σ.1.1, τ39), σ.2) σ.1.1.2.1.2 r38 (fun r40 τ41 => wp_X0_callFor τ41 r7 r40 (fun τ43 => wp_X0_writeValue_321 rc rec_121 post τ43 x1 x3 r7 x5 x6))))))))))))
def wp_X0_writeValue_121 (rc : Nat → WSX0 → List Int32 → (Int32 → WSX0 → Prop) → Prop)  (post : WSX0 → Prop) (n : Nat) (σ : WSX0) (x1 : Int32) (x3 : Int32) (x4 : Int32) (x5 : Int32) (x6 : Int32) : Prop := aw_loop (fun r (a : WSX0 × Int32 × Int32 × Int32 × Int32 × Int32) => wb_X0_writeValue_121 rc  post r a.1 a.2.1 a.2.2.1 a.2.2.2.1 a.2.2.2.2.1 a.2.2.2.2.2) n (σ, x1, x3, x4, x5, x6)
theorem aw_X0_writeValue_121 {G : aw_G} {d : Nat} (hd : 4 ≤ d) {dg : Nat} (hdg : dg + 1 ≤ d) {rc : Nat → WSX0 → List Int32 → (Int32 → WSX0 → Prop) → Prop} (hrc : ∀ (k : Nat) (σ : WSX0) (xs : List Int32) (po : Int32 → WSX0 → Prop), rc k σ xs po → AC G (Mg_wv k) dg 0 0 25 (.ref 0 :: xs.map .int) (wX0 G σ) (aw_pv (wX0 G) (fun τ => po 0 τ))) {post : WSX0 → Prop}  : ∀ (n : Nat) (σ : WSX0) (x1 : Int32) (x3 : Int32) (x4 : Int32) (x5 : Int32) (x6 : Int32), wp_X0_writeValue_121 rc  post n σ x1 x3 x4 x5 x6 → AW G MX0_writeValue d 0 0 25 (aw_pv (wX0 G) post) 121 [(0, .ref 0), (1, .int x1), (3, .int x3), (4, .int x4), (5, .int x5), (6, .int x6)] [] (wX0 G σ) := by
  intro n
  induction n with
  | zero => intro σ x1 x3 x4 x5 x6 h; exact h.elim
  | succ n ih =>
    intro σ x1 x3 x4 x5 x6 h
    have hrec_121 : ∀ a : WSX0 × Int32 × Int32 × Int32 × Int32 × Int32, aw_loop (fun r (a : WSX0 × Int32 × Int32 × Int32 × Int32 × Int32) => wb_X0_writeValue_121 rc  post r a.1 a.2.1 a.2.2.1 a.2.2.2.1 a.2.2.2.2.1 a.2.2.2.2.2) n a → AW G MX0_writeValue d 0 0 25 (aw_pv (wX0 G) post) 121 [(0, .ref 0), (1, .int a.2.1), (3, .int a.2.2.1), (4, .int a.2.2.2.1), (5, .int a.2.2.2.2.1), (6, .int a.2.2.2.2.2)] [] (wX0 G a.1) := fun a h => ih a.1 a.2.1 a.2.2.1 a.2.2.2.1 a.2.2.2.2.1 a.2.2.2.2.2 h
    have h : wb_X0_writeValue_121 rc  post (aw_loop (fun r (a : WSX0 × Int32 × Int32 × Int32 × Int32 × Int32) => wb_X0_writeValue_121 rc  post r a.1 a.2.1 a.2.2.1 a.2.2.2.1 a.2.2.2.2.1 a.2.2.2.2.2) n) σ x1 x3 x4 x5 x6 := h
    unfold wb_X0_writeValue_121 at h
    refine aw_iload 5 dX0_writeValue_121 rfl ?_
    refine aw_aload_n 0 dX0_writeValue_123 rfl rfl ?_
    refine aw_getf (v := .ref 2) fX0_17 0 rfl rfl dX0_writeValue_124 ?_
    refine aw_callV (mc1 := 0) (ms1 := 0) (mc := 0) (ms := 0) (st := [.int x6]) (q := 2) (As := []) (vsc := []) lX0_63 insX4_size selX4_size ⟨TX4, 10, rfl⟩ (by omega) (kX4_size (d := 0) (by omega) h) [2, 16, 17, 18, 19, 20, 21, 22, 23, 24] rfl rfl rfl rfl rfl dX0_writeValue_127 rfl rfl (fun _ _ hh => ?_)
    obtain ⟨r5, τ6, rfl, rfl, h⟩ := hh
    refine ⟨(wX0 G ((σ.1.1, τ6), σ.2)), [.int r5, .int x6], rfl, rfl, rfl, ?_⟩
    refine aw_icmp_ge 327 dX0_writeValue_130 (by decide) (fun c46 => ?_) (fun c46 => ?_)
    · have h := h.1 c46
      exact aw_vret rfl dX0_writeValue_327 ⟨((σ.1.1, τ6), σ.2), rfl, rfl, h⟩
    · have h := h.2 c46
      refine aw_iload 3 dX0_writeValue_133 rfl ?_
      refine aw_iload_n 1 dX0_writeValue_135 rfl rfl ?_
      refine aw_icmp_eq 327 dX0_writeValue_136 (by decide) (fun c45 => ?_) (fun c45 => ?_)
      · have h := h.1 c45
        exact aw_vret rfl dX0_writeValue_327 ⟨((σ.1.1, τ6), σ.2), rfl, rfl, h⟩
      · have h := h.2 c45
        refine aw_aload_n 0 dX0_writeValue_139 rfl rfl ?_
        refine aw_getf (v := .ref 2) fX0_17 0 rfl rfl dX0_writeValue_140 ?_
        refine aw_iload 3 dX0_writeValue_143 rfl ?_
        refine aw_callV (mc1 := 0) (ms1 := 0) (mc := 0) (ms := 0) (st := []) (q := 2) (As := [.int x4]) (vsc := [.int x4]) lX0_203 insX4_tie selX4_tie ⟨TX4, 10, rfl⟩ (by omega) (kX4_tie (d := 1) (by omega) h) [2, 16, 17, 18, 19, 20, 21, 22, 23, 24] rfl rfl rfl rfl rfl dX0_writeValue_145 rfl rfl (fun _ _ hh => ?_)
        obtain ⟨r7, τ8, rfl, rfl, h⟩ := hh
        refine ⟨(wX0 G ((σ.1.1, τ8), σ.2)), [.int r7], rfl, rfl, rfl, ?_⟩
        refine aw_istore (lv' := [(4, .int r7), (0, .ref 0), (1, .int x1), (3, .int x3), (5, .int x5), (6, .int x6)]) dX0_writeValue_148 (by decide) rfl ?_
        refine aw_aload_n 1 dX0_writeValue_150 rfl rfl ?_
        refine aw_getf (v := .ref 2) fX0_17 0 rfl rfl dX0_writeValue_151 ?_
        refine aw_iload 0 dX0_writeValue_154 rfl ?_
        refine aw_callV (mc1 := 0) (ms1 := 0) (mc := 0) (ms := 0) (st := []) (q := 2) (As := [.int r7]) (vsc := [.int r7]) lX0_149 insX4_kind selX4_kind ⟨TX4, 10, rfl⟩ (by omega) (kX4_kind (d := 1) (by omega) h) [2, 16, 17, 18, 19, 20, 21, 22, 23, 24] rfl rfl rfl rfl rfl dX0_writeValue_156 rfl rfl (fun _ _ hh => ?_)
        obtain ⟨r9, τ10, rfl, rfl, h⟩ := hh
        refine ⟨(wX0 G ((σ.1.1, τ10), σ.2)), [.int r9], rfl, rfl, rfl, ?_⟩
        refine aw_bipush (v := (28 : Int32)) dX0_writeValue_159 (by decide) ?_
        refine aw_icmp_ne 190 dX0_writeValue_161 (by decide) (fun c44 => ?_) (fun c44 => ?_)
        · have h := h.1 c44
          refine aw_aload_n 1 dX0_writeValue_190 rfl rfl ?_
          refine aw_iload 0 dX0_writeValue_191 rfl ?_
          refine aw_callVT (mc1 := 0) (ms1 := 0) (mc := 0) (ms := 0) (st := []) (q := 0) (As := [.int r7]) lX0_212 insX0_isPair selX0_isPair ⟨TX0, 12, rfl⟩ (by omega) (kX0_isPair (d := 2) (by omega) h) (Nat.le_of_ble_eq_true rfl) rfl rfl rfl dX0_writeValue_193 rfl (fun _ _ hh => ?_)
          obtain ⟨r11, τ12, rfl, rfl, h⟩ := hh
          refine aw_stk (st' := [.int r11]) rfl ?_
          refine aw_if_ne 213 dX0_writeValue_196 (by decide) (fun c37 => ?_) (fun c37 => ?_)
          · have h := h.1 c37
            refine aw_aload_n 1 dX0_writeValue_213 rfl rfl ?_
            refine aw_iload 0 dX0_writeValue_214 rfl ?_
            refine aw_callVT (mc1 := 0) (ms1 := 0) (mc := 0) (ms := 0) (st := []) (q := 0) (As := [.int r7]) lX0_218 insX0_rightFirst selX0_rightFirst ⟨TX0, 12, rfl⟩ (by omega) (kX0_rightFirst (d := 3) (by omega) h) (Nat.le_of_ble_eq_true rfl) rfl rfl rfl dX0_writeValue_216 rfl (fun _ _ hh => ?_)
            obtain ⟨r13, τ14, rfl, rfl, h⟩ := hh
            refine aw_stk (st' := [.int r13]) rfl ?_
            refine aw_if_eq 242 dX0_writeValue_219 (by decide) (fun c32 => ?_) (fun c32 => ?_)
            · have h := h.1 c32
              refine aw_aload_n 1 dX0_writeValue_242 rfl rfl ?_
              refine aw_getf (v := .ref 2) fX0_17 0 rfl rfl dX0_writeValue_243 ?_
              refine aw_iload 0 dX0_writeValue_246 rfl ?_
              refine aw_iconst (v := (1 : Int32)) dX0_writeValue_248 (by decide) ?_
              refine aw_isub dX0_writeValue_249 ?_
              refine aw_callV (mc1 := 0) (ms1 := 0) (mc := 0) (ms := 0) (st := []) (q := 2) (As := [.int (r7 - (1 : Int32))]) (vsc := [.int (r7 - (1 : Int32))]) lX0_234 insX4_calls selX4_calls ⟨TX4, 10, rfl⟩ (by omega) (kX4_calls (d := 1) (by omega) h) [2, 16, 17, 18, 19, 20, 21, 22, 23, 24] rfl rfl rfl rfl rfl dX0_writeValue_250 rfl rfl (fun _ _ hh => ?_)
              obtain ⟨r15, τ16, rfl, rfl, h⟩ := hh
              refine ⟨(wX0 G ((τ14.1.1, τ16), τ14.2)), [.int r15], rfl, rfl, rfl, ?_⟩
              refine aw_if_eq 292 dX0_writeValue_253 (by decide) (fun c29 => ?_) (fun c29 => ?_)
              · have h := h.1 c29
                refine aw_aload_n 1 dX0_writeValue_292 rfl rfl ?_
                refine aw_iload 0 dX0_writeValue_293 rfl ?_
                refine aw_iconst (v := (1 : Int32)) dX0_writeValue_295 (by decide) ?_
                refine aw_isub dX0_writeValue_296 ?_
                refine aw_iload 4 dX0_writeValue_297 rfl ?_
                refine aw_iconst (v := (1 : Int32)) dX0_writeValue_299 (by decide) ?_
                refine aw_iadd dX0_writeValue_300 ?_
                refine aw_iload_n 3 dX0_writeValue_301 rfl rfl ?_
                refine aw_iconst (v := (1 : Int32)) dX0_writeValue_302 (by decide) ?_
                refine aw_iadd dX0_writeValue_303 ?_
                refine aw_callVT (mc1 := 0) (ms1 := 0) (mc := 0) (ms := 0) (st := []) (q := 0) (As := [.int (r7 - (1 : Int32)), .int (x5 + (1 : Int32)), .int (x3 + (1 : Int32))]) lX0_155 insX0_writeValue selX0_writeValue ⟨TX0, 12, rfl⟩ (by omega) (hrc 0 _ [(r7 - (1 : Int32)), (x5 + (1 : Int32)), (x3 + (1 : Int32))] _ h) (Nat.le_of_ble_eq_true rfl) rfl rfl rfl dX0_writeValue_304 rfl (fun _ _ hh => ?_)
                obtain ⟨τ18, rfl, rfl, h⟩ := hh
                refine aw_stk (st' := []) rfl ?_
                refine aw_aload_n 1 dX0_writeValue_307 rfl rfl ?_
                refine aw_iload 0 dX0_writeValue_308 rfl ?_
                refine aw_iload 4 dX0_writeValue_310 rfl ?_
                refine aw_iload 4 dX0_writeValue_312 rfl ?_
                refine aw_iload 4 dX0_writeValue_314 rfl ?_
                refine aw_iconst (v := (1 : Int32)) dX0_writeValue_316 (by decide) ?_
                refine aw_iadd dX0_writeValue_317 ?_
                refine aw_callVT (mc1 := 0) (ms1 := 0) (mc := 0) (ms := 0) (st := []) (q := 0) (As := [.int r7, .int x5, .int x5, .int (x5 + (1 : Int32))]) lX0_230 insX0_writePair selX0_writePair ⟨TX0, 12, rfl⟩ (by omega) (kX0_writePair (d := 3) (by omega) h) (Nat.le_of_ble_eq_true rfl) rfl rfl rfl dX0_writeValue_318 rfl (fun _ _ hh => ?_)
                obtain ⟨τ20, rfl, rfl, h⟩ := hh
                refine aw_stk (st' := []) rfl ?_
                refine aw_lvsub (lv' := [(0, .ref 0), (1, .int x1), (3, .int x3), (4, .int r7), (5, .int x5), (6, .int x6)]) [1, 2, 3, 0, 4, 5] rfl ?_
                exact aw_X0_writeValue_321 hd hdg hrc hrec_121 h
              · have h := h.2 c29
                refine aw_aload_n 1 dX0_writeValue_256 rfl rfl ?_
                refine aw_bipush (v := (6 : Int32)) dX0_writeValue_257 (by decide) ?_
                refine aw_callVT (mc1 := 0) (ms1 := 0) (mc := 0) (ms := 0) (st := []) (q := 0) (As := [.int (6 : Int32)]) lX0_167 insX0_hold selX0_hold ⟨TX0, 12, rfl⟩ (by omega) (kX0_hold (d := 3) (by omega) h) (Nat.le_of_ble_eq_true rfl) rfl rfl rfl dX0_writeValue_259 rfl (fun _ _ hh => ?_)
                obtain ⟨τ22, rfl, rfl, h⟩ := hh
                refine aw_stk (st' := []) rfl ?_
                refine aw_aload_n 1 dX0_writeValue_262 rfl rfl ?_
                refine aw_iload 0 dX0_writeValue_263 rfl ?_
                refine aw_iconst (v := (1 : Int32)) dX0_writeValue_265 (by decide) ?_
                refine aw_isub dX0_writeValue_266 ?_
                refine aw_iconst (v := (0 : Int32)) dX0_writeValue_267 (by decide) ?_
                refine aw_iload_n 3 dX0_writeValue_268 rfl rfl ?_
                refine aw_iconst (v := (1 : Int32)) dX0_writeValue_269 (by decide) ?_
                refine aw_iadd dX0_writeValue_270 ?_
                refine aw_callVT (mc1 := 0) (ms1 := 0) (mc := 0) (ms := 0) (st := []) (q := 0) (As := [.int (r7 - (1 : Int32)), .int (0 : Int32), .int (x3 + (1 : Int32))]) lX0_155 insX0_writeValue selX0_writeValue ⟨TX0, 12, rfl⟩ (by omega) (hrc 0 _ [(r7 - (1 : Int32)), (0 : Int32), (x3 + (1 : Int32))] _ h) (Nat.le_of_ble_eq_true rfl) rfl rfl rfl dX0_writeValue_271 rfl (fun _ _ hh => ?_)
                obtain ⟨τ24, rfl, rfl, h⟩ := hh
                refine aw_stk (st' := []) rfl ?_
                refine aw_aload_n 1 dX0_writeValue_274 rfl rfl ?_
                refine aw_bipush (v := (7 : Int32)) dX0_writeValue_275 (by decide) ?_
                refine aw_callVT (mc1 := 0) (ms1 := 0) (mc := 0) (ms := 0) (st := []) (q := 0) (As := [.int (7 : Int32)]) lX0_188 insX0_release selX0_release ⟨TX0, 12, rfl⟩ (by omega) (kX0_release (d := 3) (by omega) h) (Nat.le_of_ble_eq_true rfl) rfl rfl rfl dX0_writeValue_277 rfl (fun _ _ hh => ?_)
                obtain ⟨τ26, rfl, rfl, h⟩ := hh
                refine aw_stk (st' := []) rfl ?_
                refine aw_aload_n 1 dX0_writeValue_280 rfl rfl ?_
                refine aw_iload 0 dX0_writeValue_281 rfl ?_
                refine aw_iconst (v := (0 : Int32)) dX0_writeValue_283 (by decide) ?_
                refine aw_iconst (v := (1 : Int32)) dX0_writeValue_284 (by decide) ?_
                refine aw_iconst (v := (0 : Int32)) dX0_writeValue_285 (by decide) ?_
                refine aw_callVT (mc1 := 0) (ms1 := 0) (mc := 0) (ms := 0) (st := []) (q := 0) (As := [.int r7, .int (0 : Int32), .int (1 : Int32), .int (0 : Int32)]) lX0_230 insX0_writePair selX0_writePair ⟨TX0, 12, rfl⟩ (by omega) (kX0_writePair (d := 3) (by omega) h) (Nat.le_of_ble_eq_true rfl) rfl rfl rfl dX0_writeValue_286 rfl (fun _ _ hh => ?_)
                obtain ⟨τ28, rfl, rfl, h⟩ := hh
                refine aw_stk (st' := []) rfl ?_
                refine aw_goto 321 dX0_writeValue_289 (by decide) ?_
                refine aw_lvsub (lv' := [(0, .ref 0), (1, .int x1), (3, .int x3), (4, .int r7), (5, .int x5), (6, .int x6)]) [1, 2, 3, 0, 4, 5] rfl ?_
                exact aw_X0_writeValue_321 hd hdg hrc hrec_121 h
            · have h := h.2 c32
              refine aw_iinc 4 (v := (x5 + (-1))) (lv' := [(5, .int (x5 + (-1))), (4, .int r7), (0, .ref 0), (1, .int x1), (3, .int x3), (6, .int x6)]) dX0_writeValue_222 rfl rfl (by decide) rfl ?_
              refine aw_aload_n 2 dX0_writeValue_225 rfl rfl ?_
              refine aw_iload 1 dX0_writeValue_226 rfl ?_
              refine aw_iload 0 dX0_writeValue_228 rfl ?_
              refine aw_iload 0 dX0_writeValue_230 rfl ?_
              refine aw_iconst (v := (1 : Int32)) dX0_writeValue_232 (by decide) ?_
              refine aw_iadd dX0_writeValue_233 ?_
              refine aw_iload 0 dX0_writeValue_234 rfl ?_
              refine aw_callVT (mc1 := 0) (ms1 := 0) (mc := 0) (ms := 0) (st := []) (q := 0) (As := [.int r7, .int (x5 + (-1)), .int ((x5 + (-1)) + (1 : Int32)), .int (x5 + (-1))]) lX0_230 insX0_writePair selX0_writePair ⟨TX0, 12, rfl⟩ (by omega) (kX0_writePair (d := 3) (by omega) h) (Nat.le_of_ble_eq_true rfl) rfl rfl rfl dX0_writeValue_236 rfl (fun _ _ hh => ?_)
              obtain ⟨τ31, rfl, rfl, h⟩ := hh
              refine aw_stk (st' := []) rfl ?_
              refine aw_goto 321 dX0_writeValue_239 (by decide) ?_
              refine aw_lvsub (lv' := [(0, .ref 0), (1, .int x1), (3, .int x3), (4, .int r7), (5, .int (x5 + (-1))), (6, .int x6)]) [2, 3, 4, 1, 0, 5] rfl ?_
              exact aw_X0_writeValue_321 hd hdg hrc hrec_121 h
          · have h := h.2 c37
            refine aw_aload_n 1 dX0_writeValue_199 rfl rfl ?_
            refine aw_iload 0 dX0_writeValue_200 rfl ?_
            refine aw_iload 4 dX0_writeValue_202 rfl ?_
            refine aw_callST (st := [.int r7, .ref 0]) (As := [.int x5]) lX0_224 sttX0_register (by omega) (kX0_register (d := 1) (by omega) h) rfl rfl rfl dX0_writeValue_204 rfl (fun _ _ hh => ?_)
            obtain ⟨r33, τ34, rfl, rfl, h⟩ := hh
            refine ⟨rfl, (fun x hx => by cases hx; rfl), ?_⟩
            refine aw_stk (st' := [.int r33, .int r7, .ref 0]) rfl ?_
            refine aw_callVT (mc1 := 0) (ms1 := 0) (mc := 0) (ms := 0) (st := []) (q := 0) (As := [.int r7, .int r33]) lX0_227 insX0_writeUnary selX0_writeUnary ⟨TX0, 12, rfl⟩ (by omega) (kX0_writeUnary (d := 3) (by omega) h) (Nat.le_of_ble_eq_true rfl) rfl rfl rfl dX0_writeValue_207 rfl (fun _ _ hh => ?_)
            obtain ⟨τ36, rfl, rfl, h⟩ := hh
            refine aw_stk (st' := []) rfl ?_
            refine aw_goto 321 dX0_writeValue_210 (by decide) ?_
            refine aw_lvsub (lv' := [(0, .ref 0), (1, .int x1), (3, .int x3), (4, .int r7), (5, .int x5), (6, .int x6)]) [1, 2, 3, 0, 4, 5] rfl ?_
            exact aw_X0_writeValue_321 hd hdg hrc hrec_121 h
        · have h := h.2 c44
          refine aw_aload_n 1 dX0_writeValue_164 rfl rfl ?_
          refine aw_iload 0 dX0_writeValue_165 rfl ?_
          refine aw_aload_n 1 dX0_writeValue_167 rfl rfl ?_
          refine aw_aload_n 1 dX0_writeValue_168 rfl rfl ?_
          refine aw_getf (v := .int σ.1.1.2.1.2) fX0_120 0 rfl rfl dX0_writeValue_169 ?_
          refine aw_aload_n 1 dX0_writeValue_172 rfl rfl ?_
          refine aw_getf (v := .ref 2) fX0_17 0 rfl rfl dX0_writeValue_173 ?_
          refine aw_iload 0 dX0_writeValue_176 rfl ?_
          refine aw_callV (mc1 := 0) (ms1 := 0) (mc := 0) (ms := 0) (st := [.int σ.1.1.2.1.2, .ref 0, .int r7, .ref 0]) (q := 2) (As := [.int r7]) (vsc := [.int r7]) lX0_158 insX4_value selX4_value ⟨TX4, 10, rfl⟩ (by omega) (kX4_value (d := 1) (by omega) h) [2, 16, 17, 18, 19, 20, 21, 22, 23, 24] rfl rfl rfl rfl rfl dX0_writeValue_178 rfl rfl (fun _ _ hh => ?_)
          obtain ⟨r38, τ39, rfl, rfl, h⟩ := hh
          refine ⟨(wX0 G ((σ.1.1, τ39), σ.2)), [.int r38, .int σ.1.1.2.1.2, .ref 0, .int r7, .ref 0], rfl, rfl, rfl, ?_⟩
          refine aw_callVT (mc1 := 0) (ms1 := 0) (mc := 0) (ms := 0) (st := [.int r7, .ref 0]) (q := 0) (As := [.int σ.1.1.2.1.2, .int r38]) lX0_161 insX0_rowCall selX0_rowCall ⟨TX0, 12, rfl⟩ (by omega) (kX0_rowCall (d := 0) (by omega) h) (Nat.le_of_ble_eq_true rfl) rfl rfl rfl dX0_writeValue_181 rfl (fun _ _ hh => ?_)
          obtain ⟨r40, τ41, rfl, rfl, h⟩ := hh
          refine aw_stk (st' := [.int r40, .int r7, .ref 0]) rfl ?_
          refine aw_callVT (mc1 := 0) (ms1 := 0) (mc := 0) (ms := 0) (st := []) (q := 0) (As := [.int r7, .int r40]) lX0_164 insX0_callFor selX0_callFor ⟨TX0, 12, rfl⟩ (by omega) (kX0_callFor (d := 3) (by omega) h) (Nat.le_of_ble_eq_true rfl) rfl rfl rfl dX0_writeValue_184 rfl (fun _ _ hh => ?_)
          obtain ⟨τ43, rfl, rfl, h⟩ := hh
          refine aw_stk (st' := []) rfl ?_
          refine aw_goto 321 dX0_writeValue_187 (by decide) ?_
          refine aw_lvsub (lv' := [(0, .ref 0), (1, .int x1), (3, .int x3), (4, .int r7), (5, .int x5), (6, .int x6)]) [1, 2, 3, 0, 4, 5] rfl ?_
          exact aw_X0_writeValue_321 hd hdg hrc hrec_121 h
def wp_X0_writeValue_110 (rc : Nat → WSX0 → List Int32 → (Int32 → WSX0 → Prop) → Prop)  (post : WSX0 → Prop) (σ : WSX0) (x1 : Int32) (x3 : Int32) (x4 : Int32) (x5 : Int32) : Prop :=
  wp_X0_writeLeaf σ x4 x5 (fun τ4 => (∃ n47, wp_X0_writeValue_121 rc  post n47 τ4 x1 x3 x4 x5 (0 : Int32)))
theorem aw_X0_writeValue_110 {G : aw_G} {d : Nat} (hd : 4 ≤ d) {dg : Nat} (hdg : dg + 1 ≤ d) {rc : Nat → WSX0 → List Int32 → (Int32 → WSX0 → Prop) → Prop} (hrc : ∀ (k : Nat) (σ : WSX0) (xs : List Int32) (po : Int32 → WSX0 → Prop), rc k σ xs po → AC G (Mg_wv k) dg 0 0 25 (.ref 0 :: xs.map .int) (wX0 G σ) (aw_pv (wX0 G) (fun τ => po 0 τ))) {post : WSX0 → Prop}  {σ : WSX0} {x1 : Int32} {x3 : Int32} {x4 : Int32} {x5 : Int32} (h : wp_X0_writeValue_110 rc  post σ x1 x3 x4 x5) : AW G MX0_writeValue d 0 0 25 (aw_pv (wX0 G) post) 110 [(0, .ref 0), (1, .int x1), (3, .int x3), (4, .int x4), (5, .int x5)] [] (wX0 G σ) := by
  unfold wp_X0_writeValue_110 at h
  refine aw_aload_n 0 dX0_writeValue_110 rfl rfl ?_
  refine aw_iload 3 dX0_writeValue_111 rfl ?_
  refine aw_iload 4 dX0_writeValue_113 rfl ?_
  refine aw_callVT (mc1 := 0) (ms1 := 0) (mc := 0) (ms := 0) (st := []) (q := 0) (As := [.int x4, .int x5]) lX0_221 insX0_writeLeaf selX0_writeLeaf ⟨TX0, 12, rfl⟩ (by omega) (kX0_writeLeaf (d := 3) (by omega) h) (Nat.le_of_ble_eq_true rfl) rfl rfl rfl dX0_writeValue_115 rfl (fun _ _ hh => ?_)
  obtain ⟨τ4, rfl, rfl, h⟩ := hh
  refine aw_stk (st' := []) rfl ?_
  refine aw_iconst (v := (0 : Int32)) dX0_writeValue_118 (by decide) ?_
  refine aw_istore (lv' := [(6, .int (0 : Int32)), (0, .ref 0), (1, .int x1), (3, .int x3), (4, .int x4), (5, .int x5)]) dX0_writeValue_119 (by decide) rfl ?_
  refine aw_lvsub (lv' := [(0, .ref 0), (1, .int x1), (3, .int x3), (4, .int x4), (5, .int x5), (6, .int (0 : Int32))]) [1, 2, 3, 4, 5, 0] rfl ?_
  obtain ⟨n47, h⟩ := h
  exact aw_X0_writeValue_121 hd hdg hrc  n47 τ4 x1 x3 x4 x5 (0 : Int32) h
def wp_X0_writeValue_100 (rc : Nat → WSX0 → List Int32 → (Int32 → WSX0 → Prop) → Prop) (rec_16 : WSX0 × Int32 × Int32 × Int32 × Int32 × Int32 → Prop) (post : WSX0 → Prop) (σ : WSX0) (x1 : Int32) (x3 : Int32) (x5 : Int32) (x6 : Int32) (x7 : Int32) : Prop :=
  rec_16 (σ, x1, x3, x7, x5, (x6 + 1))
theorem aw_X0_writeValue_100 {G : aw_G} {d : Nat} (hd : 4 ≤ d) {dg : Nat} (hdg : dg + 1 ≤ d) {rc : Nat → WSX0 → List Int32 → (Int32 → WSX0 → Prop) → Prop} (hrc : ∀ (k : Nat) (σ : WSX0) (xs : List Int32) (po : Int32 → WSX0 → Prop), rc k σ xs po → AC G (Mg_wv k) dg 0 0 25 (.ref 0 :: xs.map .int) (wX0 G σ) (aw_pv (wX0 G) (fun τ => po 0 τ))) {rec_16 : WSX0 × Int32 × Int32 × Int32 × Int32 × Int32 → Prop} {post : WSX0 → Prop} (hrec_16 : ∀ a : WSX0 × Int32 × Int32 × Int32 × Int32 × Int32, rec_16 a → AW G MX0_writeValue d 0 0 25 (aw_pv (wX0 G) post) 16 [(0, .ref 0), (1, .int a.2.1), (3, .int a.2.2.1), (4, .int a.2.2.2.1), (5, .int a.2.2.2.2.1), (6, .int a.2.2.2.2.2)] [] (wX0 G a.1)) {σ : WSX0} {x1 : Int32} {x3 : Int32} {x5 : Int32} {x6 : Int32} {x7 : Int32} (h : wp_X0_writeValue_100 rc rec_16 post σ x1 x3 x5 x6 x7) : AW G MX0_writeValue d 0 0 25 (aw_pv (wX0 G) post) 100 [(0, .ref 0), (1, .int x1), (3, .int x3), (5, .int x5), (6, .int x6), (7, .int x7)] [] (wX0 G σ) := by
  unfold wp_X0_writeValue_100 at h
  refine aw_iload 5 dX0_writeValue_100 rfl ?_
  refine aw_istore (lv' := [(4, .int x7), (0, .ref 0), (1, .int x1), (3, .int x3), (5, .int x5), (6, .int x6), (7, .int x7)]) dX0_writeValue_102 (by decide) rfl ?_
  refine aw_iinc 5 (v := (x6 + 1)) (lv' := [(6, .int (x6 + 1)), (4, .int x7), (0, .ref 0), (1, .int x1), (3, .int x3), (5, .int x5), (7, .int x7)]) dX0_writeValue_104 rfl rfl (by decide) rfl ?_
  refine aw_goto 16 dX0_writeValue_107 (by decide) ?_
  refine aw_lvsub (lv' := [(0, .ref 0), (1, .int x1), (3, .int x3), (4, .int x7), (5, .int x5), (6, .int (x6 + 1))]) [2, 3, 4, 1, 5, 0] rfl ?_
  exact hrec_16 (σ, x1, x3, x7, x5, (x6 + 1)) h
def wp_X0_writeValue_62 (rc : Nat → WSX0 → List Int32 → (Int32 → WSX0 → Prop) → Prop) (rec_16 : WSX0 × Int32 × Int32 × Int32 × Int32 × Int32 → Prop) (post : WSX0 → Prop) (σ : WSX0) (x1 : Int32) (x3 : Int32) (x4 : Int32) (x5 : Int32) (x6 : Int32) (s0 : Int32) : Prop :=
  wp_X4_keepTie σ.1.2 s0 x4 (fun τ53 => wp_X0_rightFirst ((σ.1.1, τ53), σ.2) x4 (fun r54 τ55 => ((r54 = 0 → wp_X0_writeValue_100 rc rec_16 post τ55 x1 x3 x5 x6 s0) ∧ (¬ r54 = 0 → rc 0 τ55 [(x4 - (1 : Int32)), x5, (x3 + (1 : Int32))] (fun _ τ57 => wp_X0_writeValue_100 rc rec_16 post τ57 x1 x3 (x5 + 1) x6 s0)))))
theorem aw_X0_writeValue_62 {G : aw_G} {d : Nat} (hd : 4 ≤ d) {dg : Nat} (hdg : dg + 1 ≤ d) {rc : Nat → WSX0 → List Int32 → (Int32 → WSX0 → Prop) → Prop} (hrc : ∀ (k : Nat) (σ : WSX0) (xs : List Int32) (po : Int32 → WSX0 → Prop), rc k σ xs po → AC G (Mg_wv k) dg 0 0 25 (.ref 0 :: xs.map .int) (wX0 G σ) (aw_pv (wX0 G) (fun τ => po 0 τ))) {rec_16 : WSX0 × Int32 × Int32 × Int32 × Int32 × Int32 → Prop} {post : WSX0 → Prop} (hrec_16 : ∀ a : WSX0 × Int32 × Int32 × Int32 × Int32 × Int32, rec_16 a → AW G MX0_writeValue d 0 0 25 (aw_pv (wX0 G) post) 16 [(0, .ref 0), (1, .int a.2.1), (3, .int a.2.2.1), (4, .int a.2.2.2.1), (5, .int a.2.2.2.2.1), (6, .int a.2.2.2.2.2)] [] (wX0 G a.1)) {σ : WSX0} {x1 : Int32} {x3 : Int32} {x4 : Int32} {x5 : Int32} {x6 : Int32} {s0 : Int32} (h : wp_X0_writeValue_62 rc rec_16 post σ x1 x3 x4 x5 x6 s0) : AW G MX0_writeValue d 0 0 25 (aw_pv (wX0 G) post) 62 [(0, .ref 0), (1, .int x1), (3, .int x3), (4, .int x4), (5, .int x5), (6, .int x6)] [.int s0] (wX0 G σ) := by
  unfold wp_X0_writeValue_62 at h
  refine aw_istore (lv' := [(7, .int s0), (0, .ref 0), (1, .int x1), (3, .int x3), (4, .int x4), (5, .int x5), (6, .int x6)]) dX0_writeValue_62 (by decide) rfl ?_
  refine aw_aload_n 1 dX0_writeValue_64 rfl rfl ?_
  refine aw_getf (v := .ref 2) fX0_17 0 rfl rfl dX0_writeValue_65 ?_
  refine aw_iload 0 dX0_writeValue_68 rfl ?_
  refine aw_iload 4 dX0_writeValue_70 rfl ?_
  refine aw_callV (mc1 := 0) (ms1 := 0) (mc := 0) (ms := 0) (st := []) (q := 2) (As := [.int s0, .int x4]) (vsc := [.int s0, .int x4]) lX0_194 insX4_keepTie selX4_keepTie ⟨TX4, 10, rfl⟩ (by omega) (kX4_keepTie (d := 1) (by omega) h) [2, 16, 17, 18, 19, 20, 21, 22, 23, 24] rfl rfl rfl rfl rfl dX0_writeValue_72 rfl rfl (fun _ _ hh => ?_)
  obtain ⟨τ53, rfl, rfl, h⟩ := hh
  refine ⟨(wX0 G ((σ.1.1, τ53), σ.2)), [], rfl, rfl, rfl, ?_⟩
  refine aw_aload_n 1 dX0_writeValue_75 rfl rfl ?_
  refine aw_iload 4 dX0_writeValue_76 rfl ?_
  refine aw_callVT (mc1 := 0) (ms1 := 0) (mc := 0) (ms := 0) (st := []) (q := 0) (As := [.int x4]) lX0_218 insX0_rightFirst selX0_rightFirst ⟨TX0, 12, rfl⟩ (by omega) (kX0_rightFirst (d := 3) (by omega) h) (Nat.le_of_ble_eq_true rfl) rfl rfl rfl dX0_writeValue_78 rfl (fun _ _ hh => ?_)
  obtain ⟨r54, τ55, rfl, rfl, h⟩ := hh
  refine aw_stk (st' := [.int r54]) rfl ?_
  refine aw_if_eq 100 dX0_writeValue_81 (by decide) (fun c58 => ?_) (fun c58 => ?_)
  · have h := h.1 c58
    refine aw_lvsub (lv' := [(0, .ref 0), (1, .int x1), (3, .int x3), (5, .int x5), (6, .int x6), (7, .int s0)]) [1, 2, 3, 5, 6, 0] rfl ?_
    exact aw_X0_writeValue_100 hd hdg hrc hrec_16 h
  · have h := h.2 c58
    refine aw_aload_n 1 dX0_writeValue_84 rfl rfl ?_
    refine aw_iload 4 dX0_writeValue_85 rfl ?_
    refine aw_iconst (v := (1 : Int32)) dX0_writeValue_87 (by decide) ?_
    refine aw_isub dX0_writeValue_88 ?_
    refine aw_iload 5 dX0_writeValue_89 rfl ?_
    refine aw_iload_n 3 dX0_writeValue_91 rfl rfl ?_
    refine aw_iconst (v := (1 : Int32)) dX0_writeValue_92 (by decide) ?_
    refine aw_iadd dX0_writeValue_93 ?_
    refine aw_callVT (mc1 := 0) (ms1 := 0) (mc := 0) (ms := 0) (st := []) (q := 0) (As := [.int (x4 - (1 : Int32)), .int x5, .int (x3 + (1 : Int32))]) lX0_155 insX0_writeValue selX0_writeValue ⟨TX0, 12, rfl⟩ (by omega) (hrc 0 _ [(x4 - (1 : Int32)), x5, (x3 + (1 : Int32))] _ h) (Nat.le_of_ble_eq_true rfl) rfl rfl rfl dX0_writeValue_94 rfl (fun _ _ hh => ?_)
    obtain ⟨τ57, rfl, rfl, h⟩ := hh
    refine aw_stk (st' := []) rfl ?_
    refine aw_iinc 5 (v := (x5 + 1)) (lv' := [(5, .int (x5 + 1)), (7, .int s0), (0, .ref 0), (1, .int x1), (3, .int x3), (4, .int x4), (6, .int x6)]) dX0_writeValue_97 rfl rfl (by decide) rfl ?_
    refine aw_lvsub (lv' := [(0, .ref 0), (1, .int x1), (3, .int x3), (5, .int (x5 + 1)), (6, .int x6), (7, .int s0)]) [2, 3, 4, 0, 6, 1] rfl ?_
    exact aw_X0_writeValue_100 hd hdg hrc hrec_16 h
def wb_X0_writeValue_16 (rc : Nat → WSX0 → List Int32 → (Int32 → WSX0 → Prop) → Prop)  (post : WSX0 → Prop) (rec_16 : WSX0 × Int32 × Int32 × Int32 × Int32 × Int32 → Prop) (σ : WSX0) (x1 : Int32) (x3 : Int32) (x4 : Int32) (x5 : Int32) (x6 : Int32) : Prop :=
  wp_X4_size σ.1.2  (fun r1 τ2 => ((r1 ≤ x6 → wp_X0_writeValue_110 rc  post ((σ.1.1, τ2), σ.2) x1 x3 x4 x5) ∧ (¬ r1 ≤ x6 → wp_X0_isLeaf ((σ.1.1, τ2), σ.2) x4 (fun r48 τ49 => ((¬ r48 = 0 → wp_X0_writeValue_110 rc  post τ49 x1 x3 x4 x5) ∧ (r48 = 0 → wp_X0_isPair τ49 x4 (fun r50 τ51 => ((r50 = 0 → wp_X0_writeValue_62 rc rec_16 post τ51 x1 x3 x4 x5 x6 (x4 - (1 : Int32))) ∧ (¬ r50 = 0 → wp_X4_left τ51.1.2 x4 (fun r59 τ60 => wp_X0_writeValue_62 rc rec_16 post ((τ51.1.1, τ60), τ51.2) x1 x3 x4 x5 x6 r59))))))))))
def wp_X0_writeValue_16 (rc : Nat → WSX0 → List Int32 → (Int32 → WSX0 → Prop) → Prop)  (post : WSX0 → Prop) (n : Nat) (σ : WSX0) (x1 : Int32) (x3 : Int32) (x4 : Int32) (x5 : Int32) (x6 : Int32) : Prop := aw_loop (fun r (a : WSX0 × Int32 × Int32 × Int32 × Int32 × Int32) => wb_X0_writeValue_16 rc  post r a.1 a.2.1 a.2.2.1 a.2.2.2.1 a.2.2.2.2.1 a.2.2.2.2.2) n (σ, x1, x3, x4, x5, x6)
theorem aw_X0_writeValue_16 {G : aw_G} {d : Nat} (hd : 4 ≤ d) {dg : Nat} (hdg : dg + 1 ≤ d) {rc : Nat → WSX0 → List Int32 → (Int32 → WSX0 → Prop) → Prop} (hrc : ∀ (k : Nat) (σ : WSX0) (xs : List Int32) (po : Int32 → WSX0 → Prop), rc k σ xs po → AC G (Mg_wv k) dg 0 0 25 (.ref 0 :: xs.map .int) (wX0 G σ) (aw_pv (wX0 G) (fun τ => po 0 τ))) {post : WSX0 → Prop}  : ∀ (n : Nat) (σ : WSX0) (x1 : Int32) (x3 : Int32) (x4 : Int32) (x5 : Int32) (x6 : Int32), wp_X0_writeValue_16 rc  post n σ x1 x3 x4 x5 x6 → AW G MX0_writeValue d 0 0 25 (aw_pv (wX0 G) post) 16 [(0, .ref 0), (1, .int x1), (3, .int x3), (4, .int x4), (5, .int x5), (6, .int x6)] [] (wX0 G σ) := by
  intro n
  induction n with
  | zero => intro σ x1 x3 x4 x5 x6 h; exact h.elim
  | succ n ih =>
    intro σ x1 x3 x4 x5 x6 h
    have hrec_16 : ∀ a : WSX0 × Int32 × Int32 × Int32 × Int32 × Int32, aw_loop (fun r (a : WSX0 × Int32 × Int32 × Int32 × Int32 × Int32) => wb_X0_writeValue_16 rc  post r a.1 a.2.1 a.2.2.1 a.2.2.2.1 a.2.2.2.2.1 a.2.2.2.2.2) n a → AW G MX0_writeValue d 0 0 25 (aw_pv (wX0 G) post) 16 [(0, .ref 0), (1, .int a.2.1), (3, .int a.2.2.1), (4, .int a.2.2.2.1), (5, .int a.2.2.2.2.1), (6, .int a.2.2.2.2.2)] [] (wX0 G a.1) := fun a h => ih a.1 a.2.1 a.2.2.1 a.2.2.2.1 a.2.2.2.2.1 a.2.2.2.2.2 h
    have h : wb_X0_writeValue_16 rc  post (aw_loop (fun r (a : WSX0 × Int32 × Int32 × Int32 × Int32 × Int32) => wb_X0_writeValue_16 rc  post r a.1 a.2.1 a.2.2.1 a.2.2.2.1 a.2.2.2.2.1 a.2.2.2.2.2) n) σ x1 x3 x4 x5 x6 := h
    unfold wb_X0_writeValue_16 at h
    refine aw_iload 5 dX0_writeValue_16 rfl ?_
    refine aw_aload_n 0 dX0_writeValue_18 rfl rfl ?_
    refine aw_getf (v := .ref 2) fX0_17 0 rfl rfl dX0_writeValue_19 ?_
    refine aw_callV (mc1 := 0) (ms1 := 0) (mc := 0) (ms := 0) (st := [.int x6]) (q := 2) (As := []) (vsc := []) lX0_63 insX4_size selX4_size ⟨TX4, 10, rfl⟩ (by omega) (kX4_size (d := 0) (by omega) h) [2, 16, 17, 18, 19, 20, 21, 22, 23, 24] rfl rfl rfl rfl rfl dX0_writeValue_22 rfl rfl (fun _ _ hh => ?_)
    obtain ⟨r1, τ2, rfl, rfl, h⟩ := hh
    refine ⟨(wX0 G ((σ.1.1, τ2), σ.2)), [.int r1, .int x6], rfl, rfl, rfl, ?_⟩
    refine aw_icmp_ge 110 dX0_writeValue_25 (by decide) (fun c63 => ?_) (fun c63 => ?_)
    · have h := h.1 c63
      refine aw_lvsub (lv' := [(0, .ref 0), (1, .int x1), (3, .int x3), (4, .int x4), (5, .int x5)]) [0, 1, 2, 3, 4] rfl ?_
      exact aw_X0_writeValue_110 hd hdg hrc  h
    · have h := h.2 c63
      refine aw_aload_n 0 dX0_writeValue_28 rfl rfl ?_
      refine aw_iload 3 dX0_writeValue_29 rfl ?_
      refine aw_callVT (mc1 := 0) (ms1 := 0) (mc := 0) (ms := 0) (st := []) (q := 0) (As := [.int x4]) lX0_209 insX0_isLeaf selX0_isLeaf ⟨TX0, 12, rfl⟩ (by omega) (kX0_isLeaf (d := 2) (by omega) h) (Nat.le_of_ble_eq_true rfl) rfl rfl rfl dX0_writeValue_31 rfl (fun _ _ hh => ?_)
      obtain ⟨r48, τ49, rfl, rfl, h⟩ := hh
      refine aw_stk (st' := [.int r48]) rfl ?_
      refine aw_if_ne 110 dX0_writeValue_34 (by decide) (fun c62 => ?_) (fun c62 => ?_)
      · have h := h.1 c62
        refine aw_lvsub (lv' := [(0, .ref 0), (1, .int x1), (3, .int x3), (4, .int x4), (5, .int x5)]) [0, 1, 2, 3, 4] rfl ?_
        exact aw_X0_writeValue_110 hd hdg hrc  h
      · have h := h.2 c62
        refine aw_aload_n 0 dX0_writeValue_37 rfl rfl ?_
        refine aw_iload 3 dX0_writeValue_38 rfl ?_
        refine aw_callVT (mc1 := 0) (ms1 := 0) (mc := 0) (ms := 0) (st := []) (q := 0) (As := [.int x4]) lX0_212 insX0_isPair selX0_isPair ⟨TX0, 12, rfl⟩ (by omega) (kX0_isPair (d := 2) (by omega) h) (Nat.le_of_ble_eq_true rfl) rfl rfl rfl dX0_writeValue_40 rfl (fun _ _ hh => ?_)
        obtain ⟨r50, τ51, rfl, rfl, h⟩ := hh
        refine aw_stk (st' := [.int r50]) rfl ?_
        refine aw_if_eq 58 dX0_writeValue_43 (by decide) (fun c61 => ?_) (fun c61 => ?_)
        · have h := h.1 c61
          refine aw_iload 3 dX0_writeValue_58 rfl ?_
          refine aw_iconst (v := (1 : Int32)) dX0_writeValue_60 (by decide) ?_
          refine aw_isub dX0_writeValue_61 ?_
          exact aw_X0_writeValue_62 hd hdg hrc hrec_16 h
        · have h := h.2 c61
          refine aw_aload_n 0 dX0_writeValue_46 rfl rfl ?_
          refine aw_getf (v := .ref 2) fX0_17 0 rfl rfl dX0_writeValue_47 ?_
          refine aw_iload 3 dX0_writeValue_50 rfl ?_
          refine aw_callV (mc1 := 0) (ms1 := 0) (mc := 0) (ms := 0) (st := []) (q := 2) (As := [.int x4]) (vsc := [.int x4]) lX0_215 insX4_left selX4_left ⟨TX4, 10, rfl⟩ (by omega) (kX4_left (d := 1) (by omega) h) [2, 16, 17, 18, 19, 20, 21, 22, 23, 24] rfl rfl rfl rfl rfl dX0_writeValue_52 rfl rfl (fun _ _ hh => ?_)
          obtain ⟨r59, τ60, rfl, rfl, h⟩ := hh
          refine ⟨(wX0 G ((τ51.1.1, τ60), τ51.2)), [.int r59], rfl, rfl, rfl, ?_⟩
          refine aw_goto 62 dX0_writeValue_55 (by decide) ?_
          exact aw_X0_writeValue_62 hd hdg hrc hrec_16 h
def wp_X0_writeValue (rc : Nat → WSX0 → List Int32 → (Int32 → WSX0 → Prop) → Prop) (σ : WSX0) (a1 : Int32) (a2 : Int32) (a3 : Int32) (post : WSX0 → Prop) : Prop :=
  ((a3 ≤ (120 : Int32) → (∃ n64, wp_X0_writeValue_16 rc  post n64 σ a1 a3 a1 a2 (0 : Int32))) ∧ (¬ a3 ≤ (120 : Int32) → post σ))
theorem kX0_writeValue {G : aw_G} {d : Nat} (hd : 4 ≤ d) {dg : Nat} (hdg : dg + 1 ≤ d) {rc : Nat → WSX0 → List Int32 → (Int32 → WSX0 → Prop) → Prop} (hrc : ∀ (k : Nat) (σ : WSX0) (xs : List Int32) (po : Int32 → WSX0 → Prop), rc k σ xs po → AC G (Mg_wv k) dg 0 0 25 (.ref 0 :: xs.map .int) (wX0 G σ) (aw_pv (wX0 G) (fun τ => po 0 τ))) {σ : WSX0} {a1 : Int32} {a2 : Int32} {a3 : Int32} {post : WSX0 → Prop} (h : wp_X0_writeValue rc σ a1 a2 a3 post) : AC G MX0_writeValue d 0 0 25 [.ref 0, .int a1, .int a2, .int a3] (wX0 G σ) (aw_pv (wX0 G) post) := by
  refine AC.of (lv := [(0, .ref 0), (1, .int a1), (2, .int a2), (3, .int a3)]) (by decide) (Nat.le_of_ble_eq_true rfl) rfl ?_
  unfold wp_X0_writeValue at h
  refine aw_iload_n 3 dX0_writeValue_0 rfl rfl ?_
  refine aw_bipush (v := (120 : Int32)) dX0_writeValue_1 (by decide) ?_
  refine aw_icmp_le 7 dX0_writeValue_3 (by decide) (fun c65 => ?_) (fun c65 => ?_)
  · have h := h.1 c65
    refine aw_iload_n 1 dX0_writeValue_7 rfl rfl ?_
    refine aw_istore (lv' := [(4, .int a1), (0, .ref 0), (1, .int a1), (2, .int a2), (3, .int a3)]) dX0_writeValue_8 (by decide) rfl ?_
    refine aw_iload_n 3 dX0_writeValue_10 rfl rfl ?_
    refine aw_istore (lv' := [(5, .int a2), (4, .int a1), (0, .ref 0), (1, .int a1), (2, .int a2), (3, .int a3)]) dX0_writeValue_11 (by decide) rfl ?_
    refine aw_iconst (v := (0 : Int32)) dX0_writeValue_13 (by decide) ?_
    refine aw_istore (lv' := [(6, .int (0 : Int32)), (5, .int a2), (4, .int a1), (0, .ref 0), (1, .int a1), (2, .int a2), (3, .int a3)]) dX0_writeValue_14 (by decide) rfl ?_
    refine aw_lvsub (lv' := [(0, .ref 0), (1, .int a1), (3, .int a3), (4, .int a1), (5, .int a2), (6, .int (0 : Int32))]) [3, 4, 6, 2, 1, 0] rfl ?_
    obtain ⟨n64, h⟩ := h
    exact aw_X0_writeValue_16 hd hdg hrc  n64 σ a1 a3 a1 a2 (0 : Int32) h
  · have h := h.2 c65
    exact aw_vret rfl dX0_writeValue_6 ⟨σ, rfl, rfl, h⟩
def wg_wv : Nat → Nat → WSX0 → List Int32 → (Int32 → WSX0 → Prop) → Prop
  | 0, _, _, _, _ => False
  | n + 1, k, σ, xs, po => match k, xs with
    | 0, [a0, a1, a2] => wp_X0_writeValue (wg_wv n) σ a0 a1 a2 (po 0)
    | _, _ => False
theorem kg_wv {G : aw_G} : ∀ (n k : Nat) (σ : WSX0) (xs : List Int32) (po : Int32 → WSX0 → Prop), wg_wv n k σ xs po → AC G (Mg_wv k) (4 + n) 0 0 25 (.ref 0 :: xs.map .int) (wX0 G σ) (aw_pv (wX0 G) (fun τ => po 0 τ)) := by
  intro n
  induction n with
  | zero => intro k σ xs po h; exact h.elim
  | succ n ih =>
    intro k σ xs po h
    unfold wg_wv at h
    split at h
    · exact kX0_writeValue (d := 4 + (n + 1)) (by omega) (dg := 4 + n) (by omega) ih h
    · exact h.elim
def wp_X0_writePut_80  (post : WSX0 → Prop) (σ : WSX0) (x2 : Int32) : Prop :=
  wp_X5_toMemory (6 : Int32) (0 : Int32) x2 (fun r7 τ8 => wp_X0_emit σ r7 (fun τ10 => post τ10))
theorem aw_X0_writePut_80 {G : aw_G} {d : Nat} (hd : 4 ≤ d) {post : WSX0 → Prop}  {σ : WSX0} {x2 : Int32} (h : wp_X0_writePut_80  post σ x2) : AW G MX0_writePut d 0 0 25 (aw_pv (wX0 G) post) 80 [(0, .ref 0), (2, .int x2)] [] (wX0 G σ) := by
  unfold wp_X0_writePut_80 at h
  refine aw_aload_n 0 dX0_writePut_80 rfl rfl ?_
  refine aw_bipush (v := (6 : Int32)) dX0_writePut_81 (by decide) ?_
  refine aw_iconst (v := (0 : Int32)) dX0_writePut_83 (by decide) ?_
  refine aw_iload_n 1 dX0_writePut_84 rfl rfl ?_
  refine aw_callST (st := [.ref 0]) (As := [.int (6 : Int32), .int (0 : Int32), .int x2]) lX0_112 sttX5_toMemory (by omega) (kX5_toMemory (d := 0) (by omega) h) rfl rfl rfl dX0_writePut_85 rfl (fun _ _ hh => ?_)
  obtain ⟨r7, τ8, rfl, rfl, h⟩ := hh
  refine ⟨rfl, (fun x hx => by cases hx; rfl), ?_⟩
  refine aw_stk (st' := [.int r7, .ref 0]) rfl ?_
  refine aw_callVT (mc1 := 0) (ms1 := 0) (mc := 0) (ms := 0) (st := []) (q := 0) (As := [.int r7]) lX0_51 insX0_emit selX0_emit ⟨TX0, 12, rfl⟩ (by omega) (kX0_emit (d := 2) (by omega) h) (Nat.le_of_ble_eq_true rfl) rfl rfl rfl dX0_writePut_88 rfl (fun _ _ hh => ?_)
  obtain ⟨τ10, rfl, rfl, h⟩ := hh
  refine aw_stk (st' := []) rfl ?_
  exact aw_vret rfl dX0_writePut_91 ⟨τ10, rfl, rfl, h⟩
def wp_X0_writePut (σ : WSX0) (a1 : Int32) (post : WSX0 → Prop) : Prop :=
  wp_X4_kind σ.1.2 a1 (fun r1 τ2 => ((¬ r1 = (14 : Int32) → wp_X4_value τ2 a1 (fun r3 τ4 => wp_X0_wordPlace ((σ.1.1, τ4), σ.2) r3 (fun r5 τ6 => ((τ6.1.1.2.2.2.2 ≤ 0 → wp_X0_writePut_80  post τ6 r5) ∧ (¬ τ6.1.1.2.2.2.2 ≤ 0 → wp_X5_fromMemory (7 : Int32) (0 : Int32) r5 (fun r11 τ12 => wp_X0_emit τ6 r11 (fun τ14 => wp_X5_jump (1 : Int32) (τ14.1.1.1.2.2 - τ14.1.1.1.1.2) (fun r15 τ16 => wp_X0_emit τ14 r15 (fun τ18 => wp_X0_writePut_80  post τ18 r5))))))))) ∧ (r1 = (14 : Int32) → wp_X0_release ((σ.1.1, τ2), σ.2) (7 : Int32) (fun τ21 => wp_X5_toMemory (6 : Int32) (7 : Int32) (0 : Int32) (fun r22 τ23 => wp_X0_emit τ21 r22 (fun τ25 => post τ25))))))
theorem kX0_writePut {G : aw_G} {d : Nat} (hd : 4 ≤ d) {σ : WSX0} {a1 : Int32} {post : WSX0 → Prop} (h : wp_X0_writePut σ a1 post) : AC G MX0_writePut d 0 0 25 [.ref 0, .int a1] (wX0 G σ) (aw_pv (wX0 G) post) := by
  refine AC.of (lv := [(0, .ref 0), (1, .int a1)]) (by decide) (Nat.le_of_ble_eq_true rfl) rfl ?_
  unfold wp_X0_writePut at h
  refine aw_aload_n 0 dX0_writePut_0 rfl rfl ?_
  refine aw_getf (v := .ref 2) fX0_17 0 rfl rfl dX0_writePut_1 ?_
  refine aw_iload_n 1 dX0_writePut_4 rfl rfl ?_
  refine aw_callV (mc1 := 0) (ms1 := 0) (mc := 0) (ms := 0) (st := []) (q := 2) (As := [.int a1]) (vsc := [.int a1]) lX0_149 insX4_kind selX4_kind ⟨TX4, 10, rfl⟩ (by omega) (kX4_kind (d := 1) (by omega) h) [2, 16, 17, 18, 19, 20, 21, 22, 23, 24] rfl rfl rfl rfl rfl dX0_writePut_5 rfl rfl (fun _ _ hh => ?_)
  obtain ⟨r1, τ2, rfl, rfl, h⟩ := hh
  refine ⟨(wX0 G ((σ.1.1, τ2), σ.2)), [.int r1], rfl, rfl, rfl, ?_⟩
  refine aw_bipush (v := (14 : Int32)) dX0_writePut_8 (by decide) ?_
  refine aw_icmp_ne 32 dX0_writePut_10 (by decide) (fun c26 => ?_) (fun c26 => ?_)
  · have h := h.1 c26
    refine aw_aload_n 0 dX0_writePut_32 rfl rfl ?_
    refine aw_aload_n 0 dX0_writePut_33 rfl rfl ?_
    refine aw_getf (v := .ref 2) fX0_17 0 rfl rfl dX0_writePut_34 ?_
    refine aw_iload_n 1 dX0_writePut_37 rfl rfl ?_
    refine aw_callV (mc1 := 0) (ms1 := 0) (mc := 0) (ms := 0) (st := [.ref 0]) (q := 2) (As := [.int a1]) (vsc := [.int a1]) lX0_158 insX4_value selX4_value ⟨TX4, 10, rfl⟩ (by omega) (kX4_value (d := 1) (by omega) h) [2, 16, 17, 18, 19, 20, 21, 22, 23, 24] rfl rfl rfl rfl rfl dX0_writePut_38 rfl rfl (fun _ _ hh => ?_)
    obtain ⟨r3, τ4, rfl, rfl, h⟩ := hh
    refine ⟨(wX0 G ((σ.1.1, τ4), σ.2)), [.int r3, .ref 0], rfl, rfl, rfl, ?_⟩
    refine aw_callVT (mc1 := 0) (ms1 := 0) (mc := 0) (ms := 0) (st := []) (q := 0) (As := [.int r3]) lX0_123 insX0_wordPlace selX0_wordPlace ⟨TX0, 12, rfl⟩ (by omega) (kX0_wordPlace (d := 2) (by omega) h) (Nat.le_of_ble_eq_true rfl) rfl rfl rfl dX0_writePut_41 rfl (fun _ _ hh => ?_)
    obtain ⟨r5, τ6, rfl, rfl, h⟩ := hh
    refine aw_stk (st' := [.int r5]) rfl ?_
    refine aw_istore_n (lv' := [(2, .int r5), (0, .ref 0), (1, .int a1)]) dX0_writePut_44 rfl (by decide) rfl ?_
    refine aw_aload_n 1 dX0_writePut_45 rfl rfl ?_
    refine aw_getf (v := .int τ6.1.1.2.2.2.2) fX0_42 0 rfl rfl dX0_writePut_46 ?_
    refine aw_if_le 80 dX0_writePut_49 (by decide) (fun c19 => ?_) (fun c19 => ?_)
    · have h := h.1 c19
      refine aw_lvsub (lv' := [(0, .ref 0), (2, .int r5)]) [1, 0] rfl ?_
      exact aw_X0_writePut_80 hd  h
    · have h := h.2 c19
      refine aw_aload_n 1 dX0_writePut_52 rfl rfl ?_
      refine aw_bipush (v := (7 : Int32)) dX0_writePut_53 (by decide) ?_
      refine aw_iconst (v := (0 : Int32)) dX0_writePut_55 (by decide) ?_
      refine aw_iload_n 0 dX0_writePut_56 rfl rfl ?_
      refine aw_callST (st := [.ref 0]) (As := [.int (7 : Int32), .int (0 : Int32), .int r5]) lX0_127 sttX5_fromMemory (by omega) (kX5_fromMemory (d := 0) (by omega) h) rfl rfl rfl dX0_writePut_57 rfl (fun _ _ hh => ?_)
      obtain ⟨r11, τ12, rfl, rfl, h⟩ := hh
      refine ⟨rfl, (fun x hx => by cases hx; rfl), ?_⟩
      refine aw_stk (st' := [.int r11, .ref 0]) rfl ?_
      refine aw_callVT (mc1 := 0) (ms1 := 0) (mc := 0) (ms := 0) (st := []) (q := 0) (As := [.int r11]) lX0_51 insX0_emit selX0_emit ⟨TX0, 12, rfl⟩ (by omega) (kX0_emit (d := 2) (by omega) h) (Nat.le_of_ble_eq_true rfl) rfl rfl rfl dX0_writePut_60 rfl (fun _ _ hh => ?_)
      obtain ⟨τ14, rfl, rfl, h⟩ := hh
      refine aw_stk (st' := []) rfl ?_
      refine aw_aload_n 1 dX0_writePut_63 rfl rfl ?_
      refine aw_iconst (v := (1 : Int32)) dX0_writePut_64 (by decide) ?_
      refine aw_aload_n 1 dX0_writePut_65 rfl rfl ?_
      refine aw_getf (v := .int τ14.1.1.1.2.2) fX0_102 0 rfl rfl dX0_writePut_66 ?_
      refine aw_aload_n 1 dX0_writePut_69 rfl rfl ?_
      refine aw_getf (v := .int τ14.1.1.1.1.2) fX0_35 0 rfl rfl dX0_writePut_70 ?_
      refine aw_isub dX0_writePut_73 ?_
      refine aw_callST (st := [.ref 0]) (As := [.int (1 : Int32), .int (τ14.1.1.1.2.2 - τ14.1.1.1.1.2)]) lX0_79 sttX5_jump (by omega) (kX5_jump (d := 0) (by omega) h) rfl rfl rfl dX0_writePut_74 rfl (fun _ _ hh => ?_)
      obtain ⟨r15, τ16, rfl, rfl, h⟩ := hh
      refine ⟨rfl, (fun x hx => by cases hx; rfl), ?_⟩
      refine aw_stk (st' := [.int r15, .ref 0]) rfl ?_
      refine aw_callVT (mc1 := 0) (ms1 := 0) (mc := 0) (ms := 0) (st := []) (q := 0) (As := [.int r15]) lX0_51 insX0_emit selX0_emit ⟨TX0, 12, rfl⟩ (by omega) (kX0_emit (d := 2) (by omega) h) (Nat.le_of_ble_eq_true rfl) rfl rfl rfl dX0_writePut_77 rfl (fun _ _ hh => ?_)
      obtain ⟨τ18, rfl, rfl, h⟩ := hh
      refine aw_stk (st' := []) rfl ?_
      refine aw_lvsub (lv' := [(0, .ref 0), (2, .int r5)]) [1, 0] rfl ?_
      exact aw_X0_writePut_80 hd  h
  · have h := h.2 c26
    refine aw_aload_n 0 dX0_writePut_13 rfl rfl ?_
    refine aw_bipush (v := (7 : Int32)) dX0_writePut_14 (by decide) ?_
    refine aw_callVT (mc1 := 0) (ms1 := 0) (mc := 0) (ms := 0) (st := []) (q := 0) (As := [.int (7 : Int32)]) lX0_188 insX0_release selX0_release ⟨TX0, 12, rfl⟩ (by omega) (kX0_release (d := 3) (by omega) h) (Nat.le_of_ble_eq_true rfl) rfl rfl rfl dX0_writePut_16 rfl (fun _ _ hh => ?_)
    obtain ⟨τ21, rfl, rfl, h⟩ := hh
    refine aw_stk (st' := []) rfl ?_
    refine aw_aload_n 0 dX0_writePut_19 rfl rfl ?_
    refine aw_bipush (v := (6 : Int32)) dX0_writePut_20 (by decide) ?_
    refine aw_bipush (v := (7 : Int32)) dX0_writePut_22 (by decide) ?_
    refine aw_iconst (v := (0 : Int32)) dX0_writePut_24 (by decide) ?_
    refine aw_callST (st := [.ref 0]) (As := [.int (6 : Int32), .int (7 : Int32), .int (0 : Int32)]) lX0_112 sttX5_toMemory (by omega) (kX5_toMemory (d := 0) (by omega) h) rfl rfl rfl dX0_writePut_25 rfl (fun _ _ hh => ?_)
    obtain ⟨r22, τ23, rfl, rfl, h⟩ := hh
    refine ⟨rfl, (fun x hx => by cases hx; rfl), ?_⟩
    refine aw_stk (st' := [.int r22, .ref 0]) rfl ?_
    refine aw_callVT (mc1 := 0) (ms1 := 0) (mc := 0) (ms := 0) (st := []) (q := 0) (As := [.int r22]) lX0_51 insX0_emit selX0_emit ⟨TX0, 12, rfl⟩ (by omega) (kX0_emit (d := 2) (by omega) h) (Nat.le_of_ble_eq_true rfl) rfl rfl rfl dX0_writePut_28 rfl (fun _ _ hh => ?_)
    obtain ⟨τ25, rfl, rfl, h⟩ := hh
    refine aw_stk (st' := []) rfl ?_
    exact aw_vret rfl dX0_writePut_31 ⟨τ25, rfl, rfl, h⟩
def wp_X0_writeOpenJump (σ : WSX0) (a1 : Int32) (post : WSX0 → Prop) : Prop :=
  wp_X5_branchIfNotEqual (6 : Int32) (0 : Int32) (8 : Int32) (fun r1 τ2 => wp_X0_emit σ r1 (fun τ4 => wp_X4_keepTie τ4.1.2 a1 τ4.1.1.1.1.2 (fun τ6 => wp_X0_emit ((τ4.1.1, τ6), τ4.2) (0 : Int32) (fun τ8 => post τ8))))
theorem kX0_writeOpenJump {G : aw_G} {d : Nat} (hd : 3 ≤ d) {σ : WSX0} {a1 : Int32} {post : WSX0 → Prop} (h : wp_X0_writeOpenJump σ a1 post) : AC G MX0_writeOpenJump d 0 0 25 [.ref 0, .int a1] (wX0 G σ) (aw_pv (wX0 G) post) := by
  refine AC.of (lv := [(0, .ref 0), (1, .int a1)]) (by decide) (Nat.le_of_ble_eq_true rfl) rfl ?_
  unfold wp_X0_writeOpenJump at h
  refine aw_aload_n 0 dX0_writeOpenJump_0 rfl rfl ?_
  refine aw_bipush (v := (6 : Int32)) dX0_writeOpenJump_1 (by decide) ?_
  refine aw_iconst (v := (0 : Int32)) dX0_writeOpenJump_3 (by decide) ?_
  refine aw_bipush (v := (8 : Int32)) dX0_writeOpenJump_4 (by decide) ?_
  refine aw_callST (st := [.ref 0]) (As := [.int (6 : Int32), .int (0 : Int32), .int (8 : Int32)]) lX0_191 sttX5_branchIfNotEqual (by omega) (kX5_branchIfNotEqual (d := 1) (by omega) h) rfl rfl rfl dX0_writeOpenJump_6 rfl (fun _ _ hh => ?_)
  obtain ⟨r1, τ2, rfl, rfl, h⟩ := hh
  refine ⟨rfl, (fun x hx => by cases hx; rfl), ?_⟩
  refine aw_stk (st' := [.int r1, .ref 0]) rfl ?_
  refine aw_callVT (mc1 := 0) (ms1 := 0) (mc := 0) (ms := 0) (st := []) (q := 0) (As := [.int r1]) lX0_51 insX0_emit selX0_emit ⟨TX0, 12, rfl⟩ (by omega) (kX0_emit (d := 2) (by omega) h) (Nat.le_of_ble_eq_true rfl) rfl rfl rfl dX0_writeOpenJump_9 rfl (fun _ _ hh => ?_)
  obtain ⟨τ4, rfl, rfl, h⟩ := hh
  refine aw_stk (st' := []) rfl ?_
  refine aw_aload_n 0 dX0_writeOpenJump_12 rfl rfl ?_
  refine aw_getf (v := .ref 2) fX0_17 0 rfl rfl dX0_writeOpenJump_13 ?_
  refine aw_iload_n 1 dX0_writeOpenJump_16 rfl rfl ?_
  refine aw_aload_n 0 dX0_writeOpenJump_17 rfl rfl ?_
  refine aw_getf (v := .int τ4.1.1.1.1.2) fX0_35 0 rfl rfl dX0_writeOpenJump_18 ?_
  refine aw_callV (mc1 := 0) (ms1 := 0) (mc := 0) (ms := 0) (st := []) (q := 2) (As := [.int a1, .int τ4.1.1.1.1.2]) (vsc := [.int a1, .int τ4.1.1.1.1.2]) lX0_194 insX4_keepTie selX4_keepTie ⟨TX4, 10, rfl⟩ (by omega) (kX4_keepTie (d := 1) (by omega) h) [2, 16, 17, 18, 19, 20, 21, 22, 23, 24] rfl rfl rfl rfl rfl dX0_writeOpenJump_21 rfl rfl (fun _ _ hh => ?_)
  obtain ⟨τ6, rfl, rfl, h⟩ := hh
  refine ⟨(wX0 G ((τ4.1.1, τ6), τ4.2)), [], rfl, rfl, rfl, ?_⟩
  refine aw_aload_n 0 dX0_writeOpenJump_24 rfl rfl ?_
  refine aw_iconst (v := (0 : Int32)) dX0_writeOpenJump_25 (by decide) ?_
  refine aw_callVT (mc1 := 0) (ms1 := 0) (mc := 0) (ms := 0) (st := []) (q := 0) (As := [.int (0 : Int32)]) lX0_51 insX0_emit selX0_emit ⟨TX0, 12, rfl⟩ (by omega) (kX0_emit (d := 2) (by omega) h) (Nat.le_of_ble_eq_true rfl) rfl rfl rfl dX0_writeOpenJump_26 rfl (fun _ _ hh => ?_)
  obtain ⟨τ8, rfl, rfl, h⟩ := hh
  refine aw_stk (st' := []) rfl ?_
  exact aw_vret rfl dX0_writeOpenJump_29 ⟨τ8, rfl, rfl, h⟩
def wp_X0_writeEndOfWhile (σ : WSX0) (a1 : Int32) (post : WSX0 → Prop) : Prop :=
  wp_X4_value σ.1.2 a1 (fun r1 τ2 => wp_X4_back τ2 r1 (fun r3 τ4 => (∀ y5 : Int32, y5 = (r3 - (4 : Int32)) → wp_X5_jump (0 : Int32) (y5 - σ.1.1.1.1.2) (fun r6 τ7 => wp_X0_emit ((σ.1.1, τ4), σ.2) r6 (fun τ9 => wp_X4_tie τ9.1.2 a1 (fun r10 τ11 => wp_X0_closeJump ((τ9.1.1, τ11), τ9.2) r10 (fun τ13 => post τ13)))))))
theorem kX0_writeEndOfWhile {G : aw_G} {d : Nat} (hd : 3 ≤ d) {σ : WSX0} {a1 : Int32} {post : WSX0 → Prop} (h : wp_X0_writeEndOfWhile σ a1 post) : AC G MX0_writeEndOfWhile d 0 0 25 [.ref 0, .int a1] (wX0 G σ) (aw_pv (wX0 G) post) := by
  refine AC.of (lv := [(0, .ref 0), (1, .int a1)]) (by decide) (Nat.le_of_ble_eq_true rfl) rfl ?_
  unfold wp_X0_writeEndOfWhile at h
  refine aw_aload_n 0 dX0_writeEndOfWhile_0 rfl rfl ?_
  refine aw_getf (v := .ref 2) fX0_17 0 rfl rfl dX0_writeEndOfWhile_1 ?_
  refine aw_aload_n 0 dX0_writeEndOfWhile_4 rfl rfl ?_
  refine aw_getf (v := .ref 2) fX0_17 0 rfl rfl dX0_writeEndOfWhile_5 ?_
  refine aw_iload_n 1 dX0_writeEndOfWhile_8 rfl rfl ?_
  refine aw_callV (mc1 := 0) (ms1 := 0) (mc := 0) (ms := 0) (st := [.ref 2]) (q := 2) (As := [.int a1]) (vsc := [.int a1]) lX0_158 insX4_value selX4_value ⟨TX4, 10, rfl⟩ (by omega) (kX4_value (d := 1) (by omega) h) [2, 16, 17, 18, 19, 20, 21, 22, 23, 24] rfl rfl rfl rfl rfl dX0_writeEndOfWhile_9 rfl rfl (fun _ _ hh => ?_)
  obtain ⟨r1, τ2, rfl, rfl, h⟩ := hh
  refine ⟨(wX0 G ((σ.1.1, τ2), σ.2)), [.int r1, .ref 2], rfl, rfl, rfl, ?_⟩
  refine aw_callV (mc1 := 0) (ms1 := 0) (mc := 0) (ms := 0) (st := []) (q := 2) (As := [.int r1]) (vsc := [.int r1]) lX0_206 insX4_back selX4_back ⟨TX4, 10, rfl⟩ (by omega) (kX4_back (d := 1) (by omega) h) [2, 16, 17, 18, 19, 20, 21, 22, 23, 24] rfl rfl rfl rfl rfl dX0_writeEndOfWhile_12 rfl rfl (fun _ _ hh => ?_)
  obtain ⟨r3, τ4, rfl, rfl, h⟩ := hh
  refine ⟨(wX0 G ((σ.1.1, τ4), σ.2)), [.int r3], rfl, rfl, rfl, ?_⟩
  refine aw_iconst (v := (4 : Int32)) dX0_writeEndOfWhile_15 (by decide) ?_
  refine aw_isub dX0_writeEndOfWhile_16 ?_
  refine aw_topi (fun y5 ey5 => ?_)
  have h := h y5 ey5
  refine aw_istore_n (lv' := [(2, .int y5), (0, .ref 0), (1, .int a1)]) dX0_writeEndOfWhile_17 rfl (by decide) rfl ?_
  refine aw_aload_n 1 dX0_writeEndOfWhile_18 rfl rfl ?_
  refine aw_iconst (v := (0 : Int32)) dX0_writeEndOfWhile_19 (by decide) ?_
  refine aw_iload_n 0 dX0_writeEndOfWhile_20 rfl rfl ?_
  refine aw_aload_n 1 dX0_writeEndOfWhile_21 rfl rfl ?_
  refine aw_getf (v := .int σ.1.1.1.1.2) fX0_35 0 rfl rfl dX0_writeEndOfWhile_22 ?_
  refine aw_isub dX0_writeEndOfWhile_25 ?_
  refine aw_callST (st := [.ref 0]) (As := [.int (0 : Int32), .int (y5 - σ.1.1.1.1.2)]) lX0_79 sttX5_jump (by omega) (kX5_jump (d := 0) (by omega) h) rfl rfl rfl dX0_writeEndOfWhile_26 rfl (fun _ _ hh => ?_)
  obtain ⟨r6, τ7, rfl, rfl, h⟩ := hh
  refine ⟨rfl, (fun x hx => by cases hx; rfl), ?_⟩
  refine aw_stk (st' := [.int r6, .ref 0]) rfl ?_
  refine aw_callVT (mc1 := 0) (ms1 := 0) (mc := 0) (ms := 0) (st := []) (q := 0) (As := [.int r6]) lX0_51 insX0_emit selX0_emit ⟨TX0, 12, rfl⟩ (by omega) (kX0_emit (d := 2) (by omega) h) (Nat.le_of_ble_eq_true rfl) rfl rfl rfl dX0_writeEndOfWhile_29 rfl (fun _ _ hh => ?_)
  obtain ⟨τ9, rfl, rfl, h⟩ := hh
  refine aw_stk (st' := []) rfl ?_
  refine aw_aload_n 1 dX0_writeEndOfWhile_32 rfl rfl ?_
  refine aw_aload_n 1 dX0_writeEndOfWhile_33 rfl rfl ?_
  refine aw_getf (v := .ref 2) fX0_17 0 rfl rfl dX0_writeEndOfWhile_34 ?_
  refine aw_iload_n 2 dX0_writeEndOfWhile_37 rfl rfl ?_
  refine aw_callV (mc1 := 0) (ms1 := 0) (mc := 0) (ms := 0) (st := [.ref 0]) (q := 2) (As := [.int a1]) (vsc := [.int a1]) lX0_203 insX4_tie selX4_tie ⟨TX4, 10, rfl⟩ (by omega) (kX4_tie (d := 1) (by omega) h) [2, 16, 17, 18, 19, 20, 21, 22, 23, 24] rfl rfl rfl rfl rfl dX0_writeEndOfWhile_38 rfl rfl (fun _ _ hh => ?_)
  obtain ⟨r10, τ11, rfl, rfl, h⟩ := hh
  refine ⟨(wX0 G ((τ9.1.1, τ11), τ9.2)), [.int r10, .ref 0], rfl, rfl, rfl, ?_⟩
  refine aw_callVT (mc1 := 0) (ms1 := 0) (mc := 0) (ms := 0) (st := []) (q := 0) (As := [.int r10]) lX0_60 insX0_closeJump selX0_closeJump ⟨TX0, 12, rfl⟩ (by omega) (kX0_closeJump (d := 2) (by omega) h) (Nat.le_of_ble_eq_true rfl) rfl rfl rfl dX0_writeEndOfWhile_41 rfl (fun _ _ hh => ?_)
  obtain ⟨τ13, rfl, rfl, h⟩ := hh
  refine aw_stk (st' := []) rfl ?_
  exact aw_vret rfl dX0_writeEndOfWhile_44 ⟨τ13, rfl, rfl, h⟩
def wp_X0_writeThen (σ : WSX0) (a1 : Int32) (post : WSX0 → Prop) : Prop :=
  wp_X4_secret σ.1.2 a1 (fun r1 τ2 => ((¬ r1 = 0 → (∀ y3 : Int32, y3 = (σ.1.1.2.2.2.2 + (1 : Int32)) → wp_X0_hold (((σ.1.1.1, (σ.1.1.2.1, (σ.1.1.2.2.1, (σ.1.1.2.2.2.1, y3)))), τ2), σ.2) (3 : Int32) (fun τ5 => wp_X5_isBelow (6 : Int32) (6 : Int32) (1 : Int32) (fun r6 τ7 => wp_X0_emit τ5 r6 (fun τ9 => wp_X5_add (6 : Int32) (6 : Int32) ((-1) : Int32) (fun r10 τ11 => wp_X0_emit τ9 r10 (fun τ13 => wp_X5_join (38 : Int32) (3 : Int32) (3 : Int32) (6 : Int32) (fun r14 τ15 => wp_X0_emit τ13 r14 (fun τ17 => post τ17))))))))) ∧ (r1 = 0 → wp_X0_writeOpenJump ((σ.1.1, τ2), σ.2) a1 (fun τ19 => post τ19))))
theorem kX0_writeThen {G : aw_G} {d : Nat} (hd : 4 ≤ d) {σ : WSX0} {a1 : Int32} {post : WSX0 → Prop} (h : wp_X0_writeThen σ a1 post) : AC G MX0_writeThen d 0 0 25 [.ref 0, .int a1] (wX0 G σ) (aw_pv (wX0 G) post) := by
  refine AC.of (lv := [(0, .ref 0), (1, .int a1)]) (by decide) (Nat.le_of_ble_eq_true rfl) rfl ?_
  unfold wp_X0_writeThen at h
  refine aw_aload_n 0 dX0_writeThen_0 rfl rfl ?_
  refine aw_getf (v := .ref 2) fX0_17 0 rfl rfl dX0_writeThen_1 ?_
  refine aw_iload_n 1 dX0_writeThen_4 rfl rfl ?_
  refine aw_callV (mc1 := 0) (ms1 := 0) (mc := 0) (ms := 0) (st := []) (q := 2) (As := [.int a1]) (vsc := [.int a1]) lX0_197 insX4_secret selX4_secret ⟨TX4, 10, rfl⟩ (by omega) (kX4_secret (d := 1) (by omega) h) [2, 16, 17, 18, 19, 20, 21, 22, 23, 24] rfl rfl rfl rfl rfl dX0_writeThen_5 rfl rfl (fun _ _ hh => ?_)
  obtain ⟨r1, τ2, rfl, rfl, h⟩ := hh
  refine ⟨(wX0 G ((σ.1.1, τ2), σ.2)), [.int r1], rfl, rfl, rfl, ?_⟩
  refine aw_if_ne 17 dX0_writeThen_8 (by decide) (fun c20 => ?_) (fun c20 => ?_)
  · have h := h.1 c20
    refine aw_aload_n 0 dX0_writeThen_17 rfl rfl ?_
    refine aw_dup dX0_writeThen_18 rfl ?_
    refine aw_getf (v := .int σ.1.1.2.2.2.2) fX0_42 0 rfl rfl dX0_writeThen_19 ?_
    refine aw_iconst (v := (1 : Int32)) dX0_writeThen_22 (by decide) ?_
    refine aw_iadd dX0_writeThen_23 ?_
    refine aw_topi (fun y3 ey3 => ?_)
    have h := h y3 ey3
    refine aw_putf fX0_42 0 (w' := (wX0 G (((σ.1.1.1, (σ.1.1.2.1, (σ.1.1.2.2.1, (σ.1.1.2.2.2.1, y3)))), τ2), σ.2))) rfl (fun _ => ⟨rfl, rfl⟩) (Nat.le_of_ble_eq_true rfl) rfl dX0_writeThen_24 ?_
    refine aw_aload_n 0 dX0_writeThen_27 rfl rfl ?_
    refine aw_iconst (v := (3 : Int32)) dX0_writeThen_28 (by decide) ?_
    refine aw_callVT (mc1 := 0) (ms1 := 0) (mc := 0) (ms := 0) (st := []) (q := 0) (As := [.int (3 : Int32)]) lX0_167 insX0_hold selX0_hold ⟨TX0, 12, rfl⟩ (by omega) (kX0_hold (d := 3) (by omega) h) (Nat.le_of_ble_eq_true rfl) rfl rfl rfl dX0_writeThen_29 rfl (fun _ _ hh => ?_)
    obtain ⟨τ5, rfl, rfl, h⟩ := hh
    refine aw_stk (st' := []) rfl ?_
    refine aw_aload_n 0 dX0_writeThen_32 rfl rfl ?_
    refine aw_bipush (v := (6 : Int32)) dX0_writeThen_33 (by decide) ?_
    refine aw_bipush (v := (6 : Int32)) dX0_writeThen_35 (by decide) ?_
    refine aw_iconst (v := (1 : Int32)) dX0_writeThen_37 (by decide) ?_
    refine aw_callST (st := [.ref 0]) (As := [.int (6 : Int32), .int (6 : Int32), .int (1 : Int32)]) lX0_140 sttX5_isBelow (by omega) (kX5_isBelow (d := 1) (by omega) h) rfl rfl rfl dX0_writeThen_38 rfl (fun _ _ hh => ?_)
    obtain ⟨r6, τ7, rfl, rfl, h⟩ := hh
    refine ⟨rfl, (fun x hx => by cases hx; rfl), ?_⟩
    refine aw_stk (st' := [.int r6, .ref 0]) rfl ?_
    refine aw_callVT (mc1 := 0) (ms1 := 0) (mc := 0) (ms := 0) (st := []) (q := 0) (As := [.int r6]) lX0_51 insX0_emit selX0_emit ⟨TX0, 12, rfl⟩ (by omega) (kX0_emit (d := 2) (by omega) h) (Nat.le_of_ble_eq_true rfl) rfl rfl rfl dX0_writeThen_41 rfl (fun _ _ hh => ?_)
    obtain ⟨τ9, rfl, rfl, h⟩ := hh
    refine aw_stk (st' := []) rfl ?_
    refine aw_aload_n 0 dX0_writeThen_44 rfl rfl ?_
    refine aw_bipush (v := (6 : Int32)) dX0_writeThen_45 (by decide) ?_
    refine aw_bipush (v := (6 : Int32)) dX0_writeThen_47 (by decide) ?_
    refine aw_iconst (v := ((-1) : Int32)) dX0_writeThen_49 (by decide) ?_
    refine aw_callST (st := [.ref 0]) (As := [.int (6 : Int32), .int (6 : Int32), .int ((-1) : Int32)]) lX0_45 sttX5_add (by omega) (kX5_add (d := 1) (by omega) h) rfl rfl rfl dX0_writeThen_50 rfl (fun _ _ hh => ?_)
    obtain ⟨r10, τ11, rfl, rfl, h⟩ := hh
    refine ⟨rfl, (fun x hx => by cases hx; rfl), ?_⟩
    refine aw_stk (st' := [.int r10, .ref 0]) rfl ?_
    refine aw_callVT (mc1 := 0) (ms1 := 0) (mc := 0) (ms := 0) (st := []) (q := 0) (As := [.int r10]) lX0_51 insX0_emit selX0_emit ⟨TX0, 12, rfl⟩ (by omega) (kX0_emit (d := 2) (by omega) h) (Nat.le_of_ble_eq_true rfl) rfl rfl rfl dX0_writeThen_53 rfl (fun _ _ hh => ?_)
    obtain ⟨τ13, rfl, rfl, h⟩ := hh
    refine aw_stk (st' := []) rfl ?_
    refine aw_aload_n 0 dX0_writeThen_56 rfl rfl ?_
    refine aw_bipush (v := (38 : Int32)) dX0_writeThen_57 (by decide) ?_
    refine aw_iconst (v := (3 : Int32)) dX0_writeThen_59 (by decide) ?_
    refine aw_iconst (v := (3 : Int32)) dX0_writeThen_60 (by decide) ?_
    refine aw_bipush (v := (6 : Int32)) dX0_writeThen_61 (by decide) ?_
    refine aw_callST (st := [.ref 0]) (As := [.int (38 : Int32), .int (3 : Int32), .int (3 : Int32), .int (6 : Int32)]) lX0_105 sttX5_join (by omega) (kX5_join (d := 1) (by omega) h) rfl rfl rfl dX0_writeThen_63 rfl (fun _ _ hh => ?_)
    obtain ⟨r14, τ15, rfl, rfl, h⟩ := hh
    refine ⟨rfl, (fun x hx => by cases hx; rfl), ?_⟩
    refine aw_stk (st' := [.int r14, .ref 0]) rfl ?_
    refine aw_callVT (mc1 := 0) (ms1 := 0) (mc := 0) (ms := 0) (st := []) (q := 0) (As := [.int r14]) lX0_51 insX0_emit selX0_emit ⟨TX0, 12, rfl⟩ (by omega) (kX0_emit (d := 2) (by omega) h) (Nat.le_of_ble_eq_true rfl) rfl rfl rfl dX0_writeThen_66 rfl (fun _ _ hh => ?_)
    obtain ⟨τ17, rfl, rfl, h⟩ := hh
    refine aw_stk (st' := []) rfl ?_
    exact aw_vret rfl dX0_writeThen_69 ⟨τ17, rfl, rfl, h⟩
  · have h := h.2 c20
    refine aw_aload_n 0 dX0_writeThen_11 rfl rfl ?_
    refine aw_iload_n 1 dX0_writeThen_12 rfl rfl ?_
    refine aw_callVT (mc1 := 0) (ms1 := 0) (mc := 0) (ms := 0) (st := []) (q := 0) (As := [.int a1]) lX0_173 insX0_writeOpenJump selX0_writeOpenJump ⟨TX0, 12, rfl⟩ (by omega) (kX0_writeOpenJump (d := 3) (by omega) h) (Nat.le_of_ble_eq_true rfl) rfl rfl rfl dX0_writeThen_13 rfl (fun _ _ hh => ?_)
    obtain ⟨τ19, rfl, rfl, h⟩ := hh
    refine aw_stk (st' := []) rfl ?_
    exact aw_vret rfl dX0_writeThen_16 ⟨τ19, rfl, rfl, h⟩
def wp_X0_lookAtHeld (σ : WSX0) (a1 : Int32) (post : WSX0 → Prop) : Prop :=
  wp_X5_fromMemory a1 (0 : Int32) ((1200 : Int32) + ((σ.1.1.2.2.2.1 - (1 : Int32)) * (4 : Int32))) (fun r1 τ2 => wp_X0_emit σ r1 (fun τ4 => post τ4))
theorem kX0_lookAtHeld {G : aw_G} {d : Nat} (hd : 3 ≤ d) {σ : WSX0} {a1 : Int32} {post : WSX0 → Prop} (h : wp_X0_lookAtHeld σ a1 post) : AC G MX0_lookAtHeld d 0 0 25 [.ref 0, .int a1] (wX0 G σ) (aw_pv (wX0 G) post) := by
  refine AC.of (lv := [(0, .ref 0), (1, .int a1)]) (by decide) (Nat.le_of_ble_eq_true rfl) rfl ?_
  unfold wp_X0_lookAtHeld at h
  refine aw_aload_n 0 dX0_lookAtHeld_0 rfl rfl ?_
  refine aw_iload_n 1 dX0_lookAtHeld_1 rfl rfl ?_
  refine aw_iconst (v := (0 : Int32)) dX0_lookAtHeld_2 (by decide) ?_
  refine aw_sipush (v := (1200 : Int32)) dX0_lookAtHeld_3 (by decide) ?_
  refine aw_aload_n 0 dX0_lookAtHeld_6 rfl rfl ?_
  refine aw_getf (v := .int σ.1.1.2.2.2.1) fX0_39 0 rfl rfl dX0_lookAtHeld_7 ?_
  refine aw_iconst (v := (1 : Int32)) dX0_lookAtHeld_10 (by decide) ?_
  refine aw_isub dX0_lookAtHeld_11 ?_
  refine aw_iconst (v := (4 : Int32)) dX0_lookAtHeld_12 (by decide) ?_
  refine aw_imul dX0_lookAtHeld_13 ?_
  refine aw_iadd dX0_lookAtHeld_14 ?_
  refine aw_callST (st := [.ref 0]) (As := [.int a1, .int (0 : Int32), .int ((1200 : Int32) + ((σ.1.1.2.2.2.1 - (1 : Int32)) * (4 : Int32)))]) lX0_127 sttX5_fromMemory (by omega) (kX5_fromMemory (d := 0) (by omega) h) rfl rfl rfl dX0_lookAtHeld_15 rfl (fun _ _ hh => ?_)
  obtain ⟨r1, τ2, rfl, rfl, h⟩ := hh
  refine ⟨rfl, (fun x hx => by cases hx; rfl), ?_⟩
  refine aw_stk (st' := [.int r1, .ref 0]) rfl ?_
  refine aw_callVT (mc1 := 0) (ms1 := 0) (mc := 0) (ms := 0) (st := []) (q := 0) (As := [.int r1]) lX0_51 insX0_emit selX0_emit ⟨TX0, 12, rfl⟩ (by omega) (kX0_emit (d := 2) (by omega) h) (Nat.le_of_ble_eq_true rfl) rfl rfl rfl dX0_lookAtHeld_18 rfl (fun _ _ hh => ?_)
  obtain ⟨τ4, rfl, rfl, h⟩ := hh
  refine aw_stk (st' := []) rfl ?_
  exact aw_vret rfl dX0_lookAtHeld_21 ⟨τ4, rfl, rfl, h⟩
def wp_X0_writeElse (σ : WSX0) (a1 : Int32) (a2 : Int32) (post : WSX0 → Prop) : Prop :=
  wp_X4_secret σ.1.2 a2 (fun r1 τ2 => ((r1 = 0 → wp_X4_keepTie τ2 a1 σ.1.1.1.1.2 (fun τ4 => wp_X0_emit ((σ.1.1, τ4), σ.2) (0 : Int32) (fun τ6 => wp_X4_tie τ6.1.2 a2 (fun r7 τ8 => wp_X0_closeJump ((τ6.1.1, τ8), τ6.2) r7 (fun τ10 => post τ10))))) ∧ (¬ r1 = 0 → wp_X0_lookAtHeld ((σ.1.1, τ2), σ.2) (5 : Int32) (fun τ12 => wp_X5_join (94 : Int32) (3 : Int32) (3 : Int32) (5 : Int32) (fun r13 τ14 => wp_X0_emit τ12 r13 (fun τ16 => post τ16))))))
theorem kX0_writeElse {G : aw_G} {d : Nat} (hd : 4 ≤ d) {σ : WSX0} {a1 : Int32} {a2 : Int32} {post : WSX0 → Prop} (h : wp_X0_writeElse σ a1 a2 post) : AC G MX0_writeElse d 0 0 25 [.ref 0, .int a1, .int a2] (wX0 G σ) (aw_pv (wX0 G) post) := by
  refine AC.of (lv := [(0, .ref 0), (1, .int a1), (2, .int a2)]) (by decide) (Nat.le_of_ble_eq_true rfl) rfl ?_
  unfold wp_X0_writeElse at h
  refine aw_aload_n 0 dX0_writeElse_0 rfl rfl ?_
  refine aw_getf (v := .ref 2) fX0_17 0 rfl rfl dX0_writeElse_1 ?_
  refine aw_iload_n 2 dX0_writeElse_4 rfl rfl ?_
  refine aw_callV (mc1 := 0) (ms1 := 0) (mc := 0) (ms := 0) (st := []) (q := 2) (As := [.int a2]) (vsc := [.int a2]) lX0_197 insX4_secret selX4_secret ⟨TX4, 10, rfl⟩ (by omega) (kX4_secret (d := 1) (by omega) h) [2, 16, 17, 18, 19, 20, 21, 22, 23, 24] rfl rfl rfl rfl rfl dX0_writeElse_5 rfl rfl (fun _ _ hh => ?_)
  obtain ⟨r1, τ2, rfl, rfl, h⟩ := hh
  refine ⟨(wX0 G ((σ.1.1, τ2), σ.2)), [.int r1], rfl, rfl, rfl, ?_⟩
  refine aw_if_eq 29 dX0_writeElse_8 (by decide) (fun c17 => ?_) (fun c17 => ?_)
  · have h := h.1 c17
    refine aw_aload_n 0 dX0_writeElse_29 rfl rfl ?_
    refine aw_getf (v := .ref 2) fX0_17 0 rfl rfl dX0_writeElse_30 ?_
    refine aw_iload_n 1 dX0_writeElse_33 rfl rfl ?_
    refine aw_aload_n 0 dX0_writeElse_34 rfl rfl ?_
    refine aw_getf (v := .int σ.1.1.1.1.2) fX0_35 0 rfl rfl dX0_writeElse_35 ?_
    refine aw_callV (mc1 := 0) (ms1 := 0) (mc := 0) (ms := 0) (st := []) (q := 2) (As := [.int a1, .int σ.1.1.1.1.2]) (vsc := [.int a1, .int σ.1.1.1.1.2]) lX0_194 insX4_keepTie selX4_keepTie ⟨TX4, 10, rfl⟩ (by omega) (kX4_keepTie (d := 1) (by omega) h) [2, 16, 17, 18, 19, 20, 21, 22, 23, 24] rfl rfl rfl rfl rfl dX0_writeElse_38 rfl rfl (fun _ _ hh => ?_)
    obtain ⟨τ4, rfl, rfl, h⟩ := hh
    refine ⟨(wX0 G ((σ.1.1, τ4), σ.2)), [], rfl, rfl, rfl, ?_⟩
    refine aw_aload_n 0 dX0_writeElse_41 rfl rfl ?_
    refine aw_iconst (v := (0 : Int32)) dX0_writeElse_42 (by decide) ?_
    refine aw_callVT (mc1 := 0) (ms1 := 0) (mc := 0) (ms := 0) (st := []) (q := 0) (As := [.int (0 : Int32)]) lX0_51 insX0_emit selX0_emit ⟨TX0, 12, rfl⟩ (by omega) (kX0_emit (d := 2) (by omega) h) (Nat.le_of_ble_eq_true rfl) rfl rfl rfl dX0_writeElse_43 rfl (fun _ _ hh => ?_)
    obtain ⟨τ6, rfl, rfl, h⟩ := hh
    refine aw_stk (st' := []) rfl ?_
    refine aw_aload_n 0 dX0_writeElse_46 rfl rfl ?_
    refine aw_aload_n 0 dX0_writeElse_47 rfl rfl ?_
    refine aw_getf (v := .ref 2) fX0_17 0 rfl rfl dX0_writeElse_48 ?_
    refine aw_iload_n 2 dX0_writeElse_51 rfl rfl ?_
    refine aw_callV (mc1 := 0) (ms1 := 0) (mc := 0) (ms := 0) (st := [.ref 0]) (q := 2) (As := [.int a2]) (vsc := [.int a2]) lX0_203 insX4_tie selX4_tie ⟨TX4, 10, rfl⟩ (by omega) (kX4_tie (d := 1) (by omega) h) [2, 16, 17, 18, 19, 20, 21, 22, 23, 24] rfl rfl rfl rfl rfl dX0_writeElse_52 rfl rfl (fun _ _ hh => ?_)
    obtain ⟨r7, τ8, rfl, rfl, h⟩ := hh
    refine ⟨(wX0 G ((τ6.1.1, τ8), τ6.2)), [.int r7, .ref 0], rfl, rfl, rfl, ?_⟩
    refine aw_callVT (mc1 := 0) (ms1 := 0) (mc := 0) (ms := 0) (st := []) (q := 0) (As := [.int r7]) lX0_60 insX0_closeJump selX0_closeJump ⟨TX0, 12, rfl⟩ (by omega) (kX0_closeJump (d := 2) (by omega) h) (Nat.le_of_ble_eq_true rfl) rfl rfl rfl dX0_writeElse_55 rfl (fun _ _ hh => ?_)
    obtain ⟨τ10, rfl, rfl, h⟩ := hh
    refine aw_stk (st' := []) rfl ?_
    exact aw_vret rfl dX0_writeElse_58 ⟨τ10, rfl, rfl, h⟩
  · have h := h.2 c17
    refine aw_aload_n 0 dX0_writeElse_11 rfl rfl ?_
    refine aw_iconst (v := (5 : Int32)) dX0_writeElse_12 (by decide) ?_
    refine aw_callVT (mc1 := 0) (ms1 := 0) (mc := 0) (ms := 0) (st := []) (q := 0) (As := [.int (5 : Int32)]) lX0_200 insX0_lookAtHeld selX0_lookAtHeld ⟨TX0, 12, rfl⟩ (by omega) (kX0_lookAtHeld (d := 3) (by omega) h) (Nat.le_of_ble_eq_true rfl) rfl rfl rfl dX0_writeElse_13 rfl (fun _ _ hh => ?_)
    obtain ⟨τ12, rfl, rfl, h⟩ := hh
    refine aw_stk (st' := []) rfl ?_
    refine aw_aload_n 0 dX0_writeElse_16 rfl rfl ?_
    refine aw_bipush (v := (94 : Int32)) dX0_writeElse_17 (by decide) ?_
    refine aw_iconst (v := (3 : Int32)) dX0_writeElse_19 (by decide) ?_
    refine aw_iconst (v := (3 : Int32)) dX0_writeElse_20 (by decide) ?_
    refine aw_iconst (v := (5 : Int32)) dX0_writeElse_21 (by decide) ?_
    refine aw_callST (st := [.ref 0]) (As := [.int (94 : Int32), .int (3 : Int32), .int (3 : Int32), .int (5 : Int32)]) lX0_105 sttX5_join (by omega) (kX5_join (d := 1) (by omega) h) rfl rfl rfl dX0_writeElse_22 rfl (fun _ _ hh => ?_)
    obtain ⟨r13, τ14, rfl, rfl, h⟩ := hh
    refine ⟨rfl, (fun x hx => by cases hx; rfl), ?_⟩
    refine aw_stk (st' := [.int r13, .ref 0]) rfl ?_
    refine aw_callVT (mc1 := 0) (ms1 := 0) (mc := 0) (ms := 0) (st := []) (q := 0) (As := [.int r13]) lX0_51 insX0_emit selX0_emit ⟨TX0, 12, rfl⟩ (by omega) (kX0_emit (d := 2) (by omega) h) (Nat.le_of_ble_eq_true rfl) rfl rfl rfl dX0_writeElse_25 rfl (fun _ _ hh => ?_)
    obtain ⟨τ16, rfl, rfl, h⟩ := hh
    refine aw_stk (st' := []) rfl ?_
    exact aw_vret rfl dX0_writeElse_28 ⟨τ16, rfl, rfl, h⟩
def wp_X0_writeEndOfIf_51  (post : WSX0 → Prop) (σ : WSX0) (s0 : Int32) : Prop :=
  wp_X4_tie σ.1.2 s0 (fun r5 τ6 => wp_X0_closeJump ((σ.1.1, τ6), σ.2) r5 (fun τ8 => post τ8))
theorem aw_X0_writeEndOfIf_51 {G : aw_G} {d : Nat} (hd : 4 ≤ d) {post : WSX0 → Prop}  {σ : WSX0} {s0 : Int32} (h : wp_X0_writeEndOfIf_51  post σ s0) : AW G MX0_writeEndOfIf d 0 0 25 (aw_pv (wX0 G) post) 51 [] [.int s0, .ref 2, .ref 0] (wX0 G σ) := by
  unfold wp_X0_writeEndOfIf_51 at h
  refine aw_callV (mc1 := 0) (ms1 := 0) (mc := 0) (ms := 0) (st := [.ref 0]) (q := 2) (As := [.int s0]) (vsc := [.int s0]) lX0_203 insX4_tie selX4_tie ⟨TX4, 10, rfl⟩ (by omega) (kX4_tie (d := 1) (by omega) h) [2, 16, 17, 18, 19, 20, 21, 22, 23, 24] rfl rfl rfl rfl rfl dX0_writeEndOfIf_51 rfl rfl (fun _ _ hh => ?_)
  obtain ⟨r5, τ6, rfl, rfl, h⟩ := hh
  refine ⟨(wX0 G ((σ.1.1, τ6), σ.2)), [.int r5, .ref 0], rfl, rfl, rfl, ?_⟩
  refine aw_callVT (mc1 := 0) (ms1 := 0) (mc := 0) (ms := 0) (st := []) (q := 0) (As := [.int r5]) lX0_60 insX0_closeJump selX0_closeJump ⟨TX0, 12, rfl⟩ (by omega) (kX0_closeJump (d := 2) (by omega) h) (Nat.le_of_ble_eq_true rfl) rfl rfl rfl dX0_writeEndOfIf_54 rfl (fun _ _ hh => ?_)
  obtain ⟨τ8, rfl, rfl, h⟩ := hh
  refine aw_stk (st' := []) rfl ?_
  exact aw_vret rfl dX0_writeEndOfIf_57 ⟨τ8, rfl, rfl, h⟩
def wp_X0_writeEndOfIf (σ : WSX0) (a1 : Int32) (post : WSX0 → Prop) : Prop :=
  wp_X4_secret σ.1.2 a1 (fun r1 τ2 => ((r1 = 0 → wp_X4_value τ2 a1 (fun r3 τ4 => ((¬ r3 = ((-1) : Int32) → wp_X0_writeEndOfIf_51  post ((σ.1.1, τ4), σ.2) r3) ∧ (r3 = ((-1) : Int32) → wp_X0_writeEndOfIf_51  post ((σ.1.1, τ4), σ.2) a1)))) ∧ (¬ r1 = 0 → wp_X0_release ((σ.1.1, τ2), σ.2) (3 : Int32) (fun τ11 => (∀ y12 : Int32, y12 = (τ11.1.1.2.2.2.2 - (1 : Int32)) → post (((τ11.1.1.1, (τ11.1.1.2.1, (τ11.1.1.2.2.1, (τ11.1.1.2.2.2.1, y12)))), τ11.1.2), τ11.2))))))
theorem kX0_writeEndOfIf {G : aw_G} {d : Nat} (hd : 4 ≤ d) {σ : WSX0} {a1 : Int32} {post : WSX0 → Prop} (h : wp_X0_writeEndOfIf σ a1 post) : AC G MX0_writeEndOfIf d 0 0 25 [.ref 0, .int a1] (wX0 G σ) (aw_pv (wX0 G) post) := by
  refine AC.of (lv := [(0, .ref 0), (1, .int a1)]) (by decide) (Nat.le_of_ble_eq_true rfl) rfl ?_
  unfold wp_X0_writeEndOfIf at h
  refine aw_aload_n 0 dX0_writeEndOfIf_0 rfl rfl ?_
  refine aw_getf (v := .ref 2) fX0_17 0 rfl rfl dX0_writeEndOfIf_1 ?_
  refine aw_iload_n 1 dX0_writeEndOfIf_4 rfl rfl ?_
  refine aw_callV (mc1 := 0) (ms1 := 0) (mc := 0) (ms := 0) (st := []) (q := 2) (As := [.int a1]) (vsc := [.int a1]) lX0_197 insX4_secret selX4_secret ⟨TX4, 10, rfl⟩ (by omega) (kX4_secret (d := 1) (by omega) h) [2, 16, 17, 18, 19, 20, 21, 22, 23, 24] rfl rfl rfl rfl rfl dX0_writeEndOfIf_5 rfl rfl (fun _ _ hh => ?_)
  obtain ⟨r1, τ2, rfl, rfl, h⟩ := hh
  refine ⟨(wX0 G ((σ.1.1, τ2), σ.2)), [.int r1], rfl, rfl, rfl, ?_⟩
  refine aw_if_eq 27 dX0_writeEndOfIf_8 (by decide) (fun c13 => ?_) (fun c13 => ?_)
  · have h := h.1 c13
    refine aw_aload_n 0 dX0_writeEndOfIf_27 rfl rfl ?_
    refine aw_getf (v := .ref 2) fX0_17 0 rfl rfl dX0_writeEndOfIf_28 ?_
    refine aw_iload_n 1 dX0_writeEndOfIf_31 rfl rfl ?_
    refine aw_callV (mc1 := 0) (ms1 := 0) (mc := 0) (ms := 0) (st := []) (q := 2) (As := [.int a1]) (vsc := [.int a1]) lX0_158 insX4_value selX4_value ⟨TX4, 10, rfl⟩ (by omega) (kX4_value (d := 1) (by omega) h) [2, 16, 17, 18, 19, 20, 21, 22, 23, 24] rfl rfl rfl rfl rfl dX0_writeEndOfIf_32 rfl rfl (fun _ _ hh => ?_)
    obtain ⟨r3, τ4, rfl, rfl, h⟩ := hh
    refine ⟨(wX0 G ((σ.1.1, τ4), σ.2)), [.int r3], rfl, rfl, rfl, ?_⟩
    refine aw_istore_n (lv' := [(2, .int r3), (0, .ref 0), (1, .int a1)]) dX0_writeEndOfIf_35 rfl (by decide) rfl ?_
    refine aw_aload_n 1 dX0_writeEndOfIf_36 rfl rfl ?_
    refine aw_aload_n 1 dX0_writeEndOfIf_37 rfl rfl ?_
    refine aw_getf (v := .ref 2) fX0_17 0 rfl rfl dX0_writeEndOfIf_38 ?_
    refine aw_iload_n 0 dX0_writeEndOfIf_41 rfl rfl ?_
    refine aw_iconst (v := ((-1) : Int32)) dX0_writeEndOfIf_42 (by decide) ?_
    refine aw_icmp_ne 50 dX0_writeEndOfIf_43 (by decide) (fun c9 => ?_) (fun c9 => ?_)
    · have h := h.1 c9
      refine aw_iload_n 0 dX0_writeEndOfIf_50 rfl rfl ?_
      refine aw_lvsub (lv' := []) [] rfl ?_
      exact aw_X0_writeEndOfIf_51 hd  h
    · have h := h.2 c9
      refine aw_iload_n 2 dX0_writeEndOfIf_46 rfl rfl ?_
      refine aw_goto 51 dX0_writeEndOfIf_47 (by decide) ?_
      refine aw_lvsub (lv' := []) [] rfl ?_
      exact aw_X0_writeEndOfIf_51 hd  h
  · have h := h.2 c13
    refine aw_aload_n 0 dX0_writeEndOfIf_11 rfl rfl ?_
    refine aw_iconst (v := (3 : Int32)) dX0_writeEndOfIf_12 (by decide) ?_
    refine aw_callVT (mc1 := 0) (ms1 := 0) (mc := 0) (ms := 0) (st := []) (q := 0) (As := [.int (3 : Int32)]) lX0_188 insX0_release selX0_release ⟨TX0, 12, rfl⟩ (by omega) (kX0_release (d := 3) (by omega) h) (Nat.le_of_ble_eq_true rfl) rfl rfl rfl dX0_writeEndOfIf_13 rfl (fun _ _ hh => ?_)
    obtain ⟨τ11, rfl, rfl, h⟩ := hh
    refine aw_stk (st' := []) rfl ?_
    refine aw_aload_n 0 dX0_writeEndOfIf_16 rfl rfl ?_
    refine aw_dup dX0_writeEndOfIf_17 rfl ?_
    refine aw_getf (v := .int τ11.1.1.2.2.2.2) fX0_42 0 rfl rfl dX0_writeEndOfIf_18 ?_
    refine aw_iconst (v := (1 : Int32)) dX0_writeEndOfIf_21 (by decide) ?_
    refine aw_isub dX0_writeEndOfIf_22 ?_
    refine aw_topi (fun y12 ey12 => ?_)
    have h := h y12 ey12
    refine aw_putf fX0_42 0 (w' := (wX0 G (((τ11.1.1.1, (τ11.1.1.2.1, (τ11.1.1.2.2.1, (τ11.1.1.2.2.2.1, y12)))), τ11.1.2), τ11.2))) rfl (fun _ => ⟨rfl, rfl⟩) (Nat.le_of_ble_eq_true rfl) rfl dX0_writeEndOfIf_23 ?_
    exact aw_vret rfl dX0_writeEndOfIf_26 ⟨(((τ11.1.1.1, (τ11.1.1.2.1, (τ11.1.1.2.2.1, (τ11.1.1.2.2.2.1, y12)))), τ11.1.2), τ11.2), rfl, rfl, h⟩
def wp_X0_writeNode (σ : WSX0) (a1 : Int32) (post : WSX0 → Prop) : Prop :=
  wp_X4_kind σ.1.2 a1 (fun r1 τ2 => ((r1 = (13 : Int32) → wp_X0_writeStep ((σ.1.1, τ2), σ.2) a1 (fun τ5 => post τ5)) ∧ (¬ r1 = (13 : Int32) → ((r1 = (14 : Int32) → wp_X0_writeStep ((σ.1.1, τ2), σ.2) a1 (fun τ8 => post τ8)) ∧ (¬ r1 = (14 : Int32) → ((r1 = (15 : Int32) → (∃ n12, n12 ≤ 400 ∧ wg_wv n12 0 ((σ.1.1, τ2), σ.2) [(a1 - (1 : Int32)), (0 : Int32), (0 : Int32)] (fun _ τ11 => wp_X4_value τ11.1.2 a1 (fun r13 τ14 => wp_X4_value τ14 r13 (fun r15 τ16 => wp_X0_rowCall ((τ11.1.1, τ16), τ11.2) τ11.1.1.2.2.1 r15 (fun r17 τ18 => wp_X0_callFor τ18 a1 r17 (fun τ20 => wp_X0_hold τ20 (6 : Int32) (fun τ22 => post τ22)))))))) ∧ (¬ r1 = (15 : Int32) → ((r1 = (16 : Int32) → (∃ n26, n26 ≤ 400 ∧ wg_wv n26 0 ((σ.1.1, τ2), σ.2) [(a1 - (1 : Int32)), (0 : Int32), (0 : Int32)] (fun _ τ25 => wp_X4_value τ25.1.2 a1 (fun r27 τ28 => wp_X0_writePut ((τ25.1.1, τ28), τ25.2) r27 (fun τ30 => post τ30))))) ∧ (¬ r1 = (16 : Int32) → ((r1 = (17 : Int32) → wp_X0_writeStep ((σ.1.1, τ2), σ.2) a1 (fun τ33 => post τ33)) ∧ (¬ r1 = (17 : Int32) → ((r1 = (18 : Int32) → (∃ n37, n37 ≤ 400 ∧ wg_wv n37 0 ((σ.1.1, τ2), σ.2) [(a1 - (1 : Int32)), (0 : Int32), (0 : Int32)] (fun _ τ36 => wp_X0_writeThen τ36 a1 (fun τ39 => post τ39)))) ∧ (¬ r1 = (18 : Int32) → ((r1 = (19 : Int32) → wp_X4_value τ2 a1 (fun r41 τ42 => wp_X0_writeElse ((σ.1.1, τ42), σ.2) a1 r41 (fun τ44 => post τ44))) ∧ (¬ r1 = (19 : Int32) → ((r1 = (20 : Int32) → wp_X4_value τ2 a1 (fun r46 τ47 => wp_X0_writeEndOfIf ((σ.1.1, τ47), σ.2) r46 (fun τ49 => post τ49))) ∧ (¬ r1 = (20 : Int32) → ((r1 = (21 : Int32) → wp_X0_writeStep ((σ.1.1, τ2), σ.2) a1 (fun τ52 => post τ52)) ∧ (¬ r1 = (21 : Int32) → ((r1 = (22 : Int32) → wp_X0_writeStep ((σ.1.1, τ2), σ.2) a1 (fun τ55 => post τ55)) ∧ (¬ r1 = (22 : Int32) → ((r1 = (23 : Int32) → (∃ n59, n59 ≤ 400 ∧ wg_wv n59 0 ((σ.1.1, τ2), σ.2) [(a1 - (1 : Int32)), (0 : Int32), (0 : Int32)] (fun _ τ58 => wp_X0_writeOpenJump τ58 a1 (fun τ61 => post τ61)))) ∧ (¬ r1 = (23 : Int32) → ((r1 = (24 : Int32) → wp_X4_value τ2 a1 (fun r63 τ64 => wp_X0_writeEndOfWhile ((σ.1.1, τ64), σ.2) r63 (fun τ66 => post τ66))) ∧ (¬ r1 = (24 : Int32) → ((r1 = (25 : Int32) → wp_X0_writeStep ((σ.1.1, τ2), σ.2) a1 (fun τ69 => post τ69)) ∧ (¬ r1 = (25 : Int32) → ((r1 = (26 : Int32) → (∃ n73, n73 ≤ 400 ∧ wg_wv n73 0 ((σ.1.1, τ2), σ.2) [(a1 - (1 : Int32)), (0 : Int32), (0 : Int32)] (fun _ τ72 => wp_X0_callFor τ72 a1 τ72.1.1.2.1.1 (fun τ75 => post τ75)))) ∧ (¬ r1 = (26 : Int32) → post ((σ.1.1, τ2), σ.2))))))))))))))))))))))))))))))
theorem kX0_writeNode {G : aw_G} {d : Nat} (hd : 405 ≤ d) {σ : WSX0} {a1 : Int32} {post : WSX0 → Prop} (h : wp_X0_writeNode σ a1 post) : AC G MX0_writeNode d 0 0 25 [.ref 0, .int a1] (wX0 G σ) (aw_pv (wX0 G) post) := by
  refine AC.of (lv := [(0, .ref 0), (1, .int a1)]) (by decide) (Nat.le_of_ble_eq_true rfl) rfl ?_
  unfold wp_X0_writeNode at h
  refine aw_aload_n 0 dX0_writeNode_0 rfl rfl ?_
  refine aw_getf (v := .ref 2) fX0_17 0 rfl rfl dX0_writeNode_1 ?_
  refine aw_iload_n 1 dX0_writeNode_4 rfl rfl ?_
  refine aw_callV (mc1 := 0) (ms1 := 0) (mc := 0) (ms := 0) (st := []) (q := 2) (As := [.int a1]) (vsc := [.int a1]) lX0_149 insX4_kind selX4_kind ⟨TX4, 10, rfl⟩ (by omega) (kX4_kind (d := 1) (by omega) h) [2, 16, 17, 18, 19, 20, 21, 22, 23, 24] rfl rfl rfl rfl rfl dX0_writeNode_5 rfl rfl (fun _ _ hh => ?_)
  obtain ⟨r1, τ2, rfl, rfl, h⟩ := hh
  refine ⟨(wX0 G ((σ.1.1, τ2), σ.2)), [.int r1], rfl, rfl, rfl, ?_⟩
  by_cases c3 : r1 = (13 : Int32)
  · refine aw_tableIn 80 (off := 72) dX0_writeNode_8 (by rw [c3]; decide) (by rw [c3]; decide) (by rw [c3]; rfl) (by decide) ?_
    have h := h.1 c3
    refine aw_aload_n 0 dX0_writeNode_80 rfl rfl ?_
    refine aw_iload_n 1 dX0_writeNode_81 rfl rfl ?_
    refine aw_callVT (mc1 := 0) (ms1 := 0) (mc := 0) (ms := 0) (st := []) (q := 0) (As := [.int a1]) lX0_152 insX0_writeStep selX0_writeStep ⟨TX0, 12, rfl⟩ (by omega) (kX0_writeStep (d := 4) (by omega) h) (Nat.le_of_ble_eq_true rfl) rfl rfl rfl dX0_writeNode_82 rfl (fun _ _ hh => ?_)
    obtain ⟨τ5, rfl, rfl, h⟩ := hh
    refine aw_stk (st' := []) rfl ?_
    refine aw_goto 259 dX0_writeNode_85 (by decide) ?_
    exact aw_vret rfl dX0_writeNode_259 ⟨τ5, rfl, rfl, h⟩
  have h := h.2 c3
  by_cases c6 : r1 = (14 : Int32)
  · refine aw_tableIn 80 (off := 72) dX0_writeNode_8 (by rw [c6]; decide) (by rw [c6]; decide) (by rw [c6]; rfl) (by decide) ?_
    have h := h.1 c6
    refine aw_aload_n 0 dX0_writeNode_80 rfl rfl ?_
    refine aw_iload_n 1 dX0_writeNode_81 rfl rfl ?_
    refine aw_callVT (mc1 := 0) (ms1 := 0) (mc := 0) (ms := 0) (st := []) (q := 0) (As := [.int a1]) lX0_152 insX0_writeStep selX0_writeStep ⟨TX0, 12, rfl⟩ (by omega) (kX0_writeStep (d := 4) (by omega) h) (Nat.le_of_ble_eq_true rfl) rfl rfl rfl dX0_writeNode_82 rfl (fun _ _ hh => ?_)
    obtain ⟨τ8, rfl, rfl, h⟩ := hh
    refine aw_stk (st' := []) rfl ?_
    refine aw_goto 259 dX0_writeNode_85 (by decide) ?_
    exact aw_vret rfl dX0_writeNode_259 ⟨τ8, rfl, rfl, h⟩
  have h := h.2 c6
  by_cases c9 : r1 = (15 : Int32)
  · refine aw_tableIn 88 (off := 80) dX0_writeNode_8 (by rw [c9]; decide) (by rw [c9]; decide) (by rw [c9]; rfl) (by decide) ?_
    have h := h.1 c9
    refine aw_aload_n 0 dX0_writeNode_88 rfl rfl ?_
    refine aw_iload_n 1 dX0_writeNode_89 rfl rfl ?_
    refine aw_iconst (v := (1 : Int32)) dX0_writeNode_90 (by decide) ?_
    refine aw_isub dX0_writeNode_91 ?_
    refine aw_iconst (v := (0 : Int32)) dX0_writeNode_92 (by decide) ?_
    refine aw_iconst (v := (0 : Int32)) dX0_writeNode_93 (by decide) ?_
    obtain ⟨n12, hn12, h⟩ := h
    refine aw_callVT (mc1 := 0) (ms1 := 0) (mc := 0) (ms := 0) (st := []) (q := 0) (As := [.int (a1 - (1 : Int32)), .int (0 : Int32), .int (0 : Int32)]) lX0_155 insX0_writeValue selX0_writeValue ⟨TX0, 12, rfl⟩ (by omega) (kg_wv n12 0 _ [(a1 - (1 : Int32)), (0 : Int32), (0 : Int32)] _ h) (Nat.le_of_ble_eq_true rfl) rfl rfl rfl dX0_writeNode_94 rfl (fun _ _ hh => ?_)
    obtain ⟨τ11, rfl, rfl, h⟩ := hh
    refine aw_stk (st' := []) rfl ?_
    refine aw_aload_n 0 dX0_writeNode_97 rfl rfl ?_
    refine aw_iload_n 1 dX0_writeNode_98 rfl rfl ?_
    refine aw_aload_n 0 dX0_writeNode_99 rfl rfl ?_
    refine aw_aload_n 0 dX0_writeNode_100 rfl rfl ?_
    refine aw_getf (v := .int τ11.1.1.2.2.1) fX0_134 0 rfl rfl dX0_writeNode_101 ?_
    refine aw_aload_n 0 dX0_writeNode_104 rfl rfl ?_
    refine aw_getf (v := .ref 2) fX0_17 0 rfl rfl dX0_writeNode_105 ?_
    refine aw_aload_n 0 dX0_writeNode_108 rfl rfl ?_
    refine aw_getf (v := .ref 2) fX0_17 0 rfl rfl dX0_writeNode_109 ?_
    refine aw_iload_n 1 dX0_writeNode_112 rfl rfl ?_
    refine aw_callV (mc1 := 0) (ms1 := 0) (mc := 0) (ms := 0) (st := [.ref 2, .int τ11.1.1.2.2.1, .ref 0, .int a1, .ref 0]) (q := 2) (As := [.int a1]) (vsc := [.int a1]) lX0_158 insX4_value selX4_value ⟨TX4, 10, rfl⟩ (by omega) (kX4_value (d := 1) (by omega) h) [2, 16, 17, 18, 19, 20, 21, 22, 23, 24] rfl rfl rfl rfl rfl dX0_writeNode_113 rfl rfl (fun _ _ hh => ?_)
    obtain ⟨r13, τ14, rfl, rfl, h⟩ := hh
    refine ⟨(wX0 G ((τ11.1.1, τ14), τ11.2)), [.int r13, .ref 2, .int τ11.1.1.2.2.1, .ref 0, .int a1, .ref 0], rfl, rfl, rfl, ?_⟩
    refine aw_callV (mc1 := 0) (ms1 := 0) (mc := 0) (ms := 0) (st := [.int τ11.1.1.2.2.1, .ref 0, .int a1, .ref 0]) (q := 2) (As := [.int r13]) (vsc := [.int r13]) lX0_158 insX4_value selX4_value ⟨TX4, 10, rfl⟩ (by omega) (kX4_value (d := 1) (by omega) h) [2, 16, 17, 18, 19, 20, 21, 22, 23, 24] rfl rfl rfl rfl rfl dX0_writeNode_116 rfl rfl (fun _ _ hh => ?_)
    obtain ⟨r15, τ16, rfl, rfl, h⟩ := hh
    refine ⟨(wX0 G ((τ11.1.1, τ16), τ11.2)), [.int r15, .int τ11.1.1.2.2.1, .ref 0, .int a1, .ref 0], rfl, rfl, rfl, ?_⟩
    refine aw_callVT (mc1 := 0) (ms1 := 0) (mc := 0) (ms := 0) (st := [.int a1, .ref 0]) (q := 0) (As := [.int τ11.1.1.2.2.1, .int r15]) lX0_161 insX0_rowCall selX0_rowCall ⟨TX0, 12, rfl⟩ (by omega) (kX0_rowCall (d := 0) (by omega) h) (Nat.le_of_ble_eq_true rfl) rfl rfl rfl dX0_writeNode_119 rfl (fun _ _ hh => ?_)
    obtain ⟨r17, τ18, rfl, rfl, h⟩ := hh
    refine aw_stk (st' := [.int r17, .int a1, .ref 0]) rfl ?_
    refine aw_callVT (mc1 := 0) (ms1 := 0) (mc := 0) (ms := 0) (st := []) (q := 0) (As := [.int a1, .int r17]) lX0_164 insX0_callFor selX0_callFor ⟨TX0, 12, rfl⟩ (by omega) (kX0_callFor (d := 3) (by omega) h) (Nat.le_of_ble_eq_true rfl) rfl rfl rfl dX0_writeNode_122 rfl (fun _ _ hh => ?_)
    obtain ⟨τ20, rfl, rfl, h⟩ := hh
    refine aw_stk (st' := []) rfl ?_
    refine aw_aload_n 0 dX0_writeNode_125 rfl rfl ?_
    refine aw_bipush (v := (6 : Int32)) dX0_writeNode_126 (by decide) ?_
    refine aw_callVT (mc1 := 0) (ms1 := 0) (mc := 0) (ms := 0) (st := []) (q := 0) (As := [.int (6 : Int32)]) lX0_167 insX0_hold selX0_hold ⟨TX0, 12, rfl⟩ (by omega) (kX0_hold (d := 3) (by omega) h) (Nat.le_of_ble_eq_true rfl) rfl rfl rfl dX0_writeNode_128 rfl (fun _ _ hh => ?_)
    obtain ⟨τ22, rfl, rfl, h⟩ := hh
    refine aw_stk (st' := []) rfl ?_
    refine aw_goto 259 dX0_writeNode_131 (by decide) ?_
    exact aw_vret rfl dX0_writeNode_259 ⟨τ22, rfl, rfl, h⟩
  have h := h.2 c9
  by_cases c23 : r1 = (16 : Int32)
  · refine aw_tableIn 134 (off := 126) dX0_writeNode_8 (by rw [c23]; decide) (by rw [c23]; decide) (by rw [c23]; rfl) (by decide) ?_
    have h := h.1 c23
    refine aw_aload_n 0 dX0_writeNode_134 rfl rfl ?_
    refine aw_iload_n 1 dX0_writeNode_135 rfl rfl ?_
    refine aw_iconst (v := (1 : Int32)) dX0_writeNode_136 (by decide) ?_
    refine aw_isub dX0_writeNode_137 ?_
    refine aw_iconst (v := (0 : Int32)) dX0_writeNode_138 (by decide) ?_
    refine aw_iconst (v := (0 : Int32)) dX0_writeNode_139 (by decide) ?_
    obtain ⟨n26, hn26, h⟩ := h
    refine aw_callVT (mc1 := 0) (ms1 := 0) (mc := 0) (ms := 0) (st := []) (q := 0) (As := [.int (a1 - (1 : Int32)), .int (0 : Int32), .int (0 : Int32)]) lX0_155 insX0_writeValue selX0_writeValue ⟨TX0, 12, rfl⟩ (by omega) (kg_wv n26 0 _ [(a1 - (1 : Int32)), (0 : Int32), (0 : Int32)] _ h) (Nat.le_of_ble_eq_true rfl) rfl rfl rfl dX0_writeNode_140 rfl (fun _ _ hh => ?_)
    obtain ⟨τ25, rfl, rfl, h⟩ := hh
    refine aw_stk (st' := []) rfl ?_
    refine aw_aload_n 0 dX0_writeNode_143 rfl rfl ?_
    refine aw_aload_n 0 dX0_writeNode_144 rfl rfl ?_
    refine aw_getf (v := .ref 2) fX0_17 0 rfl rfl dX0_writeNode_145 ?_
    refine aw_iload_n 1 dX0_writeNode_148 rfl rfl ?_
    refine aw_callV (mc1 := 0) (ms1 := 0) (mc := 0) (ms := 0) (st := [.ref 0]) (q := 2) (As := [.int a1]) (vsc := [.int a1]) lX0_158 insX4_value selX4_value ⟨TX4, 10, rfl⟩ (by omega) (kX4_value (d := 1) (by omega) h) [2, 16, 17, 18, 19, 20, 21, 22, 23, 24] rfl rfl rfl rfl rfl dX0_writeNode_149 rfl rfl (fun _ _ hh => ?_)
    obtain ⟨r27, τ28, rfl, rfl, h⟩ := hh
    refine ⟨(wX0 G ((τ25.1.1, τ28), τ25.2)), [.int r27, .ref 0], rfl, rfl, rfl, ?_⟩
    refine aw_callVT (mc1 := 0) (ms1 := 0) (mc := 0) (ms := 0) (st := []) (q := 0) (As := [.int r27]) lX0_170 insX0_writePut selX0_writePut ⟨TX0, 12, rfl⟩ (by omega) (kX0_writePut (d := 4) (by omega) h) (Nat.le_of_ble_eq_true rfl) rfl rfl rfl dX0_writeNode_152 rfl (fun _ _ hh => ?_)
    obtain ⟨τ30, rfl, rfl, h⟩ := hh
    refine aw_stk (st' := []) rfl ?_
    refine aw_goto 259 dX0_writeNode_155 (by decide) ?_
    exact aw_vret rfl dX0_writeNode_259 ⟨τ30, rfl, rfl, h⟩
  have h := h.2 c23
  by_cases c31 : r1 = (17 : Int32)
  · refine aw_tableIn 80 (off := 72) dX0_writeNode_8 (by rw [c31]; decide) (by rw [c31]; decide) (by rw [c31]; rfl) (by decide) ?_
    have h := h.1 c31
    refine aw_aload_n 0 dX0_writeNode_80 rfl rfl ?_
    refine aw_iload_n 1 dX0_writeNode_81 rfl rfl ?_
    refine aw_callVT (mc1 := 0) (ms1 := 0) (mc := 0) (ms := 0) (st := []) (q := 0) (As := [.int a1]) lX0_152 insX0_writeStep selX0_writeStep ⟨TX0, 12, rfl⟩ (by omega) (kX0_writeStep (d := 4) (by omega) h) (Nat.le_of_ble_eq_true rfl) rfl rfl rfl dX0_writeNode_82 rfl (fun _ _ hh => ?_)
    obtain ⟨τ33, rfl, rfl, h⟩ := hh
    refine aw_stk (st' := []) rfl ?_
    refine aw_goto 259 dX0_writeNode_85 (by decide) ?_
    exact aw_vret rfl dX0_writeNode_259 ⟨τ33, rfl, rfl, h⟩
  have h := h.2 c31
  by_cases c34 : r1 = (18 : Int32)
  · refine aw_tableIn 211 (off := 203) dX0_writeNode_8 (by rw [c34]; decide) (by rw [c34]; decide) (by rw [c34]; rfl) (by decide) ?_
    have h := h.1 c34
    refine aw_aload_n 0 dX0_writeNode_211 rfl rfl ?_
    refine aw_iload_n 1 dX0_writeNode_212 rfl rfl ?_
    refine aw_iconst (v := (1 : Int32)) dX0_writeNode_213 (by decide) ?_
    refine aw_isub dX0_writeNode_214 ?_
    refine aw_iconst (v := (0 : Int32)) dX0_writeNode_215 (by decide) ?_
    refine aw_iconst (v := (0 : Int32)) dX0_writeNode_216 (by decide) ?_
    obtain ⟨n37, hn37, h⟩ := h
    refine aw_callVT (mc1 := 0) (ms1 := 0) (mc := 0) (ms := 0) (st := []) (q := 0) (As := [.int (a1 - (1 : Int32)), .int (0 : Int32), .int (0 : Int32)]) lX0_155 insX0_writeValue selX0_writeValue ⟨TX0, 12, rfl⟩ (by omega) (kg_wv n37 0 _ [(a1 - (1 : Int32)), (0 : Int32), (0 : Int32)] _ h) (Nat.le_of_ble_eq_true rfl) rfl rfl rfl dX0_writeNode_217 rfl (fun _ _ hh => ?_)
    obtain ⟨τ36, rfl, rfl, h⟩ := hh
    refine aw_stk (st' := []) rfl ?_
    refine aw_aload_n 0 dX0_writeNode_220 rfl rfl ?_
    refine aw_iload_n 1 dX0_writeNode_221 rfl rfl ?_
    refine aw_callVT (mc1 := 0) (ms1 := 0) (mc := 0) (ms := 0) (st := []) (q := 0) (As := [.int a1]) lX0_179 insX0_writeThen selX0_writeThen ⟨TX0, 12, rfl⟩ (by omega) (kX0_writeThen (d := 4) (by omega) h) (Nat.le_of_ble_eq_true rfl) rfl rfl rfl dX0_writeNode_222 rfl (fun _ _ hh => ?_)
    obtain ⟨τ39, rfl, rfl, h⟩ := hh
    refine aw_stk (st' := []) rfl ?_
    refine aw_goto 259 dX0_writeNode_225 (by decide) ?_
    exact aw_vret rfl dX0_writeNode_259 ⟨τ39, rfl, rfl, h⟩
  have h := h.2 c34
  by_cases c40 : r1 = (19 : Int32)
  · refine aw_tableIn 228 (off := 220) dX0_writeNode_8 (by rw [c40]; decide) (by rw [c40]; decide) (by rw [c40]; rfl) (by decide) ?_
    have h := h.1 c40
    refine aw_aload_n 0 dX0_writeNode_228 rfl rfl ?_
    refine aw_iload_n 1 dX0_writeNode_229 rfl rfl ?_
    refine aw_aload_n 0 dX0_writeNode_230 rfl rfl ?_
    refine aw_getf (v := .ref 2) fX0_17 0 rfl rfl dX0_writeNode_231 ?_
    refine aw_iload_n 1 dX0_writeNode_234 rfl rfl ?_
    refine aw_callV (mc1 := 0) (ms1 := 0) (mc := 0) (ms := 0) (st := [.int a1, .ref 0]) (q := 2) (As := [.int a1]) (vsc := [.int a1]) lX0_158 insX4_value selX4_value ⟨TX4, 10, rfl⟩ (by omega) (kX4_value (d := 1) (by omega) h) [2, 16, 17, 18, 19, 20, 21, 22, 23, 24] rfl rfl rfl rfl rfl dX0_writeNode_235 rfl rfl (fun _ _ hh => ?_)
    obtain ⟨r41, τ42, rfl, rfl, h⟩ := hh
    refine ⟨(wX0 G ((σ.1.1, τ42), σ.2)), [.int r41, .int a1, .ref 0], rfl, rfl, rfl, ?_⟩
    refine aw_callVT (mc1 := 0) (ms1 := 0) (mc := 0) (ms := 0) (st := []) (q := 0) (As := [.int a1, .int r41]) lX0_182 insX0_writeElse selX0_writeElse ⟨TX0, 12, rfl⟩ (by omega) (kX0_writeElse (d := 4) (by omega) h) (Nat.le_of_ble_eq_true rfl) rfl rfl rfl dX0_writeNode_238 rfl (fun _ _ hh => ?_)
    obtain ⟨τ44, rfl, rfl, h⟩ := hh
    refine aw_stk (st' := []) rfl ?_
    refine aw_goto 259 dX0_writeNode_241 (by decide) ?_
    exact aw_vret rfl dX0_writeNode_259 ⟨τ44, rfl, rfl, h⟩
  have h := h.2 c40
  by_cases c45 : r1 = (20 : Int32)
  · refine aw_tableIn 244 (off := 236) dX0_writeNode_8 (by rw [c45]; decide) (by rw [c45]; decide) (by rw [c45]; rfl) (by decide) ?_
    have h := h.1 c45
    refine aw_aload_n 0 dX0_writeNode_244 rfl rfl ?_
    refine aw_aload_n 0 dX0_writeNode_245 rfl rfl ?_
    refine aw_getf (v := .ref 2) fX0_17 0 rfl rfl dX0_writeNode_246 ?_
    refine aw_iload_n 1 dX0_writeNode_249 rfl rfl ?_
    refine aw_callV (mc1 := 0) (ms1 := 0) (mc := 0) (ms := 0) (st := [.ref 0]) (q := 2) (As := [.int a1]) (vsc := [.int a1]) lX0_158 insX4_value selX4_value ⟨TX4, 10, rfl⟩ (by omega) (kX4_value (d := 1) (by omega) h) [2, 16, 17, 18, 19, 20, 21, 22, 23, 24] rfl rfl rfl rfl rfl dX0_writeNode_250 rfl rfl (fun _ _ hh => ?_)
    obtain ⟨r46, τ47, rfl, rfl, h⟩ := hh
    refine ⟨(wX0 G ((σ.1.1, τ47), σ.2)), [.int r46, .ref 0], rfl, rfl, rfl, ?_⟩
    refine aw_callVT (mc1 := 0) (ms1 := 0) (mc := 0) (ms := 0) (st := []) (q := 0) (As := [.int r46]) lX0_185 insX0_writeEndOfIf selX0_writeEndOfIf ⟨TX0, 12, rfl⟩ (by omega) (kX0_writeEndOfIf (d := 4) (by omega) h) (Nat.le_of_ble_eq_true rfl) rfl rfl rfl dX0_writeNode_253 rfl (fun _ _ hh => ?_)
    obtain ⟨τ49, rfl, rfl, h⟩ := hh
    refine aw_stk (st' := []) rfl ?_
    refine aw_goto 259 dX0_writeNode_256 (by decide) ?_
    exact aw_vret rfl dX0_writeNode_259 ⟨τ49, rfl, rfl, h⟩
  have h := h.2 c45
  by_cases c50 : r1 = (21 : Int32)
  · refine aw_tableIn 80 (off := 72) dX0_writeNode_8 (by rw [c50]; decide) (by rw [c50]; decide) (by rw [c50]; rfl) (by decide) ?_
    have h := h.1 c50
    refine aw_aload_n 0 dX0_writeNode_80 rfl rfl ?_
    refine aw_iload_n 1 dX0_writeNode_81 rfl rfl ?_
    refine aw_callVT (mc1 := 0) (ms1 := 0) (mc := 0) (ms := 0) (st := []) (q := 0) (As := [.int a1]) lX0_152 insX0_writeStep selX0_writeStep ⟨TX0, 12, rfl⟩ (by omega) (kX0_writeStep (d := 4) (by omega) h) (Nat.le_of_ble_eq_true rfl) rfl rfl rfl dX0_writeNode_82 rfl (fun _ _ hh => ?_)
    obtain ⟨τ52, rfl, rfl, h⟩ := hh
    refine aw_stk (st' := []) rfl ?_
    refine aw_goto 259 dX0_writeNode_85 (by decide) ?_
    exact aw_vret rfl dX0_writeNode_259 ⟨τ52, rfl, rfl, h⟩
  have h := h.2 c50
  by_cases c53 : r1 = (22 : Int32)
  · refine aw_tableIn 80 (off := 72) dX0_writeNode_8 (by rw [c53]; decide) (by rw [c53]; decide) (by rw [c53]; rfl) (by decide) ?_
    have h := h.1 c53
    refine aw_aload_n 0 dX0_writeNode_80 rfl rfl ?_
    refine aw_iload_n 1 dX0_writeNode_81 rfl rfl ?_
    refine aw_callVT (mc1 := 0) (ms1 := 0) (mc := 0) (ms := 0) (st := []) (q := 0) (As := [.int a1]) lX0_152 insX0_writeStep selX0_writeStep ⟨TX0, 12, rfl⟩ (by omega) (kX0_writeStep (d := 4) (by omega) h) (Nat.le_of_ble_eq_true rfl) rfl rfl rfl dX0_writeNode_82 rfl (fun _ _ hh => ?_)
    obtain ⟨τ55, rfl, rfl, h⟩ := hh
    refine aw_stk (st' := []) rfl ?_
    refine aw_goto 259 dX0_writeNode_85 (by decide) ?_
    exact aw_vret rfl dX0_writeNode_259 ⟨τ55, rfl, rfl, h⟩
  have h := h.2 c53
  by_cases c56 : r1 = (23 : Int32)
  · refine aw_tableIn 179 (off := 171) dX0_writeNode_8 (by rw [c56]; decide) (by rw [c56]; decide) (by rw [c56]; rfl) (by decide) ?_
    have h := h.1 c56
    refine aw_aload_n 0 dX0_writeNode_179 rfl rfl ?_
    refine aw_iload_n 1 dX0_writeNode_180 rfl rfl ?_
    refine aw_iconst (v := (1 : Int32)) dX0_writeNode_181 (by decide) ?_
    refine aw_isub dX0_writeNode_182 ?_
    refine aw_iconst (v := (0 : Int32)) dX0_writeNode_183 (by decide) ?_
    refine aw_iconst (v := (0 : Int32)) dX0_writeNode_184 (by decide) ?_
    obtain ⟨n59, hn59, h⟩ := h
    refine aw_callVT (mc1 := 0) (ms1 := 0) (mc := 0) (ms := 0) (st := []) (q := 0) (As := [.int (a1 - (1 : Int32)), .int (0 : Int32), .int (0 : Int32)]) lX0_155 insX0_writeValue selX0_writeValue ⟨TX0, 12, rfl⟩ (by omega) (kg_wv n59 0 _ [(a1 - (1 : Int32)), (0 : Int32), (0 : Int32)] _ h) (Nat.le_of_ble_eq_true rfl) rfl rfl rfl dX0_writeNode_185 rfl (fun _ _ hh => ?_)
    obtain ⟨τ58, rfl, rfl, h⟩ := hh
    refine aw_stk (st' := []) rfl ?_
    refine aw_aload_n 0 dX0_writeNode_188 rfl rfl ?_
    refine aw_iload_n 1 dX0_writeNode_189 rfl rfl ?_
    refine aw_callVT (mc1 := 0) (ms1 := 0) (mc := 0) (ms := 0) (st := []) (q := 0) (As := [.int a1]) lX0_173 insX0_writeOpenJump selX0_writeOpenJump ⟨TX0, 12, rfl⟩ (by omega) (kX0_writeOpenJump (d := 3) (by omega) h) (Nat.le_of_ble_eq_true rfl) rfl rfl rfl dX0_writeNode_190 rfl (fun _ _ hh => ?_)
    obtain ⟨τ61, rfl, rfl, h⟩ := hh
    refine aw_stk (st' := []) rfl ?_
    refine aw_goto 259 dX0_writeNode_193 (by decide) ?_
    exact aw_vret rfl dX0_writeNode_259 ⟨τ61, rfl, rfl, h⟩
  have h := h.2 c56
  by_cases c62 : r1 = (24 : Int32)
  · refine aw_tableIn 196 (off := 188) dX0_writeNode_8 (by rw [c62]; decide) (by rw [c62]; decide) (by rw [c62]; rfl) (by decide) ?_
    have h := h.1 c62
    refine aw_aload_n 0 dX0_writeNode_196 rfl rfl ?_
    refine aw_aload_n 0 dX0_writeNode_197 rfl rfl ?_
    refine aw_getf (v := .ref 2) fX0_17 0 rfl rfl dX0_writeNode_198 ?_
    refine aw_iload_n 1 dX0_writeNode_201 rfl rfl ?_
    refine aw_callV (mc1 := 0) (ms1 := 0) (mc := 0) (ms := 0) (st := [.ref 0]) (q := 2) (As := [.int a1]) (vsc := [.int a1]) lX0_158 insX4_value selX4_value ⟨TX4, 10, rfl⟩ (by omega) (kX4_value (d := 1) (by omega) h) [2, 16, 17, 18, 19, 20, 21, 22, 23, 24] rfl rfl rfl rfl rfl dX0_writeNode_202 rfl rfl (fun _ _ hh => ?_)
    obtain ⟨r63, τ64, rfl, rfl, h⟩ := hh
    refine ⟨(wX0 G ((σ.1.1, τ64), σ.2)), [.int r63, .ref 0], rfl, rfl, rfl, ?_⟩
    refine aw_callVT (mc1 := 0) (ms1 := 0) (mc := 0) (ms := 0) (st := []) (q := 0) (As := [.int r63]) lX0_176 insX0_writeEndOfWhile selX0_writeEndOfWhile ⟨TX0, 12, rfl⟩ (by omega) (kX0_writeEndOfWhile (d := 3) (by omega) h) (Nat.le_of_ble_eq_true rfl) rfl rfl rfl dX0_writeNode_205 rfl (fun _ _ hh => ?_)
    obtain ⟨τ66, rfl, rfl, h⟩ := hh
    refine aw_stk (st' := []) rfl ?_
    refine aw_goto 259 dX0_writeNode_208 (by decide) ?_
    exact aw_vret rfl dX0_writeNode_259 ⟨τ66, rfl, rfl, h⟩
  have h := h.2 c62
  by_cases c67 : r1 = (25 : Int32)
  · refine aw_tableIn 80 (off := 72) dX0_writeNode_8 (by rw [c67]; decide) (by rw [c67]; decide) (by rw [c67]; rfl) (by decide) ?_
    have h := h.1 c67
    refine aw_aload_n 0 dX0_writeNode_80 rfl rfl ?_
    refine aw_iload_n 1 dX0_writeNode_81 rfl rfl ?_
    refine aw_callVT (mc1 := 0) (ms1 := 0) (mc := 0) (ms := 0) (st := []) (q := 0) (As := [.int a1]) lX0_152 insX0_writeStep selX0_writeStep ⟨TX0, 12, rfl⟩ (by omega) (kX0_writeStep (d := 4) (by omega) h) (Nat.le_of_ble_eq_true rfl) rfl rfl rfl dX0_writeNode_82 rfl (fun _ _ hh => ?_)
    obtain ⟨τ69, rfl, rfl, h⟩ := hh
    refine aw_stk (st' := []) rfl ?_
    refine aw_goto 259 dX0_writeNode_85 (by decide) ?_
    exact aw_vret rfl dX0_writeNode_259 ⟨τ69, rfl, rfl, h⟩
  have h := h.2 c67
  by_cases c70 : r1 = (26 : Int32)
  · refine aw_tableIn 158 (off := 150) dX0_writeNode_8 (by rw [c70]; decide) (by rw [c70]; decide) (by rw [c70]; rfl) (by decide) ?_
    have h := h.1 c70
    refine aw_aload_n 0 dX0_writeNode_158 rfl rfl ?_
    refine aw_iload_n 1 dX0_writeNode_159 rfl rfl ?_
    refine aw_iconst (v := (1 : Int32)) dX0_writeNode_160 (by decide) ?_
    refine aw_isub dX0_writeNode_161 ?_
    refine aw_iconst (v := (0 : Int32)) dX0_writeNode_162 (by decide) ?_
    refine aw_iconst (v := (0 : Int32)) dX0_writeNode_163 (by decide) ?_
    obtain ⟨n73, hn73, h⟩ := h
    refine aw_callVT (mc1 := 0) (ms1 := 0) (mc := 0) (ms := 0) (st := []) (q := 0) (As := [.int (a1 - (1 : Int32)), .int (0 : Int32), .int (0 : Int32)]) lX0_155 insX0_writeValue selX0_writeValue ⟨TX0, 12, rfl⟩ (by omega) (kg_wv n73 0 _ [(a1 - (1 : Int32)), (0 : Int32), (0 : Int32)] _ h) (Nat.le_of_ble_eq_true rfl) rfl rfl rfl dX0_writeNode_164 rfl (fun _ _ hh => ?_)
    obtain ⟨τ72, rfl, rfl, h⟩ := hh
    refine aw_stk (st' := []) rfl ?_
    refine aw_aload_n 0 dX0_writeNode_167 rfl rfl ?_
    refine aw_iload_n 1 dX0_writeNode_168 rfl rfl ?_
    refine aw_aload_n 0 dX0_writeNode_169 rfl rfl ?_
    refine aw_getf (v := .int τ72.1.1.2.1.1) fX0_109 0 rfl rfl dX0_writeNode_170 ?_
    refine aw_callVT (mc1 := 0) (ms1 := 0) (mc := 0) (ms := 0) (st := []) (q := 0) (As := [.int a1, .int τ72.1.1.2.1.1]) lX0_164 insX0_callFor selX0_callFor ⟨TX0, 12, rfl⟩ (by omega) (kX0_callFor (d := 3) (by omega) h) (Nat.le_of_ble_eq_true rfl) rfl rfl rfl dX0_writeNode_173 rfl (fun _ _ hh => ?_)
    obtain ⟨τ75, rfl, rfl, h⟩ := hh
    refine aw_stk (st' := []) rfl ?_
    refine aw_goto 259 dX0_writeNode_176 (by decide) ?_
    exact aw_vret rfl dX0_writeNode_259 ⟨τ75, rfl, rfl, h⟩
  have h := h.2 c70
  refine aw_tableOut 259 dX0_writeNode_8 (by have := lv_neT (a := 13) c3 rfl; have := lv_neT (a := 14) c6 rfl; have := lv_neT (a := 15) c9 rfl; have := lv_neT (a := 16) c23 rfl; have := lv_neT (a := 17) c31 rfl; have := lv_neT (a := 18) c34 rfl; have := lv_neT (a := 19) c40 rfl; have := lv_neT (a := 20) c45 rfl; have := lv_neT (a := 21) c50 rfl; have := lv_neT (a := 22) c53 rfl; have := lv_neT (a := 23) c56 rfl; have := lv_neT (a := 24) c62 rfl; have := lv_neT (a := 25) c67 rfl; have := lv_neT (a := 26) c70 rfl; omega) (by decide) ?_
  exact aw_vret rfl dX0_writeNode_259 ⟨((σ.1.1, τ2), σ.2), rfl, rfl, h⟩
def wb_X0_write_62  (post : WSX0 → Prop) (rec_62 : WSX0 × Int32 → Prop) (σ : WSX0) (x2 : Int32) : Prop :=
  wp_X4_size σ.1.2  (fun r15 τ16 => ((r15 ≤ x2 → wp_X0_writeEnd ((σ.1.1, τ16), σ.2) (0 : Int32) (fun τ18 => post τ18)) ∧ (¬ r15 ≤ x2 → wp_X0_writeNode ((σ.1.1, τ16), σ.2) x2 (fun τ20 => rec_62 (τ20, (x2 + 1))))))
def wp_X0_write_62  (post : WSX0 → Prop) (n : Nat) (σ : WSX0) (x2 : Int32) : Prop := aw_loop (fun r (a : WSX0 × Int32) => wb_X0_write_62  post r a.1 a.2) n (σ, x2)
theorem aw_X0_write_62 {G : aw_G} {d : Nat} (hd : 406 ≤ d) {post : WSX0 → Prop}  : ∀ (n : Nat) (σ : WSX0) (x2 : Int32), wp_X0_write_62  post n σ x2 → AW G MX0_write d 0 0 25 (aw_pv (wX0 G) post) 62 [(0, .ref 0), (2, .int x2)] [] (wX0 G σ) := by
  intro n
  induction n with
  | zero => intro σ x2 h; exact h.elim
  | succ n ih =>
    intro σ x2 h
    have hrec_62 : ∀ a : WSX0 × Int32, aw_loop (fun r (a : WSX0 × Int32) => wb_X0_write_62  post r a.1 a.2) n a → AW G MX0_write d 0 0 25 (aw_pv (wX0 G) post) 62 [(0, .ref 0), (2, .int a.2)] [] (wX0 G a.1) := fun a h => ih a.1 a.2 h
    have h : wb_X0_write_62  post (aw_loop (fun r (a : WSX0 × Int32) => wb_X0_write_62  post r a.1 a.2) n) σ x2 := h
    unfold wb_X0_write_62 at h
    refine aw_iload_n 1 dX0_write_62 rfl rfl ?_
    refine aw_aload_n 0 dX0_write_63 rfl rfl ?_
    refine aw_getf (v := .ref 2) fX0_17 0 rfl rfl dX0_write_64 ?_
    refine aw_callV (mc1 := 0) (ms1 := 0) (mc := 0) (ms := 0) (st := [.int x2]) (q := 2) (As := []) (vsc := []) lX0_63 insX4_size selX4_size ⟨TX4, 10, rfl⟩ (by omega) (kX4_size (d := 0) (by omega) h) [2, 16, 17, 18, 19, 20, 21, 22, 23, 24] rfl rfl rfl rfl rfl dX0_write_67 rfl rfl (fun _ _ hh => ?_)
    obtain ⟨r15, τ16, rfl, rfl, h⟩ := hh
    refine ⟨(wX0 G ((σ.1.1, τ16), σ.2)), [.int r15, .int x2], rfl, rfl, rfl, ?_⟩
    refine aw_icmp_ge 84 dX0_write_70 (by decide) (fun c21 => ?_) (fun c21 => ?_)
    · have h := h.1 c21
      refine aw_aload_n 0 dX0_write_84 rfl rfl ?_
      refine aw_iconst (v := (0 : Int32)) dX0_write_85 (by decide) ?_
      refine aw_callVT (mc1 := 0) (ms1 := 0) (mc := 0) (ms := 0) (st := []) (q := 0) (As := [.int (0 : Int32)]) lX0_72 insX0_writeEnd selX0_writeEnd ⟨TX0, 12, rfl⟩ (by omega) (kX0_writeEnd (d := 3) (by omega) h) (Nat.le_of_ble_eq_true rfl) rfl rfl rfl dX0_write_86 rfl (fun _ _ hh => ?_)
      obtain ⟨τ18, rfl, rfl, h⟩ := hh
      refine aw_stk (st' := []) rfl ?_
      exact aw_vret rfl dX0_write_89 ⟨τ18, rfl, rfl, h⟩
    · have h := h.2 c21
      refine aw_aload_n 0 dX0_write_73 rfl rfl ?_
      refine aw_iload_n 1 dX0_write_74 rfl rfl ?_
      refine aw_callVT (mc1 := 0) (ms1 := 0) (mc := 0) (ms := 0) (st := []) (q := 0) (As := [.int x2]) lX0_69 insX0_writeNode selX0_writeNode ⟨TX0, 12, rfl⟩ (by omega) (kX0_writeNode (d := 405) (by omega) h) (Nat.le_of_ble_eq_true rfl) rfl rfl rfl dX0_write_75 rfl (fun _ _ hh => ?_)
      obtain ⟨τ20, rfl, rfl, h⟩ := hh
      refine aw_stk (st' := []) rfl ?_
      refine aw_iinc 1 (v := (x2 + 1)) (lv' := [(2, .int (x2 + 1)), (0, .ref 0)]) dX0_write_78 rfl rfl (by decide) rfl ?_
      refine aw_goto 62 dX0_write_81 (by decide) ?_
      refine aw_lvsub (lv' := [(0, .ref 0), (2, .int (x2 + 1))]) [1, 0] rfl ?_
      exact hrec_62 (τ20, (x2 + 1)) h
def wp_X0_write (σ : WSX0) (post : WSX0 → Prop) : Prop :=
  wp_X2_wipe σ.2.2.2 (16384 : Int32) (fun τ2 => wp_X5_add (3 : Int32) (0 : Int32) ((-1) : Int32) (fun r3 τ4 => wp_X0_emit (((((σ.1.1.1.1.1, (2048 : Int32)), σ.1.1.1.2), (σ.1.1.2.1, (σ.1.1.2.2.1, ((0 : Int32), (0 : Int32))))), σ.1.2), (σ.2.1, (σ.2.2.1, τ2))) r3 (fun τ6 => wp_X0_emit τ6 (0 : Int32) (fun τ8 => wp_X0_writeCalls τ8  (fun τ10 => wp_X0_writeRowCalls τ10  (fun τ12 => wp_X0_closeJump τ12 τ6.1.1.1.1.2 (fun τ14 => (∃ n22, wp_X0_write_62  post n22 τ14 (0 : Int32)))))))))
theorem kX0_write {G : aw_G} {d : Nat} (hd : 406 ≤ d) {σ : WSX0} {post : WSX0 → Prop} (h : wp_X0_write σ post) : AC G MX0_write d 0 0 25 [.ref 0] (wX0 G σ) (aw_pv (wX0 G) post) := by
  refine AC.of (lv := [(0, .ref 0)]) (by decide) (Nat.le_of_ble_eq_true rfl) rfl ?_
  unfold wp_X0_write at h
  refine aw_aload_n 0 dX0_write_0 rfl rfl ?_
  refine aw_getf (v := .ref 12) fX0_25 0 rfl rfl dX0_write_1 ?_
  refine aw_sipush (v := (16384 : Int32)) dX0_write_4 (by decide) ?_
  refine aw_callV (mc1 := 0) (ms1 := 0) (mc := 0) (ms := 0) (st := []) (q := 12) (As := [.int (16384 : Int32)]) (vsc := [.int (16384 : Int32)]) lX0_31 insX2_wipe selX2_wipe ⟨TX2, 8, rfl⟩ (by omega) (kX2_wipe (d := 1) (by omega) h) [12, 13, 14, 15] rfl rfl rfl rfl rfl dX0_write_7 rfl rfl (fun _ _ hh => ?_)
  obtain ⟨τ2, rfl, rfl, h⟩ := hh
  refine ⟨(wX0 G (σ.1, (σ.2.1, (σ.2.2.1, τ2)))), [], rfl, rfl, rfl, ?_⟩
  refine aw_aload_n 0 dX0_write_10 rfl rfl ?_
  refine aw_sipush (v := (2048 : Int32)) dX0_write_11 (by decide) ?_
  refine aw_putf fX0_35 0 (w' := (wX0 G (((((σ.1.1.1.1.1, (2048 : Int32)), σ.1.1.1.2), σ.1.1.2), σ.1.2), (σ.2.1, (σ.2.2.1, τ2))))) rfl (fun _ => ⟨rfl, rfl⟩) (Nat.le_of_ble_eq_true rfl) rfl dX0_write_14 ?_
  refine aw_aload_n 0 dX0_write_17 rfl rfl ?_
  refine aw_iconst (v := (0 : Int32)) dX0_write_18 (by decide) ?_
  refine aw_putf fX0_39 0 (w' := (wX0 G (((((σ.1.1.1.1.1, (2048 : Int32)), σ.1.1.1.2), (σ.1.1.2.1, (σ.1.1.2.2.1, ((0 : Int32), σ.1.1.2.2.2.2)))), σ.1.2), (σ.2.1, (σ.2.2.1, τ2))))) rfl (fun _ => ⟨rfl, rfl⟩) (Nat.le_of_ble_eq_true rfl) rfl dX0_write_19 ?_
  refine aw_aload_n 0 dX0_write_22 rfl rfl ?_
  refine aw_iconst (v := (0 : Int32)) dX0_write_23 (by decide) ?_
  refine aw_putf fX0_42 0 (w' := (wX0 G (((((σ.1.1.1.1.1, (2048 : Int32)), σ.1.1.1.2), (σ.1.1.2.1, (σ.1.1.2.2.1, ((0 : Int32), (0 : Int32))))), σ.1.2), (σ.2.1, (σ.2.2.1, τ2))))) rfl (fun _ => ⟨rfl, rfl⟩) (Nat.le_of_ble_eq_true rfl) rfl dX0_write_24 ?_
  refine aw_aload_n 0 dX0_write_27 rfl rfl ?_
  refine aw_iconst (v := (3 : Int32)) dX0_write_28 (by decide) ?_
  refine aw_iconst (v := (0 : Int32)) dX0_write_29 (by decide) ?_
  refine aw_iconst (v := ((-1) : Int32)) dX0_write_30 (by decide) ?_
  refine aw_callST (st := [.ref 0]) (As := [.int (3 : Int32), .int (0 : Int32), .int ((-1) : Int32)]) lX0_45 sttX5_add (by omega) (kX5_add (d := 1) (by omega) h) rfl rfl rfl dX0_write_31 rfl (fun _ _ hh => ?_)
  obtain ⟨r3, τ4, rfl, rfl, h⟩ := hh
  refine ⟨rfl, (fun x hx => by cases hx; rfl), ?_⟩
  refine aw_stk (st' := [.int r3, .ref 0]) rfl ?_
  refine aw_callVT (mc1 := 0) (ms1 := 0) (mc := 0) (ms := 0) (st := []) (q := 0) (As := [.int r3]) lX0_51 insX0_emit selX0_emit ⟨TX0, 12, rfl⟩ (by omega) (kX0_emit (d := 2) (by omega) h) (Nat.le_of_ble_eq_true rfl) rfl rfl rfl dX0_write_34 rfl (fun _ _ hh => ?_)
  obtain ⟨τ6, rfl, rfl, h⟩ := hh
  refine aw_stk (st' := []) rfl ?_
  refine aw_aload_n 0 dX0_write_37 rfl rfl ?_
  refine aw_getf (v := .int τ6.1.1.1.1.2) fX0_35 0 rfl rfl dX0_write_38 ?_
  refine aw_istore_n (lv' := [(1, .int τ6.1.1.1.1.2), (0, .ref 0)]) dX0_write_41 rfl (by decide) rfl ?_
  refine aw_aload_n 1 dX0_write_42 rfl rfl ?_
  refine aw_iconst (v := (0 : Int32)) dX0_write_43 (by decide) ?_
  refine aw_callVT (mc1 := 0) (ms1 := 0) (mc := 0) (ms := 0) (st := []) (q := 0) (As := [.int (0 : Int32)]) lX0_51 insX0_emit selX0_emit ⟨TX0, 12, rfl⟩ (by omega) (kX0_emit (d := 2) (by omega) h) (Nat.le_of_ble_eq_true rfl) rfl rfl rfl dX0_write_44 rfl (fun _ _ hh => ?_)
  obtain ⟨τ8, rfl, rfl, h⟩ := hh
  refine aw_stk (st' := []) rfl ?_
  refine aw_aload_n 1 dX0_write_47 rfl rfl ?_
  refine aw_callVT (mc1 := 0) (ms1 := 0) (mc := 0) (ms := 0) (st := []) (q := 0) (As := []) lX0_54 insX0_writeCalls selX0_writeCalls ⟨TX0, 12, rfl⟩ (by omega) (kX0_writeCalls (d := 4) (by omega) h) (Nat.le_of_ble_eq_true rfl) rfl rfl rfl dX0_write_48 rfl (fun _ _ hh => ?_)
  obtain ⟨τ10, rfl, rfl, h⟩ := hh
  refine aw_stk (st' := []) rfl ?_
  refine aw_aload_n 1 dX0_write_51 rfl rfl ?_
  refine aw_callVT (mc1 := 0) (ms1 := 0) (mc := 0) (ms := 0) (st := []) (q := 0) (As := []) lX0_57 insX0_writeRowCalls selX0_writeRowCalls ⟨TX0, 12, rfl⟩ (by omega) (kX0_writeRowCalls (d := 5) (by omega) h) (Nat.le_of_ble_eq_true rfl) rfl rfl rfl dX0_write_52 rfl (fun _ _ hh => ?_)
  obtain ⟨τ12, rfl, rfl, h⟩ := hh
  refine aw_stk (st' := []) rfl ?_
  refine aw_aload_n 1 dX0_write_55 rfl rfl ?_
  refine aw_iload_n 0 dX0_write_56 rfl rfl ?_
  refine aw_callVT (mc1 := 0) (ms1 := 0) (mc := 0) (ms := 0) (st := []) (q := 0) (As := [.int τ6.1.1.1.1.2]) lX0_60 insX0_closeJump selX0_closeJump ⟨TX0, 12, rfl⟩ (by omega) (kX0_closeJump (d := 2) (by omega) h) (Nat.le_of_ble_eq_true rfl) rfl rfl rfl dX0_write_57 rfl (fun _ _ hh => ?_)
  obtain ⟨τ14, rfl, rfl, h⟩ := hh
  refine aw_stk (st' := []) rfl ?_
  refine aw_iconst (v := (0 : Int32)) dX0_write_60 (by decide) ?_
  refine aw_istore_n (lv' := [(2, .int (0 : Int32)), (1, .int τ6.1.1.1.1.2), (0, .ref 0)]) dX0_write_61 rfl (by decide) rfl ?_
  refine aw_lvsub (lv' := [(0, .ref 0), (2, .int (0 : Int32))]) [2, 0] rfl ?_
  obtain ⟨n22, h⟩ := h
  exact aw_X0_write_62 hd  n22 τ14 (0 : Int32) h
end WalkX0
