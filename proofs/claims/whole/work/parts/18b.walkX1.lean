section WalkX1
def wp_X1_wrong (σ : WSX1) (a1 : Int32) (a2 : Int32) (post : Int32 → WSX1 → Prop) : Prop :=
  post a1 (((a2, σ.1.1.2), σ.1.2), σ.2)
theorem kX1_wrong {G : aw_G} {d : Nat} (hd : 0 ≤ d) {σ : WSX1} {a1 : Int32} {a2 : Int32} {post : Int32 → WSX1 → Prop} (h : wp_X1_wrong σ a1 a2 post) : AC G MX1_wrong d 0 0 20 [.ref 0, .int a1, .int a2] (wX1 G σ) (aw_pi (wX1 G) post) := by
  refine AC.of (lv := [(0, .ref 0), (1, .int a1), (2, .int a2)]) (by decide) (Nat.le_of_ble_eq_true rfl) rfl ?_
  unfold wp_X1_wrong at h
  refine aw_aload_n 0 dX1_wrong_0 rfl rfl ?_
  refine aw_iload_n 2 dX1_wrong_1 rfl rfl ?_
  refine aw_putf fX1_23 0 (w' := (wX1 G (((a2, σ.1.1.2), σ.1.2), σ.2))) rfl (fun _ => ⟨rfl, rfl⟩) (Nat.le_of_ble_eq_true rfl) rfl dX1_wrong_2 ?_
  refine aw_iload_n 1 dX1_wrong_5 rfl rfl ?_
  exact aw_iret rfl dX1_wrong_6 ⟨_, (((a2, σ.1.1.2), σ.1.2), σ.2), rfl, rfl, h⟩
def wp_X1_wrongIf (σ : WSX1) (a1 : Int32) (a2 : Int32) (a3 : Int32) (post : Int32 → WSX1 → Prop) : Prop :=
  ((a1 = 0 → post (0 : Int32) σ) ∧ (¬ a1 = 0 → wp_X4_place σ.1.2 a3 (fun r1 τ2 => wp_X1_wrong ((σ.1.1, τ2), σ.2) a2 r1 (fun r3 τ4 => post r3 τ4))))
theorem kX1_wrongIf {G : aw_G} {d : Nat} (hd : 2 ≤ d) {σ : WSX1} {a1 : Int32} {a2 : Int32} {a3 : Int32} {post : Int32 → WSX1 → Prop} (h : wp_X1_wrongIf σ a1 a2 a3 post) : AC G MX1_wrongIf d 0 0 20 [.ref 0, .int a1, .int a2, .int a3] (wX1 G σ) (aw_pi (wX1 G) post) := by
  refine AC.of (lv := [(0, .ref 0), (1, .int a1), (2, .int a2), (3, .int a3)]) (by decide) (Nat.le_of_ble_eq_true rfl) rfl ?_
  unfold wp_X1_wrongIf at h
  refine aw_iload_n 1 dX1_wrongIf_0 rfl rfl ?_
  refine aw_if_eq 20 dX1_wrongIf_1 (by decide) (fun c5 => ?_) (fun c5 => ?_)
  · have h := h.1 c5
    refine aw_iconst (v := (0 : Int32)) dX1_wrongIf_20 (by decide) ?_
    exact aw_iret rfl dX1_wrongIf_21 ⟨_, σ, rfl, rfl, h⟩
  · have h := h.2 c5
    refine aw_aload_n 0 dX1_wrongIf_4 rfl rfl ?_
    refine aw_iload_n 2 dX1_wrongIf_5 rfl rfl ?_
    refine aw_aload_n 0 dX1_wrongIf_6 rfl rfl ?_
    refine aw_getf (v := .ref 1) fX1_9 0 rfl rfl dX1_wrongIf_7 ?_
    refine aw_iload_n 3 dX1_wrongIf_10 rfl rfl ?_
    refine aw_callV (mc1 := 0) (ms1 := 0) (mc := 0) (ms := 0) (st := [.int a2, .ref 0]) (q := 1) (As := [.int a3]) (vsc := [.int a3]) lX1_78 insX4_place selX4_place ⟨TX4, 10, rfl⟩ (by omega) (kX4_place (d := 1) (by omega) h) [1, 11, 12, 13, 14, 15, 16, 17, 18, 19] rfl rfl rfl rfl rfl dX1_wrongIf_11 rfl rfl (fun _ _ hh => ?_)
    obtain ⟨r1, τ2, rfl, rfl, h⟩ := hh
    refine ⟨(wX1 G ((σ.1.1, τ2), σ.2)), [.int r1, .int a2, .ref 0], rfl, rfl, rfl, ?_⟩
    refine aw_callVT (mc1 := 0) (ms1 := 0) (mc := 0) (ms := 0) (st := []) (q := 0) (As := [.int a2, .int r1]) lX1_81 insX1_wrong selX1_wrong ⟨TX1, 4, rfl⟩ (by omega) (kX1_wrong (d := 0) (by omega) h) (Nat.le_of_ble_eq_true rfl) rfl rfl rfl dX1_wrongIf_14 rfl (fun _ _ hh => ?_)
    obtain ⟨r3, τ4, rfl, rfl, h⟩ := hh
    refine aw_stk (st' := [.int r3]) rfl ?_
    refine aw_goto 21 dX1_wrongIf_17 (by decide) ?_
    exact aw_iret rfl dX1_wrongIf_21 ⟨_, τ4, rfl, rfl, h⟩
def wp_X1_lookAtDeclaration_109  (post : Int32 → WSX1 → Prop) (σ : WSX1) (x1 : Int32) (s0 : Int32) : Prop :=
  wp_X1_wrongIf σ s0 (2 : Int32) x1 (fun r11 τ12 => post r11 τ12)
theorem aw_X1_lookAtDeclaration_109 {G : aw_G} {d : Nat} (hd : 4 ≤ d) {post : Int32 → WSX1 → Prop}  {σ : WSX1} {x1 : Int32} {s0 : Int32} (h : wp_X1_lookAtDeclaration_109  post σ x1 s0) : AW G MX1_lookAtDeclaration d 0 0 20 (aw_pi (wX1 G) post) 109 [(1, .int x1)] [.int s0, .ref 0] (wX1 G σ) := by
  unfold wp_X1_lookAtDeclaration_109 at h
  refine aw_iconst (v := (2 : Int32)) dX1_lookAtDeclaration_109 (by decide) ?_
  refine aw_iload_n 0 dX1_lookAtDeclaration_110 rfl rfl ?_
  refine aw_callVT (mc1 := 0) (ms1 := 0) (mc := 0) (ms := 0) (st := []) (q := 0) (As := [.int s0, .int (2 : Int32), .int x1]) lX1_49 insX1_wrongIf selX1_wrongIf ⟨TX1, 4, rfl⟩ (by omega) (kX1_wrongIf (d := 2) (by omega) h) (Nat.le_of_ble_eq_true rfl) rfl rfl rfl dX1_lookAtDeclaration_111 rfl (fun _ _ hh => ?_)
  obtain ⟨r11, τ12, rfl, rfl, h⟩ := hh
  refine aw_stk (st' := [.int r11]) rfl ?_
  exact aw_iret rfl dX1_lookAtDeclaration_114 ⟨_, τ12, rfl, rfl, h⟩
def wp_X1_lookAtDeclaration_83  (post : Int32 → WSX1 → Prop) (σ : WSX1) (x1 : Int32) (x2 : Int32) (x3 : Int32) : Prop :=
  wp_X4_value σ.1.2 x1 (fun r7 τ8 => wp_X3_declare σ.2 x2 x3 r7 (fun r9 τ10 => ((¬ r9 = 0 → wp_X1_lookAtDeclaration_109  post ((σ.1.1, τ8), τ10) x1 (0 : Int32)) ∧ (r9 = 0 → wp_X1_lookAtDeclaration_109  post ((σ.1.1, τ8), τ10) x1 (1 : Int32)))))
theorem aw_X1_lookAtDeclaration_83 {G : aw_G} {d : Nat} (hd : 4 ≤ d) {post : Int32 → WSX1 → Prop}  {σ : WSX1} {x1 : Int32} {x2 : Int32} {x3 : Int32} (h : wp_X1_lookAtDeclaration_83  post σ x1 x2 x3) : AW G MX1_lookAtDeclaration d 0 0 20 (aw_pi (wX1 G) post) 83 [(0, .ref 0), (1, .int x1), (2, .int x2), (3, .int x3)] [] (wX1 G σ) := by
  unfold wp_X1_lookAtDeclaration_83 at h
  refine aw_aload_n 0 dX1_lookAtDeclaration_83 rfl rfl ?_
  refine aw_aload_n 0 dX1_lookAtDeclaration_84 rfl rfl ?_
  refine aw_getf (v := .ref 2) fX1_15 0 rfl rfl dX1_lookAtDeclaration_85 ?_
  refine aw_iload_n 2 dX1_lookAtDeclaration_88 rfl rfl ?_
  refine aw_iload_n 3 dX1_lookAtDeclaration_89 rfl rfl ?_
  refine aw_aload_n 0 dX1_lookAtDeclaration_90 rfl rfl ?_
  refine aw_getf (v := .ref 1) fX1_9 0 rfl rfl dX1_lookAtDeclaration_91 ?_
  refine aw_iload_n 1 dX1_lookAtDeclaration_94 rfl rfl ?_
  refine aw_callV (mc1 := 0) (ms1 := 0) (mc := 0) (ms := 0) (st := [.int x3, .int x2, .ref 2, .ref 0]) (q := 1) (As := [.int x1]) (vsc := [.int x1]) lX1_53 insX4_value selX4_value ⟨TX4, 10, rfl⟩ (by omega) (kX4_value (d := 1) (by omega) h) [1, 11, 12, 13, 14, 15, 16, 17, 18, 19] rfl rfl rfl rfl rfl dX1_lookAtDeclaration_95 rfl rfl (fun _ _ hh => ?_)
  obtain ⟨r7, τ8, rfl, rfl, h⟩ := hh
  refine ⟨(wX1 G ((σ.1.1, τ8), σ.2)), [.int r7, .int x3, .int x2, .ref 2, .ref 0], rfl, rfl, rfl, ?_⟩
  refine aw_callV (mc1 := 0) (ms1 := 0) (mc := 0) (ms := 0) (st := [.ref 0]) (q := 2) (As := [.int x2, .int x3, .int r7]) (vsc := [.int x2, .int x3, .int r7]) lX1_88 insX3_declare selX3_declare ⟨TX3, 11, rfl⟩ (by omega) (kX3_declare (d := 1) (by omega) h) [2, 3, 4, 5, 6, 7, 8, 9, 10] rfl rfl rfl rfl rfl dX1_lookAtDeclaration_98 rfl rfl (fun _ _ hh => ?_)
  obtain ⟨r9, τ10, rfl, rfl, h⟩ := hh
  refine ⟨(wX1 G ((σ.1.1, τ8), τ10)), [.int r9, .ref 0], rfl, rfl, rfl, ?_⟩
  refine aw_if_ne 108 dX1_lookAtDeclaration_101 (by decide) (fun c13 => ?_) (fun c13 => ?_)
  · have h := h.1 c13
    refine aw_iconst (v := (0 : Int32)) dX1_lookAtDeclaration_108 (by decide) ?_
    refine aw_lvsub (lv' := [(1, .int x1)]) [1] rfl ?_
    exact aw_X1_lookAtDeclaration_109 hd  h
  · have h := h.2 c13
    refine aw_iconst (v := (1 : Int32)) dX1_lookAtDeclaration_104 (by decide) ?_
    refine aw_goto 109 dX1_lookAtDeclaration_105 (by decide) ?_
    refine aw_lvsub (lv' := [(1, .int x1)]) [1] rfl ?_
    exact aw_X1_lookAtDeclaration_109 hd  h
def wp_X1_lookAtDeclaration_67  (post : Int32 → WSX1 → Prop) (σ : WSX1) (x1 : Int32) : Prop :=
  wp_X4_place σ.1.2 (x1 + (1 : Int32)) (fun r16 τ17 => wp_X1_wrong ((σ.1.1, τ17), σ.2) (2 : Int32) r16 (fun r18 τ19 => post r18 τ19))
theorem aw_X1_lookAtDeclaration_67 {G : aw_G} {d : Nat} (hd : 4 ≤ d) {post : Int32 → WSX1 → Prop}  {σ : WSX1} {x1 : Int32} (h : wp_X1_lookAtDeclaration_67  post σ x1) : AW G MX1_lookAtDeclaration d 0 0 20 (aw_pi (wX1 G) post) 67 [(0, .ref 0), (1, .int x1)] [] (wX1 G σ) := by
  unfold wp_X1_lookAtDeclaration_67 at h
  refine aw_aload_n 0 dX1_lookAtDeclaration_67 rfl rfl ?_
  refine aw_iconst (v := (2 : Int32)) dX1_lookAtDeclaration_68 (by decide) ?_
  refine aw_aload_n 0 dX1_lookAtDeclaration_69 rfl rfl ?_
  refine aw_getf (v := .ref 1) fX1_9 0 rfl rfl dX1_lookAtDeclaration_70 ?_
  refine aw_iload_n 1 dX1_lookAtDeclaration_73 rfl rfl ?_
  refine aw_iconst (v := (1 : Int32)) dX1_lookAtDeclaration_74 (by decide) ?_
  refine aw_iadd dX1_lookAtDeclaration_75 ?_
  refine aw_callV (mc1 := 0) (ms1 := 0) (mc := 0) (ms := 0) (st := [.int (2 : Int32), .ref 0]) (q := 1) (As := [.int (x1 + (1 : Int32))]) (vsc := [.int (x1 + (1 : Int32))]) lX1_78 insX4_place selX4_place ⟨TX4, 10, rfl⟩ (by omega) (kX4_place (d := 1) (by omega) h) [1, 11, 12, 13, 14, 15, 16, 17, 18, 19] rfl rfl rfl rfl rfl dX1_lookAtDeclaration_76 rfl rfl (fun _ _ hh => ?_)
  obtain ⟨r16, τ17, rfl, rfl, h⟩ := hh
  refine ⟨(wX1 G ((σ.1.1, τ17), σ.2)), [.int r16, .int (2 : Int32), .ref 0], rfl, rfl, rfl, ?_⟩
  refine aw_callVT (mc1 := 0) (ms1 := 0) (mc := 0) (ms := 0) (st := []) (q := 0) (As := [.int (2 : Int32), .int r16]) lX1_81 insX1_wrong selX1_wrong ⟨TX1, 4, rfl⟩ (by omega) (kX1_wrong (d := 0) (by omega) h) (Nat.le_of_ble_eq_true rfl) rfl rfl rfl dX1_lookAtDeclaration_79 rfl (fun _ _ hh => ?_)
  obtain ⟨r18, τ19, rfl, rfl, h⟩ := hh
  refine aw_stk (st' := [.int r18]) rfl ?_
  exact aw_iret rfl dX1_lookAtDeclaration_82 ⟨_, τ19, rfl, rfl, h⟩
def wp_X1_lookAtDeclaration (σ : WSX1) (a1 : Int32) (post : Int32 → WSX1 → Prop) : Prop :=
  wp_X4_place σ.1.2 a1 (fun r1 τ2 => wp_X3_find σ.2 r1 (fun r3 τ4 => ((r3 = ((-1) : Int32) → wp_X4_kind τ2 (a1 + (1 : Int32)) (fun r5 τ6 => ((¬ r5 = (12 : Int32) → wp_X1_lookAtDeclaration_83  post ((σ.1.1, τ6), τ4) a1 r1 (0 : Int32)) ∧ (r5 = (12 : Int32) → wp_X4_value τ6 (a1 + (1 : Int32)) (fun r14 τ15 => ((r14 < (1 : Int32) → wp_X1_lookAtDeclaration_67  post ((σ.1.1, τ15), τ4) a1) ∧ (¬ r14 < (1 : Int32) → ((r14 ≤ (64 : Int32) → wp_X1_lookAtDeclaration_83  post ((σ.1.1, τ15), τ4) a1 r1 r14) ∧ (¬ r14 ≤ (64 : Int32) → wp_X1_lookAtDeclaration_67  post ((σ.1.1, τ15), τ4) a1))))))))) ∧ (¬ r3 = ((-1) : Int32) → wp_X1_wrong ((σ.1.1, τ2), τ4) (1 : Int32) r1 (fun r23 τ24 => post r23 τ24)))))
theorem kX1_lookAtDeclaration {G : aw_G} {d : Nat} (hd : 4 ≤ d) {σ : WSX1} {a1 : Int32} {post : Int32 → WSX1 → Prop} (h : wp_X1_lookAtDeclaration σ a1 post) : AC G MX1_lookAtDeclaration d 0 0 20 [.ref 0, .int a1] (wX1 G σ) (aw_pi (wX1 G) post) := by
  refine AC.of (lv := [(0, .ref 0), (1, .int a1)]) (by decide) (Nat.le_of_ble_eq_true rfl) rfl ?_
  unfold wp_X1_lookAtDeclaration at h
  refine aw_aload_n 0 dX1_lookAtDeclaration_0 rfl rfl ?_
  refine aw_getf (v := .ref 1) fX1_9 0 rfl rfl dX1_lookAtDeclaration_1 ?_
  refine aw_iload_n 1 dX1_lookAtDeclaration_4 rfl rfl ?_
  refine aw_callV (mc1 := 0) (ms1 := 0) (mc := 0) (ms := 0) (st := []) (q := 1) (As := [.int a1]) (vsc := [.int a1]) lX1_78 insX4_place selX4_place ⟨TX4, 10, rfl⟩ (by omega) (kX4_place (d := 1) (by omega) h) [1, 11, 12, 13, 14, 15, 16, 17, 18, 19] rfl rfl rfl rfl rfl dX1_lookAtDeclaration_5 rfl rfl (fun _ _ hh => ?_)
  obtain ⟨r1, τ2, rfl, rfl, h⟩ := hh
  refine ⟨(wX1 G ((σ.1.1, τ2), σ.2)), [.int r1], rfl, rfl, rfl, ?_⟩
  refine aw_istore_n (lv' := [(2, .int r1), (0, .ref 0), (1, .int a1)]) dX1_lookAtDeclaration_8 rfl (by decide) rfl ?_
  refine aw_aload_n 1 dX1_lookAtDeclaration_9 rfl rfl ?_
  refine aw_getf (v := .ref 2) fX1_15 0 rfl rfl dX1_lookAtDeclaration_10 ?_
  refine aw_iload_n 0 dX1_lookAtDeclaration_13 rfl rfl ?_
  refine aw_callV (mc1 := 0) (ms1 := 0) (mc := 0) (ms := 0) (st := []) (q := 2) (As := [.int r1]) (vsc := [.int r1]) lX1_85 insX3_find selX3_find ⟨TX3, 11, rfl⟩ (by omega) (kX3_find (d := 3) (by omega) h) [2, 3, 4, 5, 6, 7, 8, 9, 10] rfl rfl rfl rfl rfl dX1_lookAtDeclaration_14 rfl rfl (fun _ _ hh => ?_)
  obtain ⟨r3, τ4, rfl, rfl, h⟩ := hh
  refine ⟨(wX1 G ((σ.1.1, τ2), τ4)), [.int r3], rfl, rfl, rfl, ?_⟩
  refine aw_iconst (v := ((-1) : Int32)) dX1_lookAtDeclaration_17 (by decide) ?_
  refine aw_icmp_eq 28 dX1_lookAtDeclaration_18 (by decide) (fun c25 => ?_) (fun c25 => ?_)
  · have h := h.1 c25
    refine aw_iconst (v := (0 : Int32)) dX1_lookAtDeclaration_28 (by decide) ?_
    refine aw_istore_n (lv' := [(3, .int (0 : Int32)), (2, .int r1), (0, .ref 0), (1, .int a1)]) dX1_lookAtDeclaration_29 rfl (by decide) rfl ?_
    refine aw_aload_n 2 dX1_lookAtDeclaration_30 rfl rfl ?_
    refine aw_getf (v := .ref 1) fX1_9 0 rfl rfl dX1_lookAtDeclaration_31 ?_
    refine aw_iload_n 3 dX1_lookAtDeclaration_34 rfl rfl ?_
    refine aw_iconst (v := (1 : Int32)) dX1_lookAtDeclaration_35 (by decide) ?_
    refine aw_iadd dX1_lookAtDeclaration_36 ?_
    refine aw_callV (mc1 := 0) (ms1 := 0) (mc := 0) (ms := 0) (st := []) (q := 1) (As := [.int (a1 + (1 : Int32))]) (vsc := [.int (a1 + (1 : Int32))]) lX1_36 insX4_kind selX4_kind ⟨TX4, 10, rfl⟩ (by omega) (kX4_kind (d := 1) (by omega) h) [1, 11, 12, 13, 14, 15, 16, 17, 18, 19] rfl rfl rfl rfl rfl dX1_lookAtDeclaration_37 rfl rfl (fun _ _ hh => ?_)
    obtain ⟨r5, τ6, rfl, rfl, h⟩ := hh
    refine ⟨(wX1 G ((σ.1.1, τ6), τ4)), [.int r5], rfl, rfl, rfl, ?_⟩
    refine aw_bipush (v := (12 : Int32)) dX1_lookAtDeclaration_40 (by decide) ?_
    refine aw_icmp_ne 83 dX1_lookAtDeclaration_42 (by decide) (fun c22 => ?_) (fun c22 => ?_)
    · have h := h.1 c22
      refine aw_lvsub (lv' := [(0, .ref 0), (1, .int a1), (2, .int r1), (3, .int (0 : Int32))]) [2, 3, 1, 0] rfl ?_
      exact aw_X1_lookAtDeclaration_83 hd  h
    · have h := h.2 c22
      refine aw_aload_n 2 dX1_lookAtDeclaration_45 rfl rfl ?_
      refine aw_getf (v := .ref 1) fX1_9 0 rfl rfl dX1_lookAtDeclaration_46 ?_
      refine aw_iload_n 3 dX1_lookAtDeclaration_49 rfl rfl ?_
      refine aw_iconst (v := (1 : Int32)) dX1_lookAtDeclaration_50 (by decide) ?_
      refine aw_iadd dX1_lookAtDeclaration_51 ?_
      refine aw_callV (mc1 := 0) (ms1 := 0) (mc := 0) (ms := 0) (st := []) (q := 1) (As := [.int (a1 + (1 : Int32))]) (vsc := [.int (a1 + (1 : Int32))]) lX1_53 insX4_value selX4_value ⟨TX4, 10, rfl⟩ (by omega) (kX4_value (d := 1) (by omega) h) [1, 11, 12, 13, 14, 15, 16, 17, 18, 19] rfl rfl rfl rfl rfl dX1_lookAtDeclaration_52 rfl rfl (fun _ _ hh => ?_)
      obtain ⟨r14, τ15, rfl, rfl, h⟩ := hh
      refine ⟨(wX1 G ((σ.1.1, τ15), τ4)), [.int r14], rfl, rfl, rfl, ?_⟩
      refine aw_istore_n (lv' := [(3, .int r14), (2, .int r1), (0, .ref 0), (1, .int a1)]) dX1_lookAtDeclaration_55 rfl (by decide) rfl ?_
      refine aw_iload_n 0 dX1_lookAtDeclaration_56 rfl rfl ?_
      refine aw_iconst (v := (1 : Int32)) dX1_lookAtDeclaration_57 (by decide) ?_
      refine aw_icmp_lt 67 dX1_lookAtDeclaration_58 (by decide) (fun c21 => ?_) (fun c21 => ?_)
      · have h := h.1 c21
        refine aw_lvsub (lv' := [(0, .ref 0), (1, .int a1)]) [2, 3] rfl ?_
        exact aw_X1_lookAtDeclaration_67 hd  h
      · have h := h.2 c21
        refine aw_iload_n 0 dX1_lookAtDeclaration_61 rfl rfl ?_
        refine aw_bipush (v := (64 : Int32)) dX1_lookAtDeclaration_62 (by decide) ?_
        refine aw_icmp_le 83 dX1_lookAtDeclaration_64 (by decide) (fun c20 => ?_) (fun c20 => ?_)
        · have h := h.1 c20
          refine aw_lvsub (lv' := [(0, .ref 0), (1, .int a1), (2, .int r1), (3, .int r14)]) [2, 3, 1, 0] rfl ?_
          exact aw_X1_lookAtDeclaration_83 hd  h
        · have h := h.2 c20
          refine aw_lvsub (lv' := [(0, .ref 0), (1, .int a1)]) [2, 3] rfl ?_
          exact aw_X1_lookAtDeclaration_67 hd  h
  · have h := h.2 c25
    refine aw_aload_n 1 dX1_lookAtDeclaration_21 rfl rfl ?_
    refine aw_iconst (v := (1 : Int32)) dX1_lookAtDeclaration_22 (by decide) ?_
    refine aw_iload_n 0 dX1_lookAtDeclaration_23 rfl rfl ?_
    refine aw_callVT (mc1 := 0) (ms1 := 0) (mc := 0) (ms := 0) (st := []) (q := 0) (As := [.int (1 : Int32), .int r1]) lX1_81 insX1_wrong selX1_wrong ⟨TX1, 4, rfl⟩ (by omega) (kX1_wrong (d := 0) (by omega) h) (Nat.le_of_ble_eq_true rfl) rfl rfl rfl dX1_lookAtDeclaration_24 rfl (fun _ _ hh => ?_)
    obtain ⟨r23, τ24, rfl, rfl, h⟩ := hh
    refine aw_stk (st' := [.int r23]) rfl ?_
    exact aw_iret rfl dX1_lookAtDeclaration_27 ⟨_, τ24, rfl, rfl, h⟩
def wp_X1_lookAtTarget_123  (post : Int32 → WSX1 → Prop) (σ : WSX1) (x1 : Int32) (s0 : Int32) : Prop :=
  wp_X1_wrongIf σ s0 (3 : Int32) x1 (fun r11 τ12 => post r11 τ12)
theorem aw_X1_lookAtTarget_123 {G : aw_G} {d : Nat} (hd : 4 ≤ d) {post : Int32 → WSX1 → Prop}  {σ : WSX1} {x1 : Int32} {s0 : Int32} (h : wp_X1_lookAtTarget_123  post σ x1 s0) : AW G MX1_lookAtTarget d 0 0 20 (aw_pi (wX1 G) post) 123 [(1, .int x1)] [.int s0, .ref 0] (wX1 G σ) := by
  unfold wp_X1_lookAtTarget_123 at h
  refine aw_iconst (v := (3 : Int32)) dX1_lookAtTarget_123 (by decide) ?_
  refine aw_iload_n 0 dX1_lookAtTarget_124 rfl rfl ?_
  refine aw_callVT (mc1 := 0) (ms1 := 0) (mc := 0) (ms := 0) (st := []) (q := 0) (As := [.int s0, .int (3 : Int32), .int x1]) lX1_49 insX1_wrongIf selX1_wrongIf ⟨TX1, 4, rfl⟩ (by omega) (kX1_wrongIf (d := 2) (by omega) h) (Nat.le_of_ble_eq_true rfl) rfl rfl rfl dX1_lookAtTarget_125 rfl (fun _ _ hh => ?_)
  obtain ⟨r11, τ12, rfl, rfl, h⟩ := hh
  refine aw_stk (st' := [.int r11]) rfl ?_
  exact aw_iret rfl dX1_lookAtTarget_128 ⟨_, τ12, rfl, rfl, h⟩
def wp_X1_lookAtTarget_115  (post : Int32 → WSX1 → Prop) (σ : WSX1) (x1 : Int32) (s0 : Int32) (s1 : Int32) : Prop :=
  ((s1 = s0 → wp_X1_lookAtTarget_123  post σ x1 (0 : Int32)) ∧ (¬ s1 = s0 → wp_X1_lookAtTarget_123  post σ x1 (1 : Int32)))
theorem aw_X1_lookAtTarget_115 {G : aw_G} {d : Nat} (hd : 4 ≤ d) {post : Int32 → WSX1 → Prop}  {σ : WSX1} {x1 : Int32} {s0 : Int32} {s1 : Int32} (h : wp_X1_lookAtTarget_115  post σ x1 s0 s1) : AW G MX1_lookAtTarget d 0 0 20 (aw_pi (wX1 G) post) 115 [(1, .int x1)] [.int s0, .int s1, .ref 0] (wX1 G σ) := by
  unfold wp_X1_lookAtTarget_115 at h
  refine aw_icmp_eq 122 dX1_lookAtTarget_115 (by decide) (fun c13 => ?_) (fun c13 => ?_)
  · have h := h.1 c13
    refine aw_iconst (v := (0 : Int32)) dX1_lookAtTarget_122 (by decide) ?_
    exact aw_X1_lookAtTarget_123 hd  h
  · have h := h.2 c13
    refine aw_iconst (v := (1 : Int32)) dX1_lookAtTarget_118 (by decide) ?_
    refine aw_goto 123 dX1_lookAtTarget_119 (by decide) ?_
    exact aw_X1_lookAtTarget_123 hd  h
def wp_X1_lookAtTarget_88  (post : Int32 → WSX1 → Prop) (σ : WSX1) (x1 : Int32) (x2 : Int32) : Prop :=
  wp_X3_isRow σ.2 x2 (fun r7 τ8 => wp_X4_kind σ.1.2 x1 (fun r9 τ10 => ((¬ r9 = (14 : Int32) → wp_X1_lookAtTarget_115  post ((σ.1.1, τ10), τ8) x1 (0 : Int32) r7) ∧ (r9 = (14 : Int32) → wp_X1_lookAtTarget_115  post ((σ.1.1, τ10), τ8) x1 (1 : Int32) r7))))
theorem aw_X1_lookAtTarget_88 {G : aw_G} {d : Nat} (hd : 4 ≤ d) {post : Int32 → WSX1 → Prop}  {σ : WSX1} {x1 : Int32} {x2 : Int32} (h : wp_X1_lookAtTarget_88  post σ x1 x2) : AW G MX1_lookAtTarget d 0 0 20 (aw_pi (wX1 G) post) 88 [(0, .ref 0), (1, .int x1), (2, .int x2)] [] (wX1 G σ) := by
  unfold wp_X1_lookAtTarget_88 at h
  refine aw_aload_n 0 dX1_lookAtTarget_88 rfl rfl ?_
  refine aw_aload_n 0 dX1_lookAtTarget_89 rfl rfl ?_
  refine aw_getf (v := .ref 2) fX1_15 0 rfl rfl dX1_lookAtTarget_90 ?_
  refine aw_iload_n 2 dX1_lookAtTarget_93 rfl rfl ?_
  refine aw_callV (mc1 := 0) (ms1 := 0) (mc := 0) (ms := 0) (st := [.ref 0]) (q := 2) (As := [.int x2]) (vsc := [.int x2]) lX1_96 insX3_isRow selX3_isRow ⟨TX3, 11, rfl⟩ (by omega) (kX3_isRow (d := 2) (by omega) h) [2, 3, 4, 5, 6, 7, 8, 9, 10] rfl rfl rfl rfl rfl dX1_lookAtTarget_94 rfl rfl (fun _ _ hh => ?_)
  obtain ⟨r7, τ8, rfl, rfl, h⟩ := hh
  refine ⟨(wX1 G (σ.1, τ8)), [.int r7, .ref 0], rfl, rfl, rfl, ?_⟩
  refine aw_aload_n 0 dX1_lookAtTarget_97 rfl rfl ?_
  refine aw_getf (v := .ref 1) fX1_9 0 rfl rfl dX1_lookAtTarget_98 ?_
  refine aw_iload_n 1 dX1_lookAtTarget_101 rfl rfl ?_
  refine aw_callV (mc1 := 0) (ms1 := 0) (mc := 0) (ms := 0) (st := [.int r7, .ref 0]) (q := 1) (As := [.int x1]) (vsc := [.int x1]) lX1_36 insX4_kind selX4_kind ⟨TX4, 10, rfl⟩ (by omega) (kX4_kind (d := 1) (by omega) h) [1, 11, 12, 13, 14, 15, 16, 17, 18, 19] rfl rfl rfl rfl rfl dX1_lookAtTarget_102 rfl rfl (fun _ _ hh => ?_)
  obtain ⟨r9, τ10, rfl, rfl, h⟩ := hh
  refine ⟨(wX1 G ((σ.1.1, τ10), τ8)), [.int r9, .int r7, .ref 0], rfl, rfl, rfl, ?_⟩
  refine aw_bipush (v := (14 : Int32)) dX1_lookAtTarget_105 (by decide) ?_
  refine aw_icmp_ne 114 dX1_lookAtTarget_107 (by decide) (fun c14 => ?_) (fun c14 => ?_)
  · have h := h.1 c14
    refine aw_iconst (v := (0 : Int32)) dX1_lookAtTarget_114 (by decide) ?_
    refine aw_lvsub (lv' := [(1, .int x1)]) [1] rfl ?_
    exact aw_X1_lookAtTarget_115 hd  h
  · have h := h.2 c14
    refine aw_iconst (v := (1 : Int32)) dX1_lookAtTarget_110 (by decide) ?_
    refine aw_goto 115 dX1_lookAtTarget_111 (by decide) ?_
    refine aw_lvsub (lv' := [(1, .int x1)]) [1] rfl ?_
    exact aw_X1_lookAtTarget_115 hd  h
def wp_X1_lookAtTarget_73  (post : Int32 → WSX1 → Prop) (σ : WSX1) (x1 : Int32) : Prop :=
  wp_X4_place σ.1.2 x1 (fun r17 τ18 => wp_X1_wrong ((σ.1.1, τ18), σ.2) (8 : Int32) r17 (fun r19 τ20 => post r19 τ20))
theorem aw_X1_lookAtTarget_73 {G : aw_G} {d : Nat} (hd : 4 ≤ d) {post : Int32 → WSX1 → Prop}  {σ : WSX1} {x1 : Int32} (h : wp_X1_lookAtTarget_73  post σ x1) : AW G MX1_lookAtTarget d 0 0 20 (aw_pi (wX1 G) post) 73 [(0, .ref 0), (1, .int x1)] [] (wX1 G σ) := by
  unfold wp_X1_lookAtTarget_73 at h
  refine aw_aload_n 0 dX1_lookAtTarget_73 rfl rfl ?_
  refine aw_bipush (v := (8 : Int32)) dX1_lookAtTarget_74 (by decide) ?_
  refine aw_aload_n 0 dX1_lookAtTarget_76 rfl rfl ?_
  refine aw_getf (v := .ref 1) fX1_9 0 rfl rfl dX1_lookAtTarget_77 ?_
  refine aw_iload_n 1 dX1_lookAtTarget_80 rfl rfl ?_
  refine aw_callV (mc1 := 0) (ms1 := 0) (mc := 0) (ms := 0) (st := [.int (8 : Int32), .ref 0]) (q := 1) (As := [.int x1]) (vsc := [.int x1]) lX1_78 insX4_place selX4_place ⟨TX4, 10, rfl⟩ (by omega) (kX4_place (d := 1) (by omega) h) [1, 11, 12, 13, 14, 15, 16, 17, 18, 19] rfl rfl rfl rfl rfl dX1_lookAtTarget_81 rfl rfl (fun _ _ hh => ?_)
  obtain ⟨r17, τ18, rfl, rfl, h⟩ := hh
  refine ⟨(wX1 G ((σ.1.1, τ18), σ.2)), [.int r17, .int (8 : Int32), .ref 0], rfl, rfl, rfl, ?_⟩
  refine aw_callVT (mc1 := 0) (ms1 := 0) (mc := 0) (ms := 0) (st := []) (q := 0) (As := [.int (8 : Int32), .int r17]) lX1_81 insX1_wrong selX1_wrong ⟨TX1, 4, rfl⟩ (by omega) (kX1_wrong (d := 0) (by omega) h) (Nat.le_of_ble_eq_true rfl) rfl rfl rfl dX1_lookAtTarget_84 rfl (fun _ _ hh => ?_)
  obtain ⟨r19, τ20, rfl, rfl, h⟩ := hh
  refine aw_stk (st' := [.int r19]) rfl ?_
  exact aw_iret rfl dX1_lookAtTarget_87 ⟨_, τ20, rfl, rfl, h⟩
def wp_X1_lookAtTarget (σ : WSX1) (a1 : Int32) (post : Int32 → WSX1 → Prop) : Prop :=
  wp_X4_place σ.1.2 a1 (fun r1 τ2 => wp_X3_find σ.2 r1 (fun r3 τ4 => ((¬ r3 = ((-1) : Int32) → wp_X4_keepValue τ2 a1 r3 (fun τ6 => ((σ.1.1.2 ≤ 0 → wp_X1_lookAtTarget_88  post ((σ.1.1, τ6), τ4) a1 r3) ∧ (¬ σ.1.1.2 ≤ 0 → wp_X3_isRow τ4 r3 (fun r15 τ16 => ((¬ r15 = 0 → wp_X1_lookAtTarget_73  post ((σ.1.1, τ6), τ16) a1) ∧ (r15 = 0 → wp_X3_secret τ16 r3 (fun r21 τ22 => ((¬ r21 = 0 → wp_X1_lookAtTarget_88  post ((σ.1.1, τ6), τ22) a1 r3) ∧ (r21 = 0 → wp_X1_lookAtTarget_73  post ((σ.1.1, τ6), τ22) a1)))))))))) ∧ (r3 = ((-1) : Int32) → wp_X4_place τ2 a1 (fun r26 τ27 => wp_X1_wrong ((σ.1.1, τ27), τ4) (1 : Int32) r26 (fun r28 τ29 => post r28 τ29))))))
theorem kX1_lookAtTarget {G : aw_G} {d : Nat} (hd : 4 ≤ d) {σ : WSX1} {a1 : Int32} {post : Int32 → WSX1 → Prop} (h : wp_X1_lookAtTarget σ a1 post) : AC G MX1_lookAtTarget d 0 0 20 [.ref 0, .int a1] (wX1 G σ) (aw_pi (wX1 G) post) := by
  refine AC.of (lv := [(0, .ref 0), (1, .int a1)]) (by decide) (Nat.le_of_ble_eq_true rfl) rfl ?_
  unfold wp_X1_lookAtTarget at h
  refine aw_aload_n 0 dX1_lookAtTarget_0 rfl rfl ?_
  refine aw_getf (v := .ref 2) fX1_15 0 rfl rfl dX1_lookAtTarget_1 ?_
  refine aw_aload_n 0 dX1_lookAtTarget_4 rfl rfl ?_
  refine aw_getf (v := .ref 1) fX1_9 0 rfl rfl dX1_lookAtTarget_5 ?_
  refine aw_iload_n 1 dX1_lookAtTarget_8 rfl rfl ?_
  refine aw_callV (mc1 := 0) (ms1 := 0) (mc := 0) (ms := 0) (st := [.ref 2]) (q := 1) (As := [.int a1]) (vsc := [.int a1]) lX1_78 insX4_place selX4_place ⟨TX4, 10, rfl⟩ (by omega) (kX4_place (d := 1) (by omega) h) [1, 11, 12, 13, 14, 15, 16, 17, 18, 19] rfl rfl rfl rfl rfl dX1_lookAtTarget_9 rfl rfl (fun _ _ hh => ?_)
  obtain ⟨r1, τ2, rfl, rfl, h⟩ := hh
  refine ⟨(wX1 G ((σ.1.1, τ2), σ.2)), [.int r1, .ref 2], rfl, rfl, rfl, ?_⟩
  refine aw_callV (mc1 := 0) (ms1 := 0) (mc := 0) (ms := 0) (st := []) (q := 2) (As := [.int r1]) (vsc := [.int r1]) lX1_85 insX3_find selX3_find ⟨TX3, 11, rfl⟩ (by omega) (kX3_find (d := 3) (by omega) h) [2, 3, 4, 5, 6, 7, 8, 9, 10] rfl rfl rfl rfl rfl dX1_lookAtTarget_12 rfl rfl (fun _ _ hh => ?_)
  obtain ⟨r3, τ4, rfl, rfl, h⟩ := hh
  refine ⟨(wX1 G ((σ.1.1, τ2), τ4)), [.int r3], rfl, rfl, rfl, ?_⟩
  refine aw_istore_n (lv' := [(2, .int r3), (0, .ref 0), (1, .int a1)]) dX1_lookAtTarget_15 rfl (by decide) rfl ?_
  refine aw_iload_n 0 dX1_lookAtTarget_16 rfl rfl ?_
  refine aw_iconst (v := ((-1) : Int32)) dX1_lookAtTarget_17 (by decide) ?_
  refine aw_icmp_ne 35 dX1_lookAtTarget_18 (by decide) (fun c30 => ?_) (fun c30 => ?_)
  · have h := h.1 c30
    refine aw_aload_n 1 dX1_lookAtTarget_35 rfl rfl ?_
    refine aw_getf (v := .ref 1) fX1_9 0 rfl rfl dX1_lookAtTarget_36 ?_
    refine aw_iload_n 2 dX1_lookAtTarget_39 rfl rfl ?_
    refine aw_iload_n 0 dX1_lookAtTarget_40 rfl rfl ?_
    refine aw_callV (mc1 := 0) (ms1 := 0) (mc := 0) (ms := 0) (st := []) (q := 1) (As := [.int a1, .int r3]) (vsc := [.int a1, .int r3]) lX1_92 insX4_keepValue selX4_keepValue ⟨TX4, 10, rfl⟩ (by omega) (kX4_keepValue (d := 1) (by omega) h) [1, 11, 12, 13, 14, 15, 16, 17, 18, 19] rfl rfl rfl rfl rfl dX1_lookAtTarget_41 rfl rfl (fun _ _ hh => ?_)
    obtain ⟨τ6, rfl, rfl, h⟩ := hh
    refine ⟨(wX1 G ((σ.1.1, τ6), τ4)), [], rfl, rfl, rfl, ?_⟩
    refine aw_aload_n 1 dX1_lookAtTarget_44 rfl rfl ?_
    refine aw_getf (v := .int σ.1.1.2) fX1_19 0 rfl rfl dX1_lookAtTarget_45 ?_
    refine aw_if_le 88 dX1_lookAtTarget_48 (by decide) (fun c25 => ?_) (fun c25 => ?_)
    · have h := h.1 c25
      refine aw_lvsub (lv' := [(0, .ref 0), (1, .int a1), (2, .int r3)]) [1, 2, 0] rfl ?_
      exact aw_X1_lookAtTarget_88 hd  h
    · have h := h.2 c25
      refine aw_aload_n 1 dX1_lookAtTarget_51 rfl rfl ?_
      refine aw_getf (v := .ref 2) fX1_15 0 rfl rfl dX1_lookAtTarget_52 ?_
      refine aw_iload_n 0 dX1_lookAtTarget_55 rfl rfl ?_
      refine aw_callV (mc1 := 0) (ms1 := 0) (mc := 0) (ms := 0) (st := []) (q := 2) (As := [.int r3]) (vsc := [.int r3]) lX1_96 insX3_isRow selX3_isRow ⟨TX3, 11, rfl⟩ (by omega) (kX3_isRow (d := 2) (by omega) h) [2, 3, 4, 5, 6, 7, 8, 9, 10] rfl rfl rfl rfl rfl dX1_lookAtTarget_56 rfl rfl (fun _ _ hh => ?_)
      obtain ⟨r15, τ16, rfl, rfl, h⟩ := hh
      refine ⟨(wX1 G ((σ.1.1, τ6), τ16)), [.int r15], rfl, rfl, rfl, ?_⟩
      refine aw_if_ne 73 dX1_lookAtTarget_59 (by decide) (fun c24 => ?_) (fun c24 => ?_)
      · have h := h.1 c24
        refine aw_lvsub (lv' := [(0, .ref 0), (1, .int a1)]) [1, 2] rfl ?_
        exact aw_X1_lookAtTarget_73 hd  h
      · have h := h.2 c24
        refine aw_aload_n 1 dX1_lookAtTarget_62 rfl rfl ?_
        refine aw_getf (v := .ref 2) fX1_15 0 rfl rfl dX1_lookAtTarget_63 ?_
        refine aw_iload_n 0 dX1_lookAtTarget_66 rfl rfl ?_
        refine aw_callV (mc1 := 0) (ms1 := 0) (mc := 0) (ms := 0) (st := []) (q := 2) (As := [.int r3]) (vsc := [.int r3]) lX1_56 insX3_secret selX3_secret ⟨TX3, 11, rfl⟩ (by omega) (kX3_secret (d := 1) (by omega) h) [2, 3, 4, 5, 6, 7, 8, 9, 10] rfl rfl rfl rfl rfl dX1_lookAtTarget_67 rfl rfl (fun _ _ hh => ?_)
        obtain ⟨r21, τ22, rfl, rfl, h⟩ := hh
        refine ⟨(wX1 G ((σ.1.1, τ6), τ22)), [.int r21], rfl, rfl, rfl, ?_⟩
        refine aw_if_ne 88 dX1_lookAtTarget_70 (by decide) (fun c23 => ?_) (fun c23 => ?_)
        · have h := h.1 c23
          refine aw_lvsub (lv' := [(0, .ref 0), (1, .int a1), (2, .int r3)]) [1, 2, 0] rfl ?_
          exact aw_X1_lookAtTarget_88 hd  h
        · have h := h.2 c23
          refine aw_lvsub (lv' := [(0, .ref 0), (1, .int a1)]) [1, 2] rfl ?_
          exact aw_X1_lookAtTarget_73 hd  h
  · have h := h.2 c30
    refine aw_aload_n 1 dX1_lookAtTarget_21 rfl rfl ?_
    refine aw_iconst (v := (1 : Int32)) dX1_lookAtTarget_22 (by decide) ?_
    refine aw_aload_n 1 dX1_lookAtTarget_23 rfl rfl ?_
    refine aw_getf (v := .ref 1) fX1_9 0 rfl rfl dX1_lookAtTarget_24 ?_
    refine aw_iload_n 2 dX1_lookAtTarget_27 rfl rfl ?_
    refine aw_callV (mc1 := 0) (ms1 := 0) (mc := 0) (ms := 0) (st := [.int (1 : Int32), .ref 0]) (q := 1) (As := [.int a1]) (vsc := [.int a1]) lX1_78 insX4_place selX4_place ⟨TX4, 10, rfl⟩ (by omega) (kX4_place (d := 1) (by omega) h) [1, 11, 12, 13, 14, 15, 16, 17, 18, 19] rfl rfl rfl rfl rfl dX1_lookAtTarget_28 rfl rfl (fun _ _ hh => ?_)
    obtain ⟨r26, τ27, rfl, rfl, h⟩ := hh
    refine ⟨(wX1 G ((σ.1.1, τ27), τ4)), [.int r26, .int (1 : Int32), .ref 0], rfl, rfl, rfl, ?_⟩
    refine aw_callVT (mc1 := 0) (ms1 := 0) (mc := 0) (ms := 0) (st := []) (q := 0) (As := [.int (1 : Int32), .int r26]) lX1_81 insX1_wrong selX1_wrong ⟨TX1, 4, rfl⟩ (by omega) (kX1_wrong (d := 0) (by omega) h) (Nat.le_of_ble_eq_true rfl) rfl rfl rfl dX1_lookAtTarget_31 rfl (fun _ _ hh => ?_)
    obtain ⟨r28, τ29, rfl, rfl, h⟩ := hh
    refine aw_stk (st' := [.int r28]) rfl ?_
    exact aw_iret rfl dX1_lookAtTarget_34 ⟨_, τ29, rfl, rfl, h⟩
def wp_X1_lookAtName (σ : WSX1) (a1 : Int32) (post : Int32 → WSX1 → Prop) : Prop :=
  wp_X4_place σ.1.2 a1 (fun r1 τ2 => wp_X3_find σ.2 r1 (fun r3 τ4 => ((¬ r3 = ((-1) : Int32) → wp_X4_keepValue τ2 a1 r3 (fun τ6 => wp_X3_secret τ4 r3 (fun r7 τ8 => wp_X4_keepSecret τ6 a1 r7 (fun τ10 => wp_X3_isRow τ8 r3 (fun r11 τ12 => wp_X1_wrongIf ((σ.1.1, τ10), τ12) r11 (3 : Int32) a1 (fun r13 τ14 => post r13 τ14)))))) ∧ (r3 = ((-1) : Int32) → wp_X4_place τ2 a1 (fun r15 τ16 => wp_X1_wrong ((σ.1.1, τ16), τ4) (1 : Int32) r15 (fun r17 τ18 => post r17 τ18))))))
theorem kX1_lookAtName {G : aw_G} {d : Nat} (hd : 4 ≤ d) {σ : WSX1} {a1 : Int32} {post : Int32 → WSX1 → Prop} (h : wp_X1_lookAtName σ a1 post) : AC G MX1_lookAtName d 0 0 20 [.ref 0, .int a1] (wX1 G σ) (aw_pi (wX1 G) post) := by
  refine AC.of (lv := [(0, .ref 0), (1, .int a1)]) (by decide) (Nat.le_of_ble_eq_true rfl) rfl ?_
  unfold wp_X1_lookAtName at h
  refine aw_aload_n 0 dX1_lookAtName_0 rfl rfl ?_
  refine aw_getf (v := .ref 2) fX1_15 0 rfl rfl dX1_lookAtName_1 ?_
  refine aw_aload_n 0 dX1_lookAtName_4 rfl rfl ?_
  refine aw_getf (v := .ref 1) fX1_9 0 rfl rfl dX1_lookAtName_5 ?_
  refine aw_iload_n 1 dX1_lookAtName_8 rfl rfl ?_
  refine aw_callV (mc1 := 0) (ms1 := 0) (mc := 0) (ms := 0) (st := [.ref 2]) (q := 1) (As := [.int a1]) (vsc := [.int a1]) lX1_78 insX4_place selX4_place ⟨TX4, 10, rfl⟩ (by omega) (kX4_place (d := 1) (by omega) h) [1, 11, 12, 13, 14, 15, 16, 17, 18, 19] rfl rfl rfl rfl rfl dX1_lookAtName_9 rfl rfl (fun _ _ hh => ?_)
  obtain ⟨r1, τ2, rfl, rfl, h⟩ := hh
  refine ⟨(wX1 G ((σ.1.1, τ2), σ.2)), [.int r1, .ref 2], rfl, rfl, rfl, ?_⟩
  refine aw_callV (mc1 := 0) (ms1 := 0) (mc := 0) (ms := 0) (st := []) (q := 2) (As := [.int r1]) (vsc := [.int r1]) lX1_85 insX3_find selX3_find ⟨TX3, 11, rfl⟩ (by omega) (kX3_find (d := 3) (by omega) h) [2, 3, 4, 5, 6, 7, 8, 9, 10] rfl rfl rfl rfl rfl dX1_lookAtName_12 rfl rfl (fun _ _ hh => ?_)
  obtain ⟨r3, τ4, rfl, rfl, h⟩ := hh
  refine ⟨(wX1 G ((σ.1.1, τ2), τ4)), [.int r3], rfl, rfl, rfl, ?_⟩
  refine aw_istore_n (lv' := [(2, .int r3), (0, .ref 0), (1, .int a1)]) dX1_lookAtName_15 rfl (by decide) rfl ?_
  refine aw_iload_n 0 dX1_lookAtName_16 rfl rfl ?_
  refine aw_iconst (v := ((-1) : Int32)) dX1_lookAtName_17 (by decide) ?_
  refine aw_icmp_ne 35 dX1_lookAtName_18 (by decide) (fun c19 => ?_) (fun c19 => ?_)
  · have h := h.1 c19
    refine aw_aload_n 1 dX1_lookAtName_35 rfl rfl ?_
    refine aw_getf (v := .ref 1) fX1_9 0 rfl rfl dX1_lookAtName_36 ?_
    refine aw_iload_n 2 dX1_lookAtName_39 rfl rfl ?_
    refine aw_iload_n 0 dX1_lookAtName_40 rfl rfl ?_
    refine aw_callV (mc1 := 0) (ms1 := 0) (mc := 0) (ms := 0) (st := []) (q := 1) (As := [.int a1, .int r3]) (vsc := [.int a1, .int r3]) lX1_92 insX4_keepValue selX4_keepValue ⟨TX4, 10, rfl⟩ (by omega) (kX4_keepValue (d := 1) (by omega) h) [1, 11, 12, 13, 14, 15, 16, 17, 18, 19] rfl rfl rfl rfl rfl dX1_lookAtName_41 rfl rfl (fun _ _ hh => ?_)
    obtain ⟨τ6, rfl, rfl, h⟩ := hh
    refine ⟨(wX1 G ((σ.1.1, τ6), τ4)), [], rfl, rfl, rfl, ?_⟩
    refine aw_aload_n 1 dX1_lookAtName_44 rfl rfl ?_
    refine aw_getf (v := .ref 1) fX1_9 0 rfl rfl dX1_lookAtName_45 ?_
    refine aw_iload_n 2 dX1_lookAtName_48 rfl rfl ?_
    refine aw_aload_n 1 dX1_lookAtName_49 rfl rfl ?_
    refine aw_getf (v := .ref 2) fX1_15 0 rfl rfl dX1_lookAtName_50 ?_
    refine aw_iload_n 0 dX1_lookAtName_53 rfl rfl ?_
    refine aw_callV (mc1 := 0) (ms1 := 0) (mc := 0) (ms := 0) (st := [.int a1, .ref 1]) (q := 2) (As := [.int r3]) (vsc := [.int r3]) lX1_56 insX3_secret selX3_secret ⟨TX3, 11, rfl⟩ (by omega) (kX3_secret (d := 1) (by omega) h) [2, 3, 4, 5, 6, 7, 8, 9, 10] rfl rfl rfl rfl rfl dX1_lookAtName_54 rfl rfl (fun _ _ hh => ?_)
    obtain ⟨r7, τ8, rfl, rfl, h⟩ := hh
    refine ⟨(wX1 G ((σ.1.1, τ6), τ8)), [.int r7, .int a1, .ref 1], rfl, rfl, rfl, ?_⟩
    refine aw_callV (mc1 := 0) (ms1 := 0) (mc := 0) (ms := 0) (st := []) (q := 1) (As := [.int a1, .int r7]) (vsc := [.int a1, .int r7]) lX1_59 insX4_keepSecret selX4_keepSecret ⟨TX4, 10, rfl⟩ (by omega) (kX4_keepSecret (d := 1) (by omega) h) [1, 11, 12, 13, 14, 15, 16, 17, 18, 19] rfl rfl rfl rfl rfl dX1_lookAtName_57 rfl rfl (fun _ _ hh => ?_)
    obtain ⟨τ10, rfl, rfl, h⟩ := hh
    refine ⟨(wX1 G ((σ.1.1, τ10), τ8)), [], rfl, rfl, rfl, ?_⟩
    refine aw_aload_n 1 dX1_lookAtName_60 rfl rfl ?_
    refine aw_aload_n 1 dX1_lookAtName_61 rfl rfl ?_
    refine aw_getf (v := .ref 2) fX1_15 0 rfl rfl dX1_lookAtName_62 ?_
    refine aw_iload_n 0 dX1_lookAtName_65 rfl rfl ?_
    refine aw_callV (mc1 := 0) (ms1 := 0) (mc := 0) (ms := 0) (st := [.ref 0]) (q := 2) (As := [.int r3]) (vsc := [.int r3]) lX1_96 insX3_isRow selX3_isRow ⟨TX3, 11, rfl⟩ (by omega) (kX3_isRow (d := 2) (by omega) h) [2, 3, 4, 5, 6, 7, 8, 9, 10] rfl rfl rfl rfl rfl dX1_lookAtName_66 rfl rfl (fun _ _ hh => ?_)
    obtain ⟨r11, τ12, rfl, rfl, h⟩ := hh
    refine ⟨(wX1 G ((σ.1.1, τ10), τ12)), [.int r11, .ref 0], rfl, rfl, rfl, ?_⟩
    refine aw_iconst (v := (3 : Int32)) dX1_lookAtName_69 (by decide) ?_
    refine aw_iload_n 2 dX1_lookAtName_70 rfl rfl ?_
    refine aw_callVT (mc1 := 0) (ms1 := 0) (mc := 0) (ms := 0) (st := []) (q := 0) (As := [.int r11, .int (3 : Int32), .int a1]) lX1_49 insX1_wrongIf selX1_wrongIf ⟨TX1, 4, rfl⟩ (by omega) (kX1_wrongIf (d := 2) (by omega) h) (Nat.le_of_ble_eq_true rfl) rfl rfl rfl dX1_lookAtName_71 rfl (fun _ _ hh => ?_)
    obtain ⟨r13, τ14, rfl, rfl, h⟩ := hh
    refine aw_stk (st' := [.int r13]) rfl ?_
    exact aw_iret rfl dX1_lookAtName_74 ⟨_, τ14, rfl, rfl, h⟩
  · have h := h.2 c19
    refine aw_aload_n 1 dX1_lookAtName_21 rfl rfl ?_
    refine aw_iconst (v := (1 : Int32)) dX1_lookAtName_22 (by decide) ?_
    refine aw_aload_n 1 dX1_lookAtName_23 rfl rfl ?_
    refine aw_getf (v := .ref 1) fX1_9 0 rfl rfl dX1_lookAtName_24 ?_
    refine aw_iload_n 2 dX1_lookAtName_27 rfl rfl ?_
    refine aw_callV (mc1 := 0) (ms1 := 0) (mc := 0) (ms := 0) (st := [.int (1 : Int32), .ref 0]) (q := 1) (As := [.int a1]) (vsc := [.int a1]) lX1_78 insX4_place selX4_place ⟨TX4, 10, rfl⟩ (by omega) (kX4_place (d := 1) (by omega) h) [1, 11, 12, 13, 14, 15, 16, 17, 18, 19] rfl rfl rfl rfl rfl dX1_lookAtName_28 rfl rfl (fun _ _ hh => ?_)
    obtain ⟨r15, τ16, rfl, rfl, h⟩ := hh
    refine ⟨(wX1 G ((σ.1.1, τ16), τ4)), [.int r15, .int (1 : Int32), .ref 0], rfl, rfl, rfl, ?_⟩
    refine aw_callVT (mc1 := 0) (ms1 := 0) (mc := 0) (ms := 0) (st := []) (q := 0) (As := [.int (1 : Int32), .int r15]) lX1_81 insX1_wrong selX1_wrong ⟨TX1, 4, rfl⟩ (by omega) (kX1_wrong (d := 0) (by omega) h) (Nat.le_of_ble_eq_true rfl) rfl rfl rfl dX1_lookAtName_31 rfl (fun _ _ hh => ?_)
    obtain ⟨r17, τ18, rfl, rfl, h⟩ := hh
    refine aw_stk (st' := [.int r17]) rfl ?_
    exact aw_iret rfl dX1_lookAtName_34 ⟨_, τ18, rfl, rfl, h⟩
def wp_X1_lookAtRow_85  (post : Int32 → WSX1 → Prop) (σ : WSX1) (x1 : Int32) (s0 : Int32) : Prop :=
  wp_X1_wrongIf σ s0 (3 : Int32) x1 (fun r11 τ12 => post r11 τ12)
theorem aw_X1_lookAtRow_85 {G : aw_G} {d : Nat} (hd : 4 ≤ d) {post : Int32 → WSX1 → Prop}  {σ : WSX1} {x1 : Int32} {s0 : Int32} (h : wp_X1_lookAtRow_85  post σ x1 s0) : AW G MX1_lookAtRow d 0 0 20 (aw_pi (wX1 G) post) 85 [(1, .int x1)] [.int s0, .ref 0] (wX1 G σ) := by
  unfold wp_X1_lookAtRow_85 at h
  refine aw_iconst (v := (3 : Int32)) dX1_lookAtRow_85 (by decide) ?_
  refine aw_iload_n 0 dX1_lookAtRow_86 rfl rfl ?_
  refine aw_callVT (mc1 := 0) (ms1 := 0) (mc := 0) (ms := 0) (st := []) (q := 0) (As := [.int s0, .int (3 : Int32), .int x1]) lX1_49 insX1_wrongIf selX1_wrongIf ⟨TX1, 4, rfl⟩ (by omega) (kX1_wrongIf (d := 2) (by omega) h) (Nat.le_of_ble_eq_true rfl) rfl rfl rfl dX1_lookAtRow_87 rfl (fun _ _ hh => ?_)
  obtain ⟨r11, τ12, rfl, rfl, h⟩ := hh
  refine aw_stk (st' := [.int r11]) rfl ?_
  exact aw_iret rfl dX1_lookAtRow_90 ⟨_, τ12, rfl, rfl, h⟩
def wp_X1_lookAtRow (σ : WSX1) (a1 : Int32) (post : Int32 → WSX1 → Prop) : Prop :=
  wp_X4_value σ.1.2 a1 (fun r1 τ2 => wp_X4_place τ2 a1 (fun r3 τ4 => wp_X3_find σ.2 r3 (fun r5 τ6 => ((¬ r5 = ((-1) : Int32) → wp_X4_keepValue τ4 a1 r5 (fun τ8 => ((σ.1.1.2 ≤ 0 → wp_X3_isRow τ6 r5 (fun r9 τ10 => ((¬ r9 = 0 → wp_X1_lookAtRow_85  post ((σ.1.1, τ8), τ10) a1 (0 : Int32)) ∧ (r9 = 0 → wp_X1_lookAtRow_85  post ((σ.1.1, τ8), τ10) a1 (1 : Int32))))) ∧ (¬ σ.1.1.2 ≤ 0 → wp_X1_wrong ((σ.1.1, τ8), τ6) (8 : Int32) r1 (fun r14 τ15 => post r14 τ15))))) ∧ (r5 = ((-1) : Int32) → wp_X4_place τ4 a1 (fun r17 τ18 => wp_X1_wrong ((σ.1.1, τ18), τ6) (1 : Int32) r17 (fun r19 τ20 => post r19 τ20)))))))
theorem kX1_lookAtRow {G : aw_G} {d : Nat} (hd : 4 ≤ d) {σ : WSX1} {a1 : Int32} {post : Int32 → WSX1 → Prop} (h : wp_X1_lookAtRow σ a1 post) : AC G MX1_lookAtRow d 0 0 20 [.ref 0, .int a1] (wX1 G σ) (aw_pi (wX1 G) post) := by
  refine AC.of (lv := [(0, .ref 0), (1, .int a1)]) (by decide) (Nat.le_of_ble_eq_true rfl) rfl ?_
  unfold wp_X1_lookAtRow at h
  refine aw_aload_n 0 dX1_lookAtRow_0 rfl rfl ?_
  refine aw_getf (v := .ref 1) fX1_9 0 rfl rfl dX1_lookAtRow_1 ?_
  refine aw_iload_n 1 dX1_lookAtRow_4 rfl rfl ?_
  refine aw_callV (mc1 := 0) (ms1 := 0) (mc := 0) (ms := 0) (st := []) (q := 1) (As := [.int a1]) (vsc := [.int a1]) lX1_53 insX4_value selX4_value ⟨TX4, 10, rfl⟩ (by omega) (kX4_value (d := 1) (by omega) h) [1, 11, 12, 13, 14, 15, 16, 17, 18, 19] rfl rfl rfl rfl rfl dX1_lookAtRow_5 rfl rfl (fun _ _ hh => ?_)
  obtain ⟨r1, τ2, rfl, rfl, h⟩ := hh
  refine ⟨(wX1 G ((σ.1.1, τ2), σ.2)), [.int r1], rfl, rfl, rfl, ?_⟩
  refine aw_istore_n (lv' := [(2, .int r1), (0, .ref 0), (1, .int a1)]) dX1_lookAtRow_8 rfl (by decide) rfl ?_
  refine aw_aload_n 1 dX1_lookAtRow_9 rfl rfl ?_
  refine aw_getf (v := .ref 2) fX1_15 0 rfl rfl dX1_lookAtRow_10 ?_
  refine aw_aload_n 1 dX1_lookAtRow_13 rfl rfl ?_
  refine aw_getf (v := .ref 1) fX1_9 0 rfl rfl dX1_lookAtRow_14 ?_
  refine aw_iload_n 2 dX1_lookAtRow_17 rfl rfl ?_
  refine aw_callV (mc1 := 0) (ms1 := 0) (mc := 0) (ms := 0) (st := [.ref 2]) (q := 1) (As := [.int a1]) (vsc := [.int a1]) lX1_78 insX4_place selX4_place ⟨TX4, 10, rfl⟩ (by omega) (kX4_place (d := 1) (by omega) h) [1, 11, 12, 13, 14, 15, 16, 17, 18, 19] rfl rfl rfl rfl rfl dX1_lookAtRow_18 rfl rfl (fun _ _ hh => ?_)
  obtain ⟨r3, τ4, rfl, rfl, h⟩ := hh
  refine ⟨(wX1 G ((σ.1.1, τ4), σ.2)), [.int r3, .ref 2], rfl, rfl, rfl, ?_⟩
  refine aw_callV (mc1 := 0) (ms1 := 0) (mc := 0) (ms := 0) (st := []) (q := 2) (As := [.int r3]) (vsc := [.int r3]) lX1_85 insX3_find selX3_find ⟨TX3, 11, rfl⟩ (by omega) (kX3_find (d := 3) (by omega) h) [2, 3, 4, 5, 6, 7, 8, 9, 10] rfl rfl rfl rfl rfl dX1_lookAtRow_21 rfl rfl (fun _ _ hh => ?_)
  obtain ⟨r5, τ6, rfl, rfl, h⟩ := hh
  refine ⟨(wX1 G ((σ.1.1, τ4), τ6)), [.int r5], rfl, rfl, rfl, ?_⟩
  refine aw_istore_n (lv' := [(3, .int r5), (2, .int r1), (0, .ref 0), (1, .int a1)]) dX1_lookAtRow_24 rfl (by decide) rfl ?_
  refine aw_iload_n 0 dX1_lookAtRow_25 rfl rfl ?_
  refine aw_iconst (v := ((-1) : Int32)) dX1_lookAtRow_26 (by decide) ?_
  refine aw_icmp_ne 44 dX1_lookAtRow_27 (by decide) (fun c21 => ?_) (fun c21 => ?_)
  · have h := h.1 c21
    refine aw_aload_n 2 dX1_lookAtRow_44 rfl rfl ?_
    refine aw_getf (v := .ref 1) fX1_9 0 rfl rfl dX1_lookAtRow_45 ?_
    refine aw_iload_n 3 dX1_lookAtRow_48 rfl rfl ?_
    refine aw_iload_n 0 dX1_lookAtRow_49 rfl rfl ?_
    refine aw_callV (mc1 := 0) (ms1 := 0) (mc := 0) (ms := 0) (st := []) (q := 1) (As := [.int a1, .int r5]) (vsc := [.int a1, .int r5]) lX1_92 insX4_keepValue selX4_keepValue ⟨TX4, 10, rfl⟩ (by omega) (kX4_keepValue (d := 1) (by omega) h) [1, 11, 12, 13, 14, 15, 16, 17, 18, 19] rfl rfl rfl rfl rfl dX1_lookAtRow_50 rfl rfl (fun _ _ hh => ?_)
    obtain ⟨τ8, rfl, rfl, h⟩ := hh
    refine ⟨(wX1 G ((σ.1.1, τ8), τ6)), [], rfl, rfl, rfl, ?_⟩
    refine aw_aload_n 2 dX1_lookAtRow_53 rfl rfl ?_
    refine aw_getf (v := .int σ.1.1.2) fX1_19 0 rfl rfl dX1_lookAtRow_54 ?_
    refine aw_if_le 68 dX1_lookAtRow_57 (by decide) (fun c16 => ?_) (fun c16 => ?_)
    · have h := h.1 c16
      refine aw_aload_n 2 dX1_lookAtRow_68 rfl rfl ?_
      refine aw_aload_n 2 dX1_lookAtRow_69 rfl rfl ?_
      refine aw_getf (v := .ref 2) fX1_15 0 rfl rfl dX1_lookAtRow_70 ?_
      refine aw_iload_n 0 dX1_lookAtRow_73 rfl rfl ?_
      refine aw_callV (mc1 := 0) (ms1 := 0) (mc := 0) (ms := 0) (st := [.ref 0]) (q := 2) (As := [.int r5]) (vsc := [.int r5]) lX1_96 insX3_isRow selX3_isRow ⟨TX3, 11, rfl⟩ (by omega) (kX3_isRow (d := 2) (by omega) h) [2, 3, 4, 5, 6, 7, 8, 9, 10] rfl rfl rfl rfl rfl dX1_lookAtRow_74 rfl rfl (fun _ _ hh => ?_)
      obtain ⟨r9, τ10, rfl, rfl, h⟩ := hh
      refine ⟨(wX1 G ((σ.1.1, τ8), τ10)), [.int r9, .ref 0], rfl, rfl, rfl, ?_⟩
      refine aw_if_ne 84 dX1_lookAtRow_77 (by decide) (fun c13 => ?_) (fun c13 => ?_)
      · have h := h.1 c13
        refine aw_iconst (v := (0 : Int32)) dX1_lookAtRow_84 (by decide) ?_
        refine aw_lvsub (lv' := [(1, .int a1)]) [3] rfl ?_
        exact aw_X1_lookAtRow_85 hd  h
      · have h := h.2 c13
        refine aw_iconst (v := (1 : Int32)) dX1_lookAtRow_80 (by decide) ?_
        refine aw_goto 85 dX1_lookAtRow_81 (by decide) ?_
        refine aw_lvsub (lv' := [(1, .int a1)]) [3] rfl ?_
        exact aw_X1_lookAtRow_85 hd  h
    · have h := h.2 c16
      refine aw_aload_n 2 dX1_lookAtRow_60 rfl rfl ?_
      refine aw_bipush (v := (8 : Int32)) dX1_lookAtRow_61 (by decide) ?_
      refine aw_iload_n 1 dX1_lookAtRow_63 rfl rfl ?_
      refine aw_callVT (mc1 := 0) (ms1 := 0) (mc := 0) (ms := 0) (st := []) (q := 0) (As := [.int (8 : Int32), .int r1]) lX1_81 insX1_wrong selX1_wrong ⟨TX1, 4, rfl⟩ (by omega) (kX1_wrong (d := 0) (by omega) h) (Nat.le_of_ble_eq_true rfl) rfl rfl rfl dX1_lookAtRow_64 rfl (fun _ _ hh => ?_)
      obtain ⟨r14, τ15, rfl, rfl, h⟩ := hh
      refine aw_stk (st' := [.int r14]) rfl ?_
      exact aw_iret rfl dX1_lookAtRow_67 ⟨_, τ15, rfl, rfl, h⟩
  · have h := h.2 c21
    refine aw_aload_n 2 dX1_lookAtRow_30 rfl rfl ?_
    refine aw_iconst (v := (1 : Int32)) dX1_lookAtRow_31 (by decide) ?_
    refine aw_aload_n 2 dX1_lookAtRow_32 rfl rfl ?_
    refine aw_getf (v := .ref 1) fX1_9 0 rfl rfl dX1_lookAtRow_33 ?_
    refine aw_iload_n 3 dX1_lookAtRow_36 rfl rfl ?_
    refine aw_callV (mc1 := 0) (ms1 := 0) (mc := 0) (ms := 0) (st := [.int (1 : Int32), .ref 0]) (q := 1) (As := [.int a1]) (vsc := [.int a1]) lX1_78 insX4_place selX4_place ⟨TX4, 10, rfl⟩ (by omega) (kX4_place (d := 1) (by omega) h) [1, 11, 12, 13, 14, 15, 16, 17, 18, 19] rfl rfl rfl rfl rfl dX1_lookAtRow_37 rfl rfl (fun _ _ hh => ?_)
    obtain ⟨r17, τ18, rfl, rfl, h⟩ := hh
    refine ⟨(wX1 G ((σ.1.1, τ18), τ6)), [.int r17, .int (1 : Int32), .ref 0], rfl, rfl, rfl, ?_⟩
    refine aw_callVT (mc1 := 0) (ms1 := 0) (mc := 0) (ms := 0) (st := []) (q := 0) (As := [.int (1 : Int32), .int r17]) lX1_81 insX1_wrong selX1_wrong ⟨TX1, 4, rfl⟩ (by omega) (kX1_wrong (d := 0) (by omega) h) (Nat.le_of_ble_eq_true rfl) rfl rfl rfl dX1_lookAtRow_40 rfl (fun _ _ hh => ?_)
    obtain ⟨r19, τ20, rfl, rfl, h⟩ := hh
    refine aw_stk (st' := [.int r19]) rfl ?_
    exact aw_iret rfl dX1_lookAtRow_43 ⟨_, τ20, rfl, rfl, h⟩
def wp_X1_lookAtItem (σ : WSX1) (a1 : Int32) (post : Int32 → WSX1 → Prop) : Prop :=
  wp_X4_value σ.1.2 a1 (fun r1 τ2 => wp_X4_value τ2 r1 (fun r3 τ4 => wp_X4_keepValue τ4 a1 r3 (fun τ6 => wp_X3_secret σ.2 r3 (fun r7 τ8 => wp_X4_keepSecret τ6 a1 r7 (fun τ10 => wp_X4_secret τ10 (a1 - (1 : Int32)) (fun r11 τ12 => wp_X1_wrongIf ((σ.1.1, τ12), τ8) r11 (4 : Int32) a1 (fun r13 τ14 => post r13 τ14)))))))
theorem kX1_lookAtItem {G : aw_G} {d : Nat} (hd : 3 ≤ d) {σ : WSX1} {a1 : Int32} {post : Int32 → WSX1 → Prop} (h : wp_X1_lookAtItem σ a1 post) : AC G MX1_lookAtItem d 0 0 20 [.ref 0, .int a1] (wX1 G σ) (aw_pi (wX1 G) post) := by
  refine AC.of (lv := [(0, .ref 0), (1, .int a1)]) (by decide) (Nat.le_of_ble_eq_true rfl) rfl ?_
  unfold wp_X1_lookAtItem at h
  refine aw_aload_n 0 dX1_lookAtItem_0 rfl rfl ?_
  refine aw_getf (v := .ref 1) fX1_9 0 rfl rfl dX1_lookAtItem_1 ?_
  refine aw_aload_n 0 dX1_lookAtItem_4 rfl rfl ?_
  refine aw_getf (v := .ref 1) fX1_9 0 rfl rfl dX1_lookAtItem_5 ?_
  refine aw_iload_n 1 dX1_lookAtItem_8 rfl rfl ?_
  refine aw_callV (mc1 := 0) (ms1 := 0) (mc := 0) (ms := 0) (st := [.ref 1]) (q := 1) (As := [.int a1]) (vsc := [.int a1]) lX1_53 insX4_value selX4_value ⟨TX4, 10, rfl⟩ (by omega) (kX4_value (d := 1) (by omega) h) [1, 11, 12, 13, 14, 15, 16, 17, 18, 19] rfl rfl rfl rfl rfl dX1_lookAtItem_9 rfl rfl (fun _ _ hh => ?_)
  obtain ⟨r1, τ2, rfl, rfl, h⟩ := hh
  refine ⟨(wX1 G ((σ.1.1, τ2), σ.2)), [.int r1, .ref 1], rfl, rfl, rfl, ?_⟩
  refine aw_callV (mc1 := 0) (ms1 := 0) (mc := 0) (ms := 0) (st := []) (q := 1) (As := [.int r1]) (vsc := [.int r1]) lX1_53 insX4_value selX4_value ⟨TX4, 10, rfl⟩ (by omega) (kX4_value (d := 1) (by omega) h) [1, 11, 12, 13, 14, 15, 16, 17, 18, 19] rfl rfl rfl rfl rfl dX1_lookAtItem_12 rfl rfl (fun _ _ hh => ?_)
  obtain ⟨r3, τ4, rfl, rfl, h⟩ := hh
  refine ⟨(wX1 G ((σ.1.1, τ4), σ.2)), [.int r3], rfl, rfl, rfl, ?_⟩
  refine aw_istore_n (lv' := [(2, .int r3), (0, .ref 0), (1, .int a1)]) dX1_lookAtItem_15 rfl (by decide) rfl ?_
  refine aw_aload_n 1 dX1_lookAtItem_16 rfl rfl ?_
  refine aw_getf (v := .ref 1) fX1_9 0 rfl rfl dX1_lookAtItem_17 ?_
  refine aw_iload_n 2 dX1_lookAtItem_20 rfl rfl ?_
  refine aw_iload_n 0 dX1_lookAtItem_21 rfl rfl ?_
  refine aw_callV (mc1 := 0) (ms1 := 0) (mc := 0) (ms := 0) (st := []) (q := 1) (As := [.int a1, .int r3]) (vsc := [.int a1, .int r3]) lX1_92 insX4_keepValue selX4_keepValue ⟨TX4, 10, rfl⟩ (by omega) (kX4_keepValue (d := 1) (by omega) h) [1, 11, 12, 13, 14, 15, 16, 17, 18, 19] rfl rfl rfl rfl rfl dX1_lookAtItem_22 rfl rfl (fun _ _ hh => ?_)
  obtain ⟨τ6, rfl, rfl, h⟩ := hh
  refine ⟨(wX1 G ((σ.1.1, τ6), σ.2)), [], rfl, rfl, rfl, ?_⟩
  refine aw_aload_n 1 dX1_lookAtItem_25 rfl rfl ?_
  refine aw_getf (v := .ref 1) fX1_9 0 rfl rfl dX1_lookAtItem_26 ?_
  refine aw_iload_n 2 dX1_lookAtItem_29 rfl rfl ?_
  refine aw_aload_n 1 dX1_lookAtItem_30 rfl rfl ?_
  refine aw_getf (v := .ref 2) fX1_15 0 rfl rfl dX1_lookAtItem_31 ?_
  refine aw_iload_n 0 dX1_lookAtItem_34 rfl rfl ?_
  refine aw_callV (mc1 := 0) (ms1 := 0) (mc := 0) (ms := 0) (st := [.int a1, .ref 1]) (q := 2) (As := [.int r3]) (vsc := [.int r3]) lX1_56 insX3_secret selX3_secret ⟨TX3, 11, rfl⟩ (by omega) (kX3_secret (d := 1) (by omega) h) [2, 3, 4, 5, 6, 7, 8, 9, 10] rfl rfl rfl rfl rfl dX1_lookAtItem_35 rfl rfl (fun _ _ hh => ?_)
  obtain ⟨r7, τ8, rfl, rfl, h⟩ := hh
  refine ⟨(wX1 G ((σ.1.1, τ6), τ8)), [.int r7, .int a1, .ref 1], rfl, rfl, rfl, ?_⟩
  refine aw_callV (mc1 := 0) (ms1 := 0) (mc := 0) (ms := 0) (st := []) (q := 1) (As := [.int a1, .int r7]) (vsc := [.int a1, .int r7]) lX1_59 insX4_keepSecret selX4_keepSecret ⟨TX4, 10, rfl⟩ (by omega) (kX4_keepSecret (d := 1) (by omega) h) [1, 11, 12, 13, 14, 15, 16, 17, 18, 19] rfl rfl rfl rfl rfl dX1_lookAtItem_38 rfl rfl (fun _ _ hh => ?_)
  obtain ⟨τ10, rfl, rfl, h⟩ := hh
  refine ⟨(wX1 G ((σ.1.1, τ10), τ8)), [], rfl, rfl, rfl, ?_⟩
  refine aw_aload_n 1 dX1_lookAtItem_41 rfl rfl ?_
  refine aw_aload_n 1 dX1_lookAtItem_42 rfl rfl ?_
  refine aw_getf (v := .ref 1) fX1_9 0 rfl rfl dX1_lookAtItem_43 ?_
  refine aw_iload_n 2 dX1_lookAtItem_46 rfl rfl ?_
  refine aw_iconst (v := (1 : Int32)) dX1_lookAtItem_47 (by decide) ?_
  refine aw_isub dX1_lookAtItem_48 ?_
  refine aw_callV (mc1 := 0) (ms1 := 0) (mc := 0) (ms := 0) (st := [.ref 0]) (q := 1) (As := [.int (a1 - (1 : Int32))]) (vsc := [.int (a1 - (1 : Int32))]) lX1_45 insX4_secret selX4_secret ⟨TX4, 10, rfl⟩ (by omega) (kX4_secret (d := 1) (by omega) h) [1, 11, 12, 13, 14, 15, 16, 17, 18, 19] rfl rfl rfl rfl rfl dX1_lookAtItem_49 rfl rfl (fun _ _ hh => ?_)
  obtain ⟨r11, τ12, rfl, rfl, h⟩ := hh
  refine ⟨(wX1 G ((σ.1.1, τ12), τ8)), [.int r11, .ref 0], rfl, rfl, rfl, ?_⟩
  refine aw_iconst (v := (4 : Int32)) dX1_lookAtItem_52 (by decide) ?_
  refine aw_iload_n 2 dX1_lookAtItem_53 rfl rfl ?_
  refine aw_callVT (mc1 := 0) (ms1 := 0) (mc := 0) (ms := 0) (st := []) (q := 0) (As := [.int r11, .int (4 : Int32), .int a1]) lX1_49 insX1_wrongIf selX1_wrongIf ⟨TX1, 4, rfl⟩ (by omega) (kX1_wrongIf (d := 2) (by omega) h) (Nat.le_of_ble_eq_true rfl) rfl rfl rfl dX1_lookAtItem_54 rfl (fun _ _ hh => ?_)
  obtain ⟨r13, τ14, rfl, rfl, h⟩ := hh
  refine aw_stk (st' := [.int r13]) rfl ?_
  exact aw_iret rfl dX1_lookAtItem_57 ⟨_, τ14, rfl, rfl, h⟩
def wp_X1_lookAtPair_118  (post : Int32 → WSX1 → Prop) (σ : WSX1) (x1 : Int32) (s0 : Int32) : Prop :=
  wp_X1_wrongIf σ s0 (5 : Int32) x1 (fun r7 τ8 => post r7 τ8)
theorem aw_X1_lookAtPair_118 {G : aw_G} {d : Nat} (hd : 3 ≤ d) {post : Int32 → WSX1 → Prop}  {σ : WSX1} {x1 : Int32} {s0 : Int32} (h : wp_X1_lookAtPair_118  post σ x1 s0) : AW G MX1_lookAtPair d 0 0 20 (aw_pi (wX1 G) post) 118 [(1, .int x1)] [.int s0, .ref 0] (wX1 G σ) := by
  unfold wp_X1_lookAtPair_118 at h
  refine aw_iconst (v := (5 : Int32)) dX1_lookAtPair_118 (by decide) ?_
  refine aw_iload_n 0 dX1_lookAtPair_119 rfl rfl ?_
  refine aw_callVT (mc1 := 0) (ms1 := 0) (mc := 0) (ms := 0) (st := []) (q := 0) (As := [.int s0, .int (5 : Int32), .int x1]) lX1_49 insX1_wrongIf selX1_wrongIf ⟨TX1, 4, rfl⟩ (by omega) (kX1_wrongIf (d := 2) (by omega) h) (Nat.le_of_ble_eq_true rfl) rfl rfl rfl dX1_lookAtPair_120 rfl (fun _ _ hh => ?_)
  obtain ⟨r7, τ8, rfl, rfl, h⟩ := hh
  refine aw_stk (st' := [.int r7]) rfl ?_
  exact aw_iret rfl dX1_lookAtPair_123 ⟨_, τ8, rfl, rfl, h⟩
def wp_X1_lookAtPair_117  (post : Int32 → WSX1 → Prop) (σ : WSX1) (x1 : Int32) : Prop :=
  wp_X1_lookAtPair_118  post σ x1 (0 : Int32)
theorem aw_X1_lookAtPair_117 {G : aw_G} {d : Nat} (hd : 3 ≤ d) {post : Int32 → WSX1 → Prop}  {σ : WSX1} {x1 : Int32} (h : wp_X1_lookAtPair_117  post σ x1) : AW G MX1_lookAtPair d 0 0 20 (aw_pi (wX1 G) post) 117 [(1, .int x1)] [.ref 0] (wX1 G σ) := by
  unfold wp_X1_lookAtPair_117 at h
  refine aw_iconst (v := (0 : Int32)) dX1_lookAtPair_117 (by decide) ?_
  exact aw_X1_lookAtPair_118 hd  h
def wp_X1_lookAtPair_104  (post : Int32 → WSX1 → Prop) (σ : WSX1) (x1 : Int32) (x2 : Int32) (x3 : Int32) : Prop :=
  ((x3 = 0 → wp_X1_lookAtPair_117  post σ x1) ∧ (¬ x3 = 0 → ((x2 = 0 → wp_X1_lookAtPair_117  post σ x1) ∧ (¬ x2 = 0 → wp_X1_lookAtPair_118  post σ x1 (1 : Int32)))))
theorem aw_X1_lookAtPair_104 {G : aw_G} {d : Nat} (hd : 3 ≤ d) {post : Int32 → WSX1 → Prop}  {σ : WSX1} {x1 : Int32} {x2 : Int32} {x3 : Int32} (h : wp_X1_lookAtPair_104  post σ x1 x2 x3) : AW G MX1_lookAtPair d 0 0 20 (aw_pi (wX1 G) post) 104 [(0, .ref 0), (1, .int x1), (2, .int x2), (3, .int x3)] [] (wX1 G σ) := by
  unfold wp_X1_lookAtPair_104 at h
  refine aw_aload_n 0 dX1_lookAtPair_104 rfl rfl ?_
  refine aw_iload_n 3 dX1_lookAtPair_105 rfl rfl ?_
  refine aw_if_eq 117 dX1_lookAtPair_106 (by decide) (fun c10 => ?_) (fun c10 => ?_)
  · have h := h.1 c10
    refine aw_lvsub (lv' := [(1, .int x1)]) [1] rfl ?_
    exact aw_X1_lookAtPair_117 hd  h
  · have h := h.2 c10
    refine aw_iload_n 2 dX1_lookAtPair_109 rfl rfl ?_
    refine aw_if_eq 117 dX1_lookAtPair_110 (by decide) (fun c9 => ?_) (fun c9 => ?_)
    · have h := h.1 c9
      refine aw_lvsub (lv' := [(1, .int x1)]) [1] rfl ?_
      exact aw_X1_lookAtPair_117 hd  h
    · have h := h.2 c9
      refine aw_iconst (v := (1 : Int32)) dX1_lookAtPair_113 (by decide) ?_
      refine aw_goto 118 dX1_lookAtPair_114 (by decide) ?_
      refine aw_lvsub (lv' := [(1, .int x1)]) [1] rfl ?_
      exact aw_X1_lookAtPair_118 hd  h
def wp_X1_lookAtPair_77  (post : Int32 → WSX1 → Prop) (σ : WSX1) (x1 : Int32) (x2 : Int32) (s0 : Int32) : Prop :=
  ((s0 = 0 → wp_X1_lookAtPair_104  post σ x1 x2 s0) ∧ (¬ s0 = 0 → ((σ.1.1.2 ≤ 0 → wp_X1_lookAtPair_104  post σ x1 x2 s0) ∧ (¬ σ.1.1.2 ≤ 0 → wp_X4_place σ.1.2 x1 (fun r11 τ12 => wp_X1_wrong ((σ.1.1, τ12), σ.2) (8 : Int32) r11 (fun r13 τ14 => post r13 τ14))))))
theorem aw_X1_lookAtPair_77 {G : aw_G} {d : Nat} (hd : 3 ≤ d) {post : Int32 → WSX1 → Prop}  {σ : WSX1} {x1 : Int32} {x2 : Int32} {s0 : Int32} (h : wp_X1_lookAtPair_77  post σ x1 x2 s0) : AW G MX1_lookAtPair d 0 0 20 (aw_pi (wX1 G) post) 77 [(0, .ref 0), (1, .int x1), (2, .int x2)] [.int s0] (wX1 G σ) := by
  unfold wp_X1_lookAtPair_77 at h
  refine aw_istore_n (lv' := [(3, .int s0), (0, .ref 0), (1, .int x1), (2, .int x2)]) dX1_lookAtPair_77 rfl (by decide) rfl ?_
  refine aw_iload_n 0 dX1_lookAtPair_78 rfl rfl ?_
  refine aw_if_eq 104 dX1_lookAtPair_79 (by decide) (fun c16 => ?_) (fun c16 => ?_)
  · have h := h.1 c16
    refine aw_lvsub (lv' := [(0, .ref 0), (1, .int x1), (2, .int x2), (3, .int s0)]) [1, 2, 3, 0] rfl ?_
    exact aw_X1_lookAtPair_104 hd  h
  · have h := h.2 c16
    refine aw_aload_n 1 dX1_lookAtPair_82 rfl rfl ?_
    refine aw_getf (v := .int σ.1.1.2) fX1_19 0 rfl rfl dX1_lookAtPair_83 ?_
    refine aw_if_le 104 dX1_lookAtPair_86 (by decide) (fun c15 => ?_) (fun c15 => ?_)
    · have h := h.1 c15
      refine aw_lvsub (lv' := [(0, .ref 0), (1, .int x1), (2, .int x2), (3, .int s0)]) [1, 2, 3, 0] rfl ?_
      exact aw_X1_lookAtPair_104 hd  h
    · have h := h.2 c15
      refine aw_aload_n 1 dX1_lookAtPair_89 rfl rfl ?_
      refine aw_bipush (v := (8 : Int32)) dX1_lookAtPair_90 (by decide) ?_
      refine aw_aload_n 1 dX1_lookAtPair_92 rfl rfl ?_
      refine aw_getf (v := .ref 1) fX1_9 0 rfl rfl dX1_lookAtPair_93 ?_
      refine aw_iload_n 2 dX1_lookAtPair_96 rfl rfl ?_
      refine aw_callV (mc1 := 0) (ms1 := 0) (mc := 0) (ms := 0) (st := [.int (8 : Int32), .ref 0]) (q := 1) (As := [.int x1]) (vsc := [.int x1]) lX1_78 insX4_place selX4_place ⟨TX4, 10, rfl⟩ (by omega) (kX4_place (d := 1) (by omega) h) [1, 11, 12, 13, 14, 15, 16, 17, 18, 19] rfl rfl rfl rfl rfl dX1_lookAtPair_97 rfl rfl (fun _ _ hh => ?_)
      obtain ⟨r11, τ12, rfl, rfl, h⟩ := hh
      refine ⟨(wX1 G ((σ.1.1, τ12), σ.2)), [.int r11, .int (8 : Int32), .ref 0], rfl, rfl, rfl, ?_⟩
      refine aw_callVT (mc1 := 0) (ms1 := 0) (mc := 0) (ms := 0) (st := []) (q := 0) (As := [.int (8 : Int32), .int r11]) lX1_81 insX1_wrong selX1_wrong ⟨TX1, 4, rfl⟩ (by omega) (kX1_wrong (d := 0) (by omega) h) (Nat.le_of_ble_eq_true rfl) rfl rfl rfl dX1_lookAtPair_100 rfl (fun _ _ hh => ?_)
      obtain ⟨r13, τ14, rfl, rfl, h⟩ := hh
      refine aw_stk (st' := [.int r13]) rfl ?_
      exact aw_iret rfl dX1_lookAtPair_103 ⟨_, τ14, rfl, rfl, h⟩
def wp_X1_lookAtPair_72  (post : Int32 → WSX1 → Prop) (σ : WSX1) (x1 : Int32) (x2 : Int32) : Prop :=
  wp_X1_lookAtPair_77  post σ x1 x2 (1 : Int32)
theorem aw_X1_lookAtPair_72 {G : aw_G} {d : Nat} (hd : 3 ≤ d) {post : Int32 → WSX1 → Prop}  {σ : WSX1} {x1 : Int32} {x2 : Int32} (h : wp_X1_lookAtPair_72  post σ x1 x2) : AW G MX1_lookAtPair d 0 0 20 (aw_pi (wX1 G) post) 72 [(0, .ref 0), (1, .int x1), (2, .int x2)] [] (wX1 G σ) := by
  unfold wp_X1_lookAtPair_72 at h
  refine aw_iconst (v := (1 : Int32)) dX1_lookAtPair_72 (by decide) ?_
  refine aw_goto 77 dX1_lookAtPair_73 (by decide) ?_
  exact aw_X1_lookAtPair_77 hd  h
def wp_X1_lookAtPair_36  (post : Int32 → WSX1 → Prop) (σ : WSX1) (x1 : Int32) (s0 : Int32) : Prop :=
  wp_X4_keepSecret σ.1.2 x1 s0 (fun τ4 => wp_X4_kind τ4 x1 (fun r5 τ6 => ((r5 = (47 : Int32) → wp_X1_lookAtPair_72  post ((σ.1.1, τ6), σ.2) x1 s0) ∧ (¬ r5 = (47 : Int32) → wp_X4_kind τ6 x1 (fun r17 τ18 => ((¬ r17 = (37 : Int32) → wp_X1_lookAtPair_77  post ((σ.1.1, τ18), σ.2) x1 s0 (0 : Int32)) ∧ (r17 = (37 : Int32) → wp_X1_lookAtPair_72  post ((σ.1.1, τ18), σ.2) x1 s0)))))))
theorem aw_X1_lookAtPair_36 {G : aw_G} {d : Nat} (hd : 3 ≤ d) {post : Int32 → WSX1 → Prop}  {σ : WSX1} {x1 : Int32} {s0 : Int32} (h : wp_X1_lookAtPair_36  post σ x1 s0) : AW G MX1_lookAtPair d 0 0 20 (aw_pi (wX1 G) post) 36 [(0, .ref 0), (1, .int x1)] [.int s0] (wX1 G σ) := by
  unfold wp_X1_lookAtPair_36 at h
  refine aw_istore_n (lv' := [(2, .int s0), (0, .ref 0), (1, .int x1)]) dX1_lookAtPair_36 rfl (by decide) rfl ?_
  refine aw_aload_n 1 dX1_lookAtPair_37 rfl rfl ?_
  refine aw_getf (v := .ref 1) fX1_9 0 rfl rfl dX1_lookAtPair_38 ?_
  refine aw_iload_n 2 dX1_lookAtPair_41 rfl rfl ?_
  refine aw_iload_n 0 dX1_lookAtPair_42 rfl rfl ?_
  refine aw_callV (mc1 := 0) (ms1 := 0) (mc := 0) (ms := 0) (st := []) (q := 1) (As := [.int x1, .int s0]) (vsc := [.int x1, .int s0]) lX1_59 insX4_keepSecret selX4_keepSecret ⟨TX4, 10, rfl⟩ (by omega) (kX4_keepSecret (d := 1) (by omega) h) [1, 11, 12, 13, 14, 15, 16, 17, 18, 19] rfl rfl rfl rfl rfl dX1_lookAtPair_43 rfl rfl (fun _ _ hh => ?_)
  obtain ⟨τ4, rfl, rfl, h⟩ := hh
  refine ⟨(wX1 G ((σ.1.1, τ4), σ.2)), [], rfl, rfl, rfl, ?_⟩
  refine aw_aload_n 1 dX1_lookAtPair_46 rfl rfl ?_
  refine aw_getf (v := .ref 1) fX1_9 0 rfl rfl dX1_lookAtPair_47 ?_
  refine aw_iload_n 2 dX1_lookAtPair_50 rfl rfl ?_
  refine aw_callV (mc1 := 0) (ms1 := 0) (mc := 0) (ms := 0) (st := []) (q := 1) (As := [.int x1]) (vsc := [.int x1]) lX1_36 insX4_kind selX4_kind ⟨TX4, 10, rfl⟩ (by omega) (kX4_kind (d := 1) (by omega) h) [1, 11, 12, 13, 14, 15, 16, 17, 18, 19] rfl rfl rfl rfl rfl dX1_lookAtPair_51 rfl rfl (fun _ _ hh => ?_)
  obtain ⟨r5, τ6, rfl, rfl, h⟩ := hh
  refine ⟨(wX1 G ((σ.1.1, τ6), σ.2)), [.int r5], rfl, rfl, rfl, ?_⟩
  refine aw_bipush (v := (47 : Int32)) dX1_lookAtPair_54 (by decide) ?_
  refine aw_icmp_eq 72 dX1_lookAtPair_56 (by decide) (fun c20 => ?_) (fun c20 => ?_)
  · have h := h.1 c20
    refine aw_lvsub (lv' := [(0, .ref 0), (1, .int x1), (2, .int s0)]) [1, 2, 0] rfl ?_
    exact aw_X1_lookAtPair_72 hd  h
  · have h := h.2 c20
    refine aw_aload_n 1 dX1_lookAtPair_59 rfl rfl ?_
    refine aw_getf (v := .ref 1) fX1_9 0 rfl rfl dX1_lookAtPair_60 ?_
    refine aw_iload_n 2 dX1_lookAtPair_63 rfl rfl ?_
    refine aw_callV (mc1 := 0) (ms1 := 0) (mc := 0) (ms := 0) (st := []) (q := 1) (As := [.int x1]) (vsc := [.int x1]) lX1_36 insX4_kind selX4_kind ⟨TX4, 10, rfl⟩ (by omega) (kX4_kind (d := 1) (by omega) h) [1, 11, 12, 13, 14, 15, 16, 17, 18, 19] rfl rfl rfl rfl rfl dX1_lookAtPair_64 rfl rfl (fun _ _ hh => ?_)
    obtain ⟨r17, τ18, rfl, rfl, h⟩ := hh
    refine ⟨(wX1 G ((σ.1.1, τ18), σ.2)), [.int r17], rfl, rfl, rfl, ?_⟩
    refine aw_bipush (v := (37 : Int32)) dX1_lookAtPair_67 (by decide) ?_
    refine aw_icmp_ne 76 dX1_lookAtPair_69 (by decide) (fun c19 => ?_) (fun c19 => ?_)
    · have h := h.1 c19
      refine aw_iconst (v := (0 : Int32)) dX1_lookAtPair_76 (by decide) ?_
      refine aw_lvsub (lv' := [(0, .ref 0), (1, .int x1), (2, .int s0)]) [1, 2, 0] rfl ?_
      exact aw_X1_lookAtPair_77 hd  h
    · have h := h.2 c19
      refine aw_lvsub (lv' := [(0, .ref 0), (1, .int x1), (2, .int s0)]) [1, 2, 0] rfl ?_
      exact aw_X1_lookAtPair_72 hd  h
def wp_X1_lookAtPair_31  (post : Int32 → WSX1 → Prop) (σ : WSX1) (x1 : Int32) : Prop :=
  wp_X1_lookAtPair_36  post σ x1 (1 : Int32)
theorem aw_X1_lookAtPair_31 {G : aw_G} {d : Nat} (hd : 3 ≤ d) {post : Int32 → WSX1 → Prop}  {σ : WSX1} {x1 : Int32} (h : wp_X1_lookAtPair_31  post σ x1) : AW G MX1_lookAtPair d 0 0 20 (aw_pi (wX1 G) post) 31 [(0, .ref 0), (1, .int x1)] [] (wX1 G σ) := by
  unfold wp_X1_lookAtPair_31 at h
  refine aw_iconst (v := (1 : Int32)) dX1_lookAtPair_31 (by decide) ?_
  refine aw_goto 36 dX1_lookAtPair_32 (by decide) ?_
  exact aw_X1_lookAtPair_36 hd  h
def wp_X1_lookAtPair (σ : WSX1) (a1 : Int32) (post : Int32 → WSX1 → Prop) : Prop :=
  wp_X4_secret σ.1.2 (a1 - (1 : Int32)) (fun r1 τ2 => ((¬ r1 = 0 → wp_X1_lookAtPair_31  post ((σ.1.1, τ2), σ.2) a1) ∧ (r1 = 0 → wp_X4_left τ2 a1 (fun r21 τ22 => wp_X4_secret τ22 r21 (fun r23 τ24 => ((r23 = 0 → wp_X1_lookAtPair_36  post ((σ.1.1, τ24), σ.2) a1 (0 : Int32)) ∧ (¬ r23 = 0 → wp_X1_lookAtPair_31  post ((σ.1.1, τ24), σ.2) a1)))))))
theorem kX1_lookAtPair {G : aw_G} {d : Nat} (hd : 3 ≤ d) {σ : WSX1} {a1 : Int32} {post : Int32 → WSX1 → Prop} (h : wp_X1_lookAtPair σ a1 post) : AC G MX1_lookAtPair d 0 0 20 [.ref 0, .int a1] (wX1 G σ) (aw_pi (wX1 G) post) := by
  refine AC.of (lv := [(0, .ref 0), (1, .int a1)]) (by decide) (Nat.le_of_ble_eq_true rfl) rfl ?_
  unfold wp_X1_lookAtPair at h
  refine aw_aload_n 0 dX1_lookAtPair_0 rfl rfl ?_
  refine aw_getf (v := .ref 1) fX1_9 0 rfl rfl dX1_lookAtPair_1 ?_
  refine aw_iload_n 1 dX1_lookAtPair_4 rfl rfl ?_
  refine aw_iconst (v := (1 : Int32)) dX1_lookAtPair_5 (by decide) ?_
  refine aw_isub dX1_lookAtPair_6 ?_
  refine aw_callV (mc1 := 0) (ms1 := 0) (mc := 0) (ms := 0) (st := []) (q := 1) (As := [.int (a1 - (1 : Int32))]) (vsc := [.int (a1 - (1 : Int32))]) lX1_45 insX4_secret selX4_secret ⟨TX4, 10, rfl⟩ (by omega) (kX4_secret (d := 1) (by omega) h) [1, 11, 12, 13, 14, 15, 16, 17, 18, 19] rfl rfl rfl rfl rfl dX1_lookAtPair_7 rfl rfl (fun _ _ hh => ?_)
  obtain ⟨r1, τ2, rfl, rfl, h⟩ := hh
  refine ⟨(wX1 G ((σ.1.1, τ2), σ.2)), [.int r1], rfl, rfl, rfl, ?_⟩
  refine aw_if_ne 31 dX1_lookAtPair_10 (by decide) (fun c26 => ?_) (fun c26 => ?_)
  · have h := h.1 c26
    exact aw_X1_lookAtPair_31 hd  h
  · have h := h.2 c26
    refine aw_aload_n 0 dX1_lookAtPair_13 rfl rfl ?_
    refine aw_getf (v := .ref 1) fX1_9 0 rfl rfl dX1_lookAtPair_14 ?_
    refine aw_aload_n 0 dX1_lookAtPair_17 rfl rfl ?_
    refine aw_getf (v := .ref 1) fX1_9 0 rfl rfl dX1_lookAtPair_18 ?_
    refine aw_iload_n 1 dX1_lookAtPair_21 rfl rfl ?_
    refine aw_callV (mc1 := 0) (ms1 := 0) (mc := 0) (ms := 0) (st := [.ref 1]) (q := 1) (As := [.int a1]) (vsc := [.int a1]) lX1_99 insX4_left selX4_left ⟨TX4, 10, rfl⟩ (by omega) (kX4_left (d := 1) (by omega) h) [1, 11, 12, 13, 14, 15, 16, 17, 18, 19] rfl rfl rfl rfl rfl dX1_lookAtPair_22 rfl rfl (fun _ _ hh => ?_)
    obtain ⟨r21, τ22, rfl, rfl, h⟩ := hh
    refine ⟨(wX1 G ((σ.1.1, τ22), σ.2)), [.int r21, .ref 1], rfl, rfl, rfl, ?_⟩
    refine aw_callV (mc1 := 0) (ms1 := 0) (mc := 0) (ms := 0) (st := []) (q := 1) (As := [.int r21]) (vsc := [.int r21]) lX1_45 insX4_secret selX4_secret ⟨TX4, 10, rfl⟩ (by omega) (kX4_secret (d := 1) (by omega) h) [1, 11, 12, 13, 14, 15, 16, 17, 18, 19] rfl rfl rfl rfl rfl dX1_lookAtPair_25 rfl rfl (fun _ _ hh => ?_)
    obtain ⟨r23, τ24, rfl, rfl, h⟩ := hh
    refine ⟨(wX1 G ((σ.1.1, τ24), σ.2)), [.int r23], rfl, rfl, rfl, ?_⟩
    refine aw_if_eq 35 dX1_lookAtPair_28 (by decide) (fun c25 => ?_) (fun c25 => ?_)
    · have h := h.1 c25
      refine aw_iconst (v := (0 : Int32)) dX1_lookAtPair_35 (by decide) ?_
      exact aw_X1_lookAtPair_36 hd  h
    · have h := h.2 c25
      exact aw_X1_lookAtPair_31 hd  h
def wp_X1_look_229  (post : Int32 → WSX1 → Prop) (σ : WSX1) (x1 : Int32) (s0 : Int32) : Prop :=
  wp_X1_wrongIf σ s0 (7 : Int32) x1 (fun r23 τ24 => post r23 τ24)
theorem aw_X1_look_229 {G : aw_G} {d : Nat} (hd : 5 ≤ d) {post : Int32 → WSX1 → Prop}  {σ : WSX1} {x1 : Int32} {s0 : Int32} (h : wp_X1_look_229  post σ x1 s0) : AW G MX1_look d 0 0 20 (aw_pi (wX1 G) post) 229 [(1, .int x1)] [.int s0, .ref 0] (wX1 G σ) := by
  unfold wp_X1_look_229 at h
  refine aw_bipush (v := (7 : Int32)) dX1_look_229 (by decide) ?_
  refine aw_iload_n 0 dX1_look_231 rfl rfl ?_
  refine aw_callVT (mc1 := 0) (ms1 := 0) (mc := 0) (ms := 0) (st := []) (q := 0) (As := [.int s0, .int (7 : Int32), .int x1]) lX1_49 insX1_wrongIf selX1_wrongIf ⟨TX1, 4, rfl⟩ (by omega) (kX1_wrongIf (d := 2) (by omega) h) (Nat.le_of_ble_eq_true rfl) rfl rfl rfl dX1_look_232 rfl (fun _ _ hh => ?_)
  obtain ⟨r23, τ24, rfl, rfl, h⟩ := hh
  refine aw_stk (st' := [.int r23]) rfl ?_
  exact aw_iret rfl dX1_look_235 ⟨_, τ24, rfl, rfl, h⟩
def wp_X1_look_228  (post : Int32 → WSX1 → Prop) (σ : WSX1) (x1 : Int32) : Prop :=
  wp_X1_look_229  post σ x1 (0 : Int32)
theorem aw_X1_look_228 {G : aw_G} {d : Nat} (hd : 5 ≤ d) {post : Int32 → WSX1 → Prop}  {σ : WSX1} {x1 : Int32} (h : wp_X1_look_228  post σ x1) : AW G MX1_look d 0 0 20 (aw_pi (wX1 G) post) 228 [(1, .int x1)] [.ref 0] (wX1 G σ) := by
  unfold wp_X1_look_228 at h
  refine aw_iconst (v := (0 : Int32)) dX1_look_228 (by decide) ?_
  exact aw_X1_look_229 hd  h
def wp_X1_look_331  (post : Int32 → WSX1 → Prop) (σ : WSX1) (s0 : Int32) (s1 : Int32) : Prop :=
  (∀ y40 : Int32, y40 = (s1 + s0) → post (0 : Int32) (((σ.1.1.1, y40), σ.1.2), σ.2))
theorem aw_X1_look_331 {G : aw_G} {d : Nat} (hd : 5 ≤ d) {post : Int32 → WSX1 → Prop}  {σ : WSX1} {s0 : Int32} {s1 : Int32} (h : wp_X1_look_331  post σ s0 s1) : AW G MX1_look d 0 0 20 (aw_pi (wX1 G) post) 331 [] [.int s0, .int s1, .ref 0] (wX1 G σ) := by
  unfold wp_X1_look_331 at h
  refine aw_iadd dX1_look_331 ?_
  refine aw_topi (fun y40 ey40 => ?_)
  have h := h y40 ey40
  refine aw_putf fX1_19 0 (w' := (wX1 G (((σ.1.1.1, y40), σ.1.2), σ.2))) rfl (fun _ => ⟨rfl, rfl⟩) (Nat.le_of_ble_eq_true rfl) rfl dX1_look_332 ?_
  refine aw_iconst (v := (0 : Int32)) dX1_look_335 (by decide) ?_
  exact aw_iret rfl dX1_look_336 ⟨_, (((σ.1.1.1, y40), σ.1.2), σ.2), rfl, rfl, h⟩
def wp_X1_look_365  (post : Int32 → WSX1 → Prop) (σ : WSX1) (s0 : Int32) (s1 : Int32) : Prop :=
  (∀ y47 : Int32, y47 = (s1 - s0) → post (0 : Int32) (((σ.1.1.1, y47), σ.1.2), σ.2))
theorem aw_X1_look_365 {G : aw_G} {d : Nat} (hd : 5 ≤ d) {post : Int32 → WSX1 → Prop}  {σ : WSX1} {s0 : Int32} {s1 : Int32} (h : wp_X1_look_365  post σ s0 s1) : AW G MX1_look d 0 0 20 (aw_pi (wX1 G) post) 365 [] [.int s0, .int s1, .ref 0] (wX1 G σ) := by
  unfold wp_X1_look_365 at h
  refine aw_isub dX1_look_365 ?_
  refine aw_topi (fun y47 ey47 => ?_)
  have h := h y47 ey47
  refine aw_putf fX1_19 0 (w' := (wX1 G (((σ.1.1.1, y47), σ.1.2), σ.2))) rfl (fun _ => ⟨rfl, rfl⟩) (Nat.le_of_ble_eq_true rfl) rfl dX1_look_366 ?_
  refine aw_iconst (v := (0 : Int32)) dX1_look_369 (by decide) ?_
  exact aw_iret rfl dX1_look_370 ⟨_, (((σ.1.1.1, y47), σ.1.2), σ.2), rfl, rfl, h⟩
def wp_X1_look_249  (post : Int32 → WSX1 → Prop) (σ : WSX1) (x1 : Int32) (s0 : Int32) : Prop :=
  wp_X1_wrongIf σ s0 (8 : Int32) x1 (fun r50 τ51 => post r50 τ51)
theorem aw_X1_look_249 {G : aw_G} {d : Nat} (hd : 5 ≤ d) {post : Int32 → WSX1 → Prop}  {σ : WSX1} {x1 : Int32} {s0 : Int32} (h : wp_X1_look_249  post σ x1 s0) : AW G MX1_look d 0 0 20 (aw_pi (wX1 G) post) 249 [(1, .int x1)] [.int s0, .ref 0] (wX1 G σ) := by
  unfold wp_X1_look_249 at h
  refine aw_bipush (v := (8 : Int32)) dX1_look_249 (by decide) ?_
  refine aw_iload_n 0 dX1_look_251 rfl rfl ?_
  refine aw_callVT (mc1 := 0) (ms1 := 0) (mc := 0) (ms := 0) (st := []) (q := 0) (As := [.int s0, .int (8 : Int32), .int x1]) lX1_49 insX1_wrongIf selX1_wrongIf ⟨TX1, 4, rfl⟩ (by omega) (kX1_wrongIf (d := 2) (by omega) h) (Nat.le_of_ble_eq_true rfl) rfl rfl rfl dX1_look_252 rfl (fun _ _ hh => ?_)
  obtain ⟨r50, τ51, rfl, rfl, h⟩ := hh
  refine aw_stk (st' := [.int r50]) rfl ?_
  exact aw_iret rfl dX1_look_255 ⟨_, τ51, rfl, rfl, h⟩
def wp_X1_look (σ : WSX1) (a1 : Int32) (post : Int32 → WSX1 → Prop) : Prop :=
  wp_X4_kind σ.1.2 a1 (fun r1 τ2 => ((r1 = (2 : Int32) → wp_X1_lookAtName ((σ.1.1, τ2), σ.2) a1 (fun r4 τ5 => post r4 τ5)) ∧ (¬ r1 = (2 : Int32) → ((r1 = (11 : Int32) → wp_X1_lookAtDeclaration ((σ.1.1, τ2), σ.2) a1 (fun r7 τ8 => post r7 τ8)) ∧ (¬ r1 = (11 : Int32) → ((r1 = (13 : Int32) → wp_X1_lookAtTarget ((σ.1.1, τ2), σ.2) a1 (fun r10 τ11 => post r10 τ11)) ∧ (¬ r1 = (13 : Int32) → ((r1 = (14 : Int32) → wp_X1_lookAtTarget ((σ.1.1, τ2), σ.2) a1 (fun r13 τ14 => post r13 τ14)) ∧ (¬ r1 = (14 : Int32) → ((r1 = (15 : Int32) → wp_X4_secret τ2 (a1 - (1 : Int32)) (fun r16 τ17 => wp_X1_wrongIf ((σ.1.1, τ17), σ.2) r16 (4 : Int32) a1 (fun r18 τ19 => post r18 τ19))) ∧ (¬ r1 = (15 : Int32) → ((r1 = (16 : Int32) → wp_X4_secret τ2 (a1 - (1 : Int32)) (fun r21 τ22 => ((r21 = 0 → wp_X1_look_228  post ((σ.1.1, τ22), σ.2) a1) ∧ (¬ r21 = 0 → wp_X4_value τ22 a1 (fun r25 τ26 => wp_X4_value τ26 r25 (fun r27 τ28 => wp_X3_secret σ.2 r27 (fun r29 τ30 => ((¬ r29 = 0 → wp_X1_look_228  post ((σ.1.1, τ28), τ30) a1) ∧ (r29 = 0 → wp_X1_look_229  post ((σ.1.1, τ28), τ30) a1 (1 : Int32)))))))))) ∧ (¬ r1 = (16 : Int32) → ((r1 = (18 : Int32) → wp_X4_secret τ2 (a1 - (1 : Int32)) (fun r34 τ35 => wp_X4_keepSecret τ35 a1 r34 (fun τ37 => wp_X4_secret τ37 a1 (fun r38 τ39 => ((r38 = 0 → wp_X1_look_331  post ((σ.1.1, τ39), σ.2) (0 : Int32) σ.1.1.2) ∧ (¬ r38 = 0 → wp_X1_look_331  post ((σ.1.1, τ39), σ.2) (1 : Int32) σ.1.1.2)))))) ∧ (¬ r1 = (18 : Int32) → ((r1 = (20 : Int32) → wp_X4_value τ2 a1 (fun r43 τ44 => wp_X4_secret τ44 r43 (fun r45 τ46 => ((r45 = 0 → wp_X1_look_365  post ((σ.1.1, τ46), σ.2) (0 : Int32) σ.1.1.2) ∧ (¬ r45 = 0 → wp_X1_look_365  post ((σ.1.1, τ46), σ.2) (1 : Int32) σ.1.1.2))))) ∧ (¬ r1 = (20 : Int32) → ((r1 = (21 : Int32) → ((σ.1.1.2 ≤ 0 → wp_X1_look_249  post ((σ.1.1, τ2), σ.2) a1 (0 : Int32)) ∧ (¬ σ.1.1.2 ≤ 0 → wp_X1_look_249  post ((σ.1.1, τ2), σ.2) a1 (1 : Int32)))) ∧ (¬ r1 = (21 : Int32) → ((r1 = (23 : Int32) → wp_X4_secret τ2 (a1 - (1 : Int32)) (fun r54 τ55 => wp_X1_wrongIf ((σ.1.1, τ55), σ.2) r54 (6 : Int32) a1 (fun r56 τ57 => post r56 τ57))) ∧ (¬ r1 = (23 : Int32) → ((r1 = (25 : Int32) → ((σ.1.1.2 ≤ 0 → wp_X1_look_249  post ((σ.1.1, τ2), σ.2) a1 (0 : Int32)) ∧ (¬ σ.1.1.2 ≤ 0 → wp_X1_look_249  post ((σ.1.1, τ2), σ.2) a1 (1 : Int32)))) ∧ (¬ r1 = (25 : Int32) → ((r1 = (26 : Int32) → wp_X4_secret τ2 (a1 - (1 : Int32)) (fun r61 τ62 => wp_X1_wrongIf ((σ.1.1, τ62), σ.2) r61 (7 : Int32) a1 (fun r63 τ64 => post r63 τ64))) ∧ (¬ r1 = (26 : Int32) → ((r1 = (27 : Int32) → wp_X1_lookAtRow ((σ.1.1, τ2), σ.2) a1 (fun r66 τ67 => post r66 τ67)) ∧ (¬ r1 = (27 : Int32) → ((r1 = (28 : Int32) → wp_X1_lookAtItem ((σ.1.1, τ2), σ.2) a1 (fun r69 τ70 => post r69 τ70)) ∧ (¬ r1 = (28 : Int32) → ((r1 = (29 : Int32) → wp_X4_secret τ2 (a1 - (1 : Int32)) (fun r72 τ73 => wp_X4_keepSecret τ73 a1 r72 (fun τ75 => post (0 : Int32) ((σ.1.1, τ75), σ.2)))) ∧ (¬ r1 = (29 : Int32) → ((r1 = (33 : Int32) → wp_X4_secret τ2 (a1 - (1 : Int32)) (fun r77 τ78 => wp_X4_keepSecret τ78 a1 r77 (fun τ80 => post (0 : Int32) ((σ.1.1, τ80), σ.2)))) ∧ (¬ r1 = (33 : Int32) → ((r1 = (126 : Int32) → wp_X4_secret τ2 (a1 - (1 : Int32)) (fun r82 τ83 => wp_X4_keepSecret τ83 a1 r82 (fun τ85 => post (0 : Int32) ((σ.1.1, τ85), σ.2)))) ∧ (¬ r1 = (126 : Int32) → wp_X4_kind τ2 a1 (fun r86 τ87 => wp_X4_level r86 (fun r88 τ89 => ((¬ r88 = ((-1) : Int32) → wp_X1_lookAtPair ((σ.1.1, τ87), σ.2) a1 (fun r90 τ91 => post r90 τ91)) ∧ (r88 = ((-1) : Int32) → post (0 : Int32) ((σ.1.1, τ87), σ.2))))))))))))))))))))))))))))))))))))))))
theorem kX1_look {G : aw_G} {d : Nat} (hd : 5 ≤ d) {σ : WSX1} {a1 : Int32} {post : Int32 → WSX1 → Prop} (h : wp_X1_look σ a1 post) : AC G MX1_look d 0 0 20 [.ref 0, .int a1] (wX1 G σ) (aw_pi (wX1 G) post) := by
  refine AC.of (lv := [(0, .ref 0), (1, .int a1)]) (by decide) (Nat.le_of_ble_eq_true rfl) rfl ?_
  unfold wp_X1_look at h
  refine aw_aload_n 0 dX1_look_0 rfl rfl ?_
  refine aw_getf (v := .ref 1) fX1_9 0 rfl rfl dX1_look_1 ?_
  refine aw_iload_n 1 dX1_look_4 rfl rfl ?_
  refine aw_callV (mc1 := 0) (ms1 := 0) (mc := 0) (ms := 0) (st := []) (q := 1) (As := [.int a1]) (vsc := [.int a1]) lX1_36 insX4_kind selX4_kind ⟨TX4, 10, rfl⟩ (by omega) (kX4_kind (d := 1) (by omega) h) [1, 11, 12, 13, 14, 15, 16, 17, 18, 19] rfl rfl rfl rfl rfl dX1_look_5 rfl rfl (fun _ _ hh => ?_)
  obtain ⟨r1, τ2, rfl, rfl, h⟩ := hh
  refine ⟨(wX1 G ((σ.1.1, τ2), σ.2)), [.int r1], rfl, rfl, rfl, ?_⟩
  by_cases c3 : r1 = (2 : Int32)
  · refine aw_lookup 371 (off := 363) dX1_look_8 (by decide) (aw_swh (a := 2) c3 rfl) (by decide) ?_
    have h := h.1 c3
    refine aw_aload_n 0 dX1_look_371 rfl rfl ?_
    refine aw_iload_n 1 dX1_look_372 rfl rfl ?_
    refine aw_callVT (mc1 := 0) (ms1 := 0) (mc := 0) (ms := 0) (st := []) (q := 0) (As := [.int a1]) lX1_63 insX1_lookAtName selX1_lookAtName ⟨TX1, 4, rfl⟩ (by omega) (kX1_lookAtName (d := 4) (by omega) h) (Nat.le_of_ble_eq_true rfl) rfl rfl rfl dX1_look_373 rfl (fun _ _ hh => ?_)
    obtain ⟨r4, τ5, rfl, rfl, h⟩ := hh
    refine aw_stk (st' := [.int r4]) rfl ?_
    exact aw_iret rfl dX1_look_376 ⟨_, τ5, rfl, rfl, h⟩
  have h := h.2 c3
  by_cases c6 : r1 = (11 : Int32)
  · refine aw_lookup 156 (off := 148) dX1_look_8 (by decide) ((lv_osw (a := 2) c3 rfl).trans (aw_swh (a := 11) c6 rfl)) (by decide) ?_
    have h := h.1 c6
    refine aw_aload_n 0 dX1_look_156 rfl rfl ?_
    refine aw_iload_n 1 dX1_look_157 rfl rfl ?_
    refine aw_callVT (mc1 := 0) (ms1 := 0) (mc := 0) (ms := 0) (st := []) (q := 0) (As := [.int a1]) lX1_39 insX1_lookAtDeclaration selX1_lookAtDeclaration ⟨TX1, 4, rfl⟩ (by omega) (kX1_lookAtDeclaration (d := 4) (by omega) h) (Nat.le_of_ble_eq_true rfl) rfl rfl rfl dX1_look_158 rfl (fun _ _ hh => ?_)
    obtain ⟨r7, τ8, rfl, rfl, h⟩ := hh
    refine aw_stk (st' := [.int r7]) rfl ?_
    exact aw_iret rfl dX1_look_161 ⟨_, τ8, rfl, rfl, h⟩
  have h := h.2 c6
  by_cases c9 : r1 = (13 : Int32)
  · refine aw_lookup 162 (off := 154) dX1_look_8 (by decide) ((lv_osw (a := 2) c3 rfl).trans ((lv_osw (a := 11) c6 rfl).trans (aw_swh (a := 13) c9 rfl))) (by decide) ?_
    have h := h.1 c9
    refine aw_aload_n 0 dX1_look_162 rfl rfl ?_
    refine aw_iload_n 1 dX1_look_163 rfl rfl ?_
    refine aw_callVT (mc1 := 0) (ms1 := 0) (mc := 0) (ms := 0) (st := []) (q := 0) (As := [.int a1]) lX1_42 insX1_lookAtTarget selX1_lookAtTarget ⟨TX1, 4, rfl⟩ (by omega) (kX1_lookAtTarget (d := 4) (by omega) h) (Nat.le_of_ble_eq_true rfl) rfl rfl rfl dX1_look_164 rfl (fun _ _ hh => ?_)
    obtain ⟨r10, τ11, rfl, rfl, h⟩ := hh
    refine aw_stk (st' := [.int r10]) rfl ?_
    exact aw_iret rfl dX1_look_167 ⟨_, τ11, rfl, rfl, h⟩
  have h := h.2 c9
  by_cases c12 : r1 = (14 : Int32)
  · refine aw_lookup 162 (off := 154) dX1_look_8 (by decide) ((lv_osw (a := 2) c3 rfl).trans ((lv_osw (a := 11) c6 rfl).trans ((lv_osw (a := 13) c9 rfl).trans (aw_swh (a := 14) c12 rfl)))) (by decide) ?_
    have h := h.1 c12
    refine aw_aload_n 0 dX1_look_162 rfl rfl ?_
    refine aw_iload_n 1 dX1_look_163 rfl rfl ?_
    refine aw_callVT (mc1 := 0) (ms1 := 0) (mc := 0) (ms := 0) (st := []) (q := 0) (As := [.int a1]) lX1_42 insX1_lookAtTarget selX1_lookAtTarget ⟨TX1, 4, rfl⟩ (by omega) (kX1_lookAtTarget (d := 4) (by omega) h) (Nat.le_of_ble_eq_true rfl) rfl rfl rfl dX1_look_164 rfl (fun _ _ hh => ?_)
    obtain ⟨r13, τ14, rfl, rfl, h⟩ := hh
    refine aw_stk (st' := [.int r13]) rfl ?_
    exact aw_iret rfl dX1_look_167 ⟨_, τ14, rfl, rfl, h⟩
  have h := h.2 c12
  by_cases c15 : r1 = (15 : Int32)
  · refine aw_lookup 168 (off := 160) dX1_look_8 (by decide) ((lv_osw (a := 2) c3 rfl).trans ((lv_osw (a := 11) c6 rfl).trans ((lv_osw (a := 13) c9 rfl).trans ((lv_osw (a := 14) c12 rfl).trans (aw_swh (a := 15) c15 rfl))))) (by decide) ?_
    have h := h.1 c15
    refine aw_aload_n 0 dX1_look_168 rfl rfl ?_
    refine aw_aload_n 0 dX1_look_169 rfl rfl ?_
    refine aw_getf (v := .ref 1) fX1_9 0 rfl rfl dX1_look_170 ?_
    refine aw_iload_n 1 dX1_look_173 rfl rfl ?_
    refine aw_iconst (v := (1 : Int32)) dX1_look_174 (by decide) ?_
    refine aw_isub dX1_look_175 ?_
    refine aw_callV (mc1 := 0) (ms1 := 0) (mc := 0) (ms := 0) (st := [.ref 0]) (q := 1) (As := [.int (a1 - (1 : Int32))]) (vsc := [.int (a1 - (1 : Int32))]) lX1_45 insX4_secret selX4_secret ⟨TX4, 10, rfl⟩ (by omega) (kX4_secret (d := 1) (by omega) h) [1, 11, 12, 13, 14, 15, 16, 17, 18, 19] rfl rfl rfl rfl rfl dX1_look_176 rfl rfl (fun _ _ hh => ?_)
    obtain ⟨r16, τ17, rfl, rfl, h⟩ := hh
    refine ⟨(wX1 G ((σ.1.1, τ17), σ.2)), [.int r16, .ref 0], rfl, rfl, rfl, ?_⟩
    refine aw_iconst (v := (4 : Int32)) dX1_look_179 (by decide) ?_
    refine aw_iload_n 1 dX1_look_180 rfl rfl ?_
    refine aw_callVT (mc1 := 0) (ms1 := 0) (mc := 0) (ms := 0) (st := []) (q := 0) (As := [.int r16, .int (4 : Int32), .int a1]) lX1_49 insX1_wrongIf selX1_wrongIf ⟨TX1, 4, rfl⟩ (by omega) (kX1_wrongIf (d := 2) (by omega) h) (Nat.le_of_ble_eq_true rfl) rfl rfl rfl dX1_look_181 rfl (fun _ _ hh => ?_)
    obtain ⟨r18, τ19, rfl, rfl, h⟩ := hh
    refine aw_stk (st' := [.int r18]) rfl ?_
    exact aw_iret rfl dX1_look_184 ⟨_, τ19, rfl, rfl, h⟩
  have h := h.2 c15
  by_cases c20 : r1 = (16 : Int32)
  · refine aw_lookup 185 (off := 177) dX1_look_8 (by decide) ((lv_osw (a := 2) c3 rfl).trans ((lv_osw (a := 11) c6 rfl).trans ((lv_osw (a := 13) c9 rfl).trans ((lv_osw (a := 14) c12 rfl).trans ((lv_osw (a := 15) c15 rfl).trans (aw_swh (a := 16) c20 rfl)))))) (by decide) ?_
    have h := h.1 c20
    refine aw_aload_n 0 dX1_look_185 rfl rfl ?_
    refine aw_aload_n 0 dX1_look_186 rfl rfl ?_
    refine aw_getf (v := .ref 1) fX1_9 0 rfl rfl dX1_look_187 ?_
    refine aw_iload_n 1 dX1_look_190 rfl rfl ?_
    refine aw_iconst (v := (1 : Int32)) dX1_look_191 (by decide) ?_
    refine aw_isub dX1_look_192 ?_
    refine aw_callV (mc1 := 0) (ms1 := 0) (mc := 0) (ms := 0) (st := [.ref 0]) (q := 1) (As := [.int (a1 - (1 : Int32))]) (vsc := [.int (a1 - (1 : Int32))]) lX1_45 insX4_secret selX4_secret ⟨TX4, 10, rfl⟩ (by omega) (kX4_secret (d := 1) (by omega) h) [1, 11, 12, 13, 14, 15, 16, 17, 18, 19] rfl rfl rfl rfl rfl dX1_look_193 rfl rfl (fun _ _ hh => ?_)
    obtain ⟨r21, τ22, rfl, rfl, h⟩ := hh
    refine ⟨(wX1 G ((σ.1.1, τ22), σ.2)), [.int r21, .ref 0], rfl, rfl, rfl, ?_⟩
    refine aw_if_eq 228 dX1_look_196 (by decide) (fun c32 => ?_) (fun c32 => ?_)
    · have h := h.1 c32
      refine aw_lvsub (lv' := [(1, .int a1)]) [1] rfl ?_
      exact aw_X1_look_228 hd  h
    · have h := h.2 c32
      refine aw_aload_n 0 dX1_look_199 rfl rfl ?_
      refine aw_getf (v := .ref 2) fX1_15 0 rfl rfl dX1_look_200 ?_
      refine aw_aload_n 0 dX1_look_203 rfl rfl ?_
      refine aw_getf (v := .ref 1) fX1_9 0 rfl rfl dX1_look_204 ?_
      refine aw_aload_n 0 dX1_look_207 rfl rfl ?_
      refine aw_getf (v := .ref 1) fX1_9 0 rfl rfl dX1_look_208 ?_
      refine aw_iload_n 1 dX1_look_211 rfl rfl ?_
      refine aw_callV (mc1 := 0) (ms1 := 0) (mc := 0) (ms := 0) (st := [.ref 1, .ref 2, .ref 0]) (q := 1) (As := [.int a1]) (vsc := [.int a1]) lX1_53 insX4_value selX4_value ⟨TX4, 10, rfl⟩ (by omega) (kX4_value (d := 1) (by omega) h) [1, 11, 12, 13, 14, 15, 16, 17, 18, 19] rfl rfl rfl rfl rfl dX1_look_212 rfl rfl (fun _ _ hh => ?_)
      obtain ⟨r25, τ26, rfl, rfl, h⟩ := hh
      refine ⟨(wX1 G ((σ.1.1, τ26), σ.2)), [.int r25, .ref 1, .ref 2, .ref 0], rfl, rfl, rfl, ?_⟩
      refine aw_callV (mc1 := 0) (ms1 := 0) (mc := 0) (ms := 0) (st := [.ref 2, .ref 0]) (q := 1) (As := [.int r25]) (vsc := [.int r25]) lX1_53 insX4_value selX4_value ⟨TX4, 10, rfl⟩ (by omega) (kX4_value (d := 1) (by omega) h) [1, 11, 12, 13, 14, 15, 16, 17, 18, 19] rfl rfl rfl rfl rfl dX1_look_215 rfl rfl (fun _ _ hh => ?_)
      obtain ⟨r27, τ28, rfl, rfl, h⟩ := hh
      refine ⟨(wX1 G ((σ.1.1, τ28), σ.2)), [.int r27, .ref 2, .ref 0], rfl, rfl, rfl, ?_⟩
      refine aw_callV (mc1 := 0) (ms1 := 0) (mc := 0) (ms := 0) (st := [.ref 0]) (q := 2) (As := [.int r27]) (vsc := [.int r27]) lX1_56 insX3_secret selX3_secret ⟨TX3, 11, rfl⟩ (by omega) (kX3_secret (d := 1) (by omega) h) [2, 3, 4, 5, 6, 7, 8, 9, 10] rfl rfl rfl rfl rfl dX1_look_218 rfl rfl (fun _ _ hh => ?_)
      obtain ⟨r29, τ30, rfl, rfl, h⟩ := hh
      refine ⟨(wX1 G ((σ.1.1, τ28), τ30)), [.int r29, .ref 0], rfl, rfl, rfl, ?_⟩
      refine aw_if_ne 228 dX1_look_221 (by decide) (fun c31 => ?_) (fun c31 => ?_)
      · have h := h.1 c31
        refine aw_lvsub (lv' := [(1, .int a1)]) [1] rfl ?_
        exact aw_X1_look_228 hd  h
      · have h := h.2 c31
        refine aw_iconst (v := (1 : Int32)) dX1_look_224 (by decide) ?_
        refine aw_goto 229 dX1_look_225 (by decide) ?_
        refine aw_lvsub (lv' := [(1, .int a1)]) [1] rfl ?_
        exact aw_X1_look_229 hd  h
  have h := h.2 c20
  by_cases c33 : r1 = (18 : Int32)
  · refine aw_lookup 292 (off := 284) dX1_look_8 (by decide) ((lv_osw (a := 2) c3 rfl).trans ((lv_osw (a := 11) c6 rfl).trans ((lv_osw (a := 13) c9 rfl).trans ((lv_osw (a := 14) c12 rfl).trans ((lv_osw (a := 15) c15 rfl).trans ((lv_osw (a := 16) c20 rfl).trans (aw_swh (a := 18) c33 rfl))))))) (by decide) ?_
    have h := h.1 c33
    refine aw_aload_n 0 dX1_look_292 rfl rfl ?_
    refine aw_getf (v := .ref 1) fX1_9 0 rfl rfl dX1_look_293 ?_
    refine aw_iload_n 1 dX1_look_296 rfl rfl ?_
    refine aw_aload_n 0 dX1_look_297 rfl rfl ?_
    refine aw_getf (v := .ref 1) fX1_9 0 rfl rfl dX1_look_298 ?_
    refine aw_iload_n 1 dX1_look_301 rfl rfl ?_
    refine aw_iconst (v := (1 : Int32)) dX1_look_302 (by decide) ?_
    refine aw_isub dX1_look_303 ?_
    refine aw_callV (mc1 := 0) (ms1 := 0) (mc := 0) (ms := 0) (st := [.int a1, .ref 1]) (q := 1) (As := [.int (a1 - (1 : Int32))]) (vsc := [.int (a1 - (1 : Int32))]) lX1_45 insX4_secret selX4_secret ⟨TX4, 10, rfl⟩ (by omega) (kX4_secret (d := 1) (by omega) h) [1, 11, 12, 13, 14, 15, 16, 17, 18, 19] rfl rfl rfl rfl rfl dX1_look_304 rfl rfl (fun _ _ hh => ?_)
    obtain ⟨r34, τ35, rfl, rfl, h⟩ := hh
    refine ⟨(wX1 G ((σ.1.1, τ35), σ.2)), [.int r34, .int a1, .ref 1], rfl, rfl, rfl, ?_⟩
    refine aw_callV (mc1 := 0) (ms1 := 0) (mc := 0) (ms := 0) (st := []) (q := 1) (As := [.int a1, .int r34]) (vsc := [.int a1, .int r34]) lX1_59 insX4_keepSecret selX4_keepSecret ⟨TX4, 10, rfl⟩ (by omega) (kX4_keepSecret (d := 1) (by omega) h) [1, 11, 12, 13, 14, 15, 16, 17, 18, 19] rfl rfl rfl rfl rfl dX1_look_307 rfl rfl (fun _ _ hh => ?_)
    obtain ⟨τ37, rfl, rfl, h⟩ := hh
    refine ⟨(wX1 G ((σ.1.1, τ37), σ.2)), [], rfl, rfl, rfl, ?_⟩
    refine aw_aload_n 0 dX1_look_310 rfl rfl ?_
    refine aw_dup dX1_look_311 rfl ?_
    refine aw_getf (v := .int σ.1.1.2) fX1_19 0 rfl rfl dX1_look_312 ?_
    refine aw_aload_n 0 dX1_look_315 rfl rfl ?_
    refine aw_getf (v := .ref 1) fX1_9 0 rfl rfl dX1_look_316 ?_
    refine aw_iload_n 1 dX1_look_319 rfl rfl ?_
    refine aw_callV (mc1 := 0) (ms1 := 0) (mc := 0) (ms := 0) (st := [.int σ.1.1.2, .ref 0]) (q := 1) (As := [.int a1]) (vsc := [.int a1]) lX1_45 insX4_secret selX4_secret ⟨TX4, 10, rfl⟩ (by omega) (kX4_secret (d := 1) (by omega) h) [1, 11, 12, 13, 14, 15, 16, 17, 18, 19] rfl rfl rfl rfl rfl dX1_look_320 rfl rfl (fun _ _ hh => ?_)
    obtain ⟨r38, τ39, rfl, rfl, h⟩ := hh
    refine ⟨(wX1 G ((σ.1.1, τ39), σ.2)), [.int r38, .int σ.1.1.2, .ref 0], rfl, rfl, rfl, ?_⟩
    refine aw_if_eq 330 dX1_look_323 (by decide) (fun c41 => ?_) (fun c41 => ?_)
    · have h := h.1 c41
      refine aw_iconst (v := (0 : Int32)) dX1_look_330 (by decide) ?_
      refine aw_lvsub (lv' := []) [] rfl ?_
      exact aw_X1_look_331 hd  h
    · have h := h.2 c41
      refine aw_iconst (v := (1 : Int32)) dX1_look_326 (by decide) ?_
      refine aw_goto 331 dX1_look_327 (by decide) ?_
      refine aw_lvsub (lv' := []) [] rfl ?_
      exact aw_X1_look_331 hd  h
  have h := h.2 c33
  by_cases c42 : r1 = (20 : Int32)
  · refine aw_lookup 337 (off := 329) dX1_look_8 (by decide) ((lv_osw (a := 2) c3 rfl).trans ((lv_osw (a := 11) c6 rfl).trans ((lv_osw (a := 13) c9 rfl).trans ((lv_osw (a := 14) c12 rfl).trans ((lv_osw (a := 15) c15 rfl).trans ((lv_osw (a := 16) c20 rfl).trans ((lv_osw (a := 18) c33 rfl).trans (aw_swh (a := 20) c42 rfl)))))))) (by decide) ?_
    have h := h.1 c42
    refine aw_aload_n 0 dX1_look_337 rfl rfl ?_
    refine aw_dup dX1_look_338 rfl ?_
    refine aw_getf (v := .int σ.1.1.2) fX1_19 0 rfl rfl dX1_look_339 ?_
    refine aw_aload_n 0 dX1_look_342 rfl rfl ?_
    refine aw_getf (v := .ref 1) fX1_9 0 rfl rfl dX1_look_343 ?_
    refine aw_aload_n 0 dX1_look_346 rfl rfl ?_
    refine aw_getf (v := .ref 1) fX1_9 0 rfl rfl dX1_look_347 ?_
    refine aw_iload_n 1 dX1_look_350 rfl rfl ?_
    refine aw_callV (mc1 := 0) (ms1 := 0) (mc := 0) (ms := 0) (st := [.ref 1, .int σ.1.1.2, .ref 0]) (q := 1) (As := [.int a1]) (vsc := [.int a1]) lX1_53 insX4_value selX4_value ⟨TX4, 10, rfl⟩ (by omega) (kX4_value (d := 1) (by omega) h) [1, 11, 12, 13, 14, 15, 16, 17, 18, 19] rfl rfl rfl rfl rfl dX1_look_351 rfl rfl (fun _ _ hh => ?_)
    obtain ⟨r43, τ44, rfl, rfl, h⟩ := hh
    refine ⟨(wX1 G ((σ.1.1, τ44), σ.2)), [.int r43, .ref 1, .int σ.1.1.2, .ref 0], rfl, rfl, rfl, ?_⟩
    refine aw_callV (mc1 := 0) (ms1 := 0) (mc := 0) (ms := 0) (st := [.int σ.1.1.2, .ref 0]) (q := 1) (As := [.int r43]) (vsc := [.int r43]) lX1_45 insX4_secret selX4_secret ⟨TX4, 10, rfl⟩ (by omega) (kX4_secret (d := 1) (by omega) h) [1, 11, 12, 13, 14, 15, 16, 17, 18, 19] rfl rfl rfl rfl rfl dX1_look_354 rfl rfl (fun _ _ hh => ?_)
    obtain ⟨r45, τ46, rfl, rfl, h⟩ := hh
    refine ⟨(wX1 G ((σ.1.1, τ46), σ.2)), [.int r45, .int σ.1.1.2, .ref 0], rfl, rfl, rfl, ?_⟩
    refine aw_if_eq 364 dX1_look_357 (by decide) (fun c48 => ?_) (fun c48 => ?_)
    · have h := h.1 c48
      refine aw_iconst (v := (0 : Int32)) dX1_look_364 (by decide) ?_
      refine aw_lvsub (lv' := []) [] rfl ?_
      exact aw_X1_look_365 hd  h
    · have h := h.2 c48
      refine aw_iconst (v := (1 : Int32)) dX1_look_360 (by decide) ?_
      refine aw_goto 365 dX1_look_361 (by decide) ?_
      refine aw_lvsub (lv' := []) [] rfl ?_
      exact aw_X1_look_365 hd  h
  have h := h.2 c42
  by_cases c49 : r1 = (21 : Int32)
  · refine aw_lookup 236 (off := 228) dX1_look_8 (by decide) ((lv_osw (a := 2) c3 rfl).trans ((lv_osw (a := 11) c6 rfl).trans ((lv_osw (a := 13) c9 rfl).trans ((lv_osw (a := 14) c12 rfl).trans ((lv_osw (a := 15) c15 rfl).trans ((lv_osw (a := 16) c20 rfl).trans ((lv_osw (a := 18) c33 rfl).trans ((lv_osw (a := 20) c42 rfl).trans (aw_swh (a := 21) c49 rfl))))))))) (by decide) ?_
    have h := h.1 c49
    refine aw_aload_n 0 dX1_look_236 rfl rfl ?_
    refine aw_aload_n 0 dX1_look_237 rfl rfl ?_
    refine aw_getf (v := .int σ.1.1.2) fX1_19 0 rfl rfl dX1_look_238 ?_
    refine aw_if_le 248 dX1_look_241 (by decide) (fun c52 => ?_) (fun c52 => ?_)
    · have h := h.1 c52
      refine aw_iconst (v := (0 : Int32)) dX1_look_248 (by decide) ?_
      refine aw_lvsub (lv' := [(1, .int a1)]) [1] rfl ?_
      exact aw_X1_look_249 hd  h
    · have h := h.2 c52
      refine aw_iconst (v := (1 : Int32)) dX1_look_244 (by decide) ?_
      refine aw_goto 249 dX1_look_245 (by decide) ?_
      refine aw_lvsub (lv' := [(1, .int a1)]) [1] rfl ?_
      exact aw_X1_look_249 hd  h
  have h := h.2 c49
  by_cases c53 : r1 = (23 : Int32)
  · refine aw_lookup 256 (off := 248) dX1_look_8 (by decide) ((lv_osw (a := 2) c3 rfl).trans ((lv_osw (a := 11) c6 rfl).trans ((lv_osw (a := 13) c9 rfl).trans ((lv_osw (a := 14) c12 rfl).trans ((lv_osw (a := 15) c15 rfl).trans ((lv_osw (a := 16) c20 rfl).trans ((lv_osw (a := 18) c33 rfl).trans ((lv_osw (a := 20) c42 rfl).trans ((lv_osw (a := 21) c49 rfl).trans (aw_swh (a := 23) c53 rfl)))))))))) (by decide) ?_
    have h := h.1 c53
    refine aw_aload_n 0 dX1_look_256 rfl rfl ?_
    refine aw_aload_n 0 dX1_look_257 rfl rfl ?_
    refine aw_getf (v := .ref 1) fX1_9 0 rfl rfl dX1_look_258 ?_
    refine aw_iload_n 1 dX1_look_261 rfl rfl ?_
    refine aw_iconst (v := (1 : Int32)) dX1_look_262 (by decide) ?_
    refine aw_isub dX1_look_263 ?_
    refine aw_callV (mc1 := 0) (ms1 := 0) (mc := 0) (ms := 0) (st := [.ref 0]) (q := 1) (As := [.int (a1 - (1 : Int32))]) (vsc := [.int (a1 - (1 : Int32))]) lX1_45 insX4_secret selX4_secret ⟨TX4, 10, rfl⟩ (by omega) (kX4_secret (d := 1) (by omega) h) [1, 11, 12, 13, 14, 15, 16, 17, 18, 19] rfl rfl rfl rfl rfl dX1_look_264 rfl rfl (fun _ _ hh => ?_)
    obtain ⟨r54, τ55, rfl, rfl, h⟩ := hh
    refine ⟨(wX1 G ((σ.1.1, τ55), σ.2)), [.int r54, .ref 0], rfl, rfl, rfl, ?_⟩
    refine aw_bipush (v := (6 : Int32)) dX1_look_267 (by decide) ?_
    refine aw_iload_n 1 dX1_look_269 rfl rfl ?_
    refine aw_callVT (mc1 := 0) (ms1 := 0) (mc := 0) (ms := 0) (st := []) (q := 0) (As := [.int r54, .int (6 : Int32), .int a1]) lX1_49 insX1_wrongIf selX1_wrongIf ⟨TX1, 4, rfl⟩ (by omega) (kX1_wrongIf (d := 2) (by omega) h) (Nat.le_of_ble_eq_true rfl) rfl rfl rfl dX1_look_270 rfl (fun _ _ hh => ?_)
    obtain ⟨r56, τ57, rfl, rfl, h⟩ := hh
    refine aw_stk (st' := [.int r56]) rfl ?_
    exact aw_iret rfl dX1_look_273 ⟨_, τ57, rfl, rfl, h⟩
  have h := h.2 c53
  by_cases c58 : r1 = (25 : Int32)
  · refine aw_lookup 236 (off := 228) dX1_look_8 (by decide) ((lv_osw (a := 2) c3 rfl).trans ((lv_osw (a := 11) c6 rfl).trans ((lv_osw (a := 13) c9 rfl).trans ((lv_osw (a := 14) c12 rfl).trans ((lv_osw (a := 15) c15 rfl).trans ((lv_osw (a := 16) c20 rfl).trans ((lv_osw (a := 18) c33 rfl).trans ((lv_osw (a := 20) c42 rfl).trans ((lv_osw (a := 21) c49 rfl).trans ((lv_osw (a := 23) c53 rfl).trans (aw_swh (a := 25) c58 rfl))))))))))) (by decide) ?_
    have h := h.1 c58
    refine aw_aload_n 0 dX1_look_236 rfl rfl ?_
    refine aw_aload_n 0 dX1_look_237 rfl rfl ?_
    refine aw_getf (v := .int σ.1.1.2) fX1_19 0 rfl rfl dX1_look_238 ?_
    refine aw_if_le 248 dX1_look_241 (by decide) (fun c59 => ?_) (fun c59 => ?_)
    · have h := h.1 c59
      refine aw_iconst (v := (0 : Int32)) dX1_look_248 (by decide) ?_
      refine aw_lvsub (lv' := [(1, .int a1)]) [1] rfl ?_
      exact aw_X1_look_249 hd  h
    · have h := h.2 c59
      refine aw_iconst (v := (1 : Int32)) dX1_look_244 (by decide) ?_
      refine aw_goto 249 dX1_look_245 (by decide) ?_
      refine aw_lvsub (lv' := [(1, .int a1)]) [1] rfl ?_
      exact aw_X1_look_249 hd  h
  have h := h.2 c58
  by_cases c60 : r1 = (26 : Int32)
  · refine aw_lookup 274 (off := 266) dX1_look_8 (by decide) ((lv_osw (a := 2) c3 rfl).trans ((lv_osw (a := 11) c6 rfl).trans ((lv_osw (a := 13) c9 rfl).trans ((lv_osw (a := 14) c12 rfl).trans ((lv_osw (a := 15) c15 rfl).trans ((lv_osw (a := 16) c20 rfl).trans ((lv_osw (a := 18) c33 rfl).trans ((lv_osw (a := 20) c42 rfl).trans ((lv_osw (a := 21) c49 rfl).trans ((lv_osw (a := 23) c53 rfl).trans ((lv_osw (a := 25) c58 rfl).trans (aw_swh (a := 26) c60 rfl)))))))))))) (by decide) ?_
    have h := h.1 c60
    refine aw_aload_n 0 dX1_look_274 rfl rfl ?_
    refine aw_aload_n 0 dX1_look_275 rfl rfl ?_
    refine aw_getf (v := .ref 1) fX1_9 0 rfl rfl dX1_look_276 ?_
    refine aw_iload_n 1 dX1_look_279 rfl rfl ?_
    refine aw_iconst (v := (1 : Int32)) dX1_look_280 (by decide) ?_
    refine aw_isub dX1_look_281 ?_
    refine aw_callV (mc1 := 0) (ms1 := 0) (mc := 0) (ms := 0) (st := [.ref 0]) (q := 1) (As := [.int (a1 - (1 : Int32))]) (vsc := [.int (a1 - (1 : Int32))]) lX1_45 insX4_secret selX4_secret ⟨TX4, 10, rfl⟩ (by omega) (kX4_secret (d := 1) (by omega) h) [1, 11, 12, 13, 14, 15, 16, 17, 18, 19] rfl rfl rfl rfl rfl dX1_look_282 rfl rfl (fun _ _ hh => ?_)
    obtain ⟨r61, τ62, rfl, rfl, h⟩ := hh
    refine ⟨(wX1 G ((σ.1.1, τ62), σ.2)), [.int r61, .ref 0], rfl, rfl, rfl, ?_⟩
    refine aw_bipush (v := (7 : Int32)) dX1_look_285 (by decide) ?_
    refine aw_iload_n 1 dX1_look_287 rfl rfl ?_
    refine aw_callVT (mc1 := 0) (ms1 := 0) (mc := 0) (ms := 0) (st := []) (q := 0) (As := [.int r61, .int (7 : Int32), .int a1]) lX1_49 insX1_wrongIf selX1_wrongIf ⟨TX1, 4, rfl⟩ (by omega) (kX1_wrongIf (d := 2) (by omega) h) (Nat.le_of_ble_eq_true rfl) rfl rfl rfl dX1_look_288 rfl (fun _ _ hh => ?_)
    obtain ⟨r63, τ64, rfl, rfl, h⟩ := hh
    refine aw_stk (st' := [.int r63]) rfl ?_
    exact aw_iret rfl dX1_look_291 ⟨_, τ64, rfl, rfl, h⟩
  have h := h.2 c60
  by_cases c65 : r1 = (27 : Int32)
  · refine aw_lookup 377 (off := 369) dX1_look_8 (by decide) ((lv_osw (a := 2) c3 rfl).trans ((lv_osw (a := 11) c6 rfl).trans ((lv_osw (a := 13) c9 rfl).trans ((lv_osw (a := 14) c12 rfl).trans ((lv_osw (a := 15) c15 rfl).trans ((lv_osw (a := 16) c20 rfl).trans ((lv_osw (a := 18) c33 rfl).trans ((lv_osw (a := 20) c42 rfl).trans ((lv_osw (a := 21) c49 rfl).trans ((lv_osw (a := 23) c53 rfl).trans ((lv_osw (a := 25) c58 rfl).trans ((lv_osw (a := 26) c60 rfl).trans (aw_swh (a := 27) c65 rfl))))))))))))) (by decide) ?_
    have h := h.1 c65
    refine aw_aload_n 0 dX1_look_377 rfl rfl ?_
    refine aw_iload_n 1 dX1_look_378 rfl rfl ?_
    refine aw_callVT (mc1 := 0) (ms1 := 0) (mc := 0) (ms := 0) (st := []) (q := 0) (As := [.int a1]) lX1_66 insX1_lookAtRow selX1_lookAtRow ⟨TX1, 4, rfl⟩ (by omega) (kX1_lookAtRow (d := 4) (by omega) h) (Nat.le_of_ble_eq_true rfl) rfl rfl rfl dX1_look_379 rfl (fun _ _ hh => ?_)
    obtain ⟨r66, τ67, rfl, rfl, h⟩ := hh
    refine aw_stk (st' := [.int r66]) rfl ?_
    exact aw_iret rfl dX1_look_382 ⟨_, τ67, rfl, rfl, h⟩
  have h := h.2 c65
  by_cases c68 : r1 = (28 : Int32)
  · refine aw_lookup 383 (off := 375) dX1_look_8 (by decide) ((lv_osw (a := 2) c3 rfl).trans ((lv_osw (a := 11) c6 rfl).trans ((lv_osw (a := 13) c9 rfl).trans ((lv_osw (a := 14) c12 rfl).trans ((lv_osw (a := 15) c15 rfl).trans ((lv_osw (a := 16) c20 rfl).trans ((lv_osw (a := 18) c33 rfl).trans ((lv_osw (a := 20) c42 rfl).trans ((lv_osw (a := 21) c49 rfl).trans ((lv_osw (a := 23) c53 rfl).trans ((lv_osw (a := 25) c58 rfl).trans ((lv_osw (a := 26) c60 rfl).trans ((lv_osw (a := 27) c65 rfl).trans (aw_swh (a := 28) c68 rfl)))))))))))))) (by decide) ?_
    have h := h.1 c68
    refine aw_aload_n 0 dX1_look_383 rfl rfl ?_
    refine aw_iload_n 1 dX1_look_384 rfl rfl ?_
    refine aw_callVT (mc1 := 0) (ms1 := 0) (mc := 0) (ms := 0) (st := []) (q := 0) (As := [.int a1]) lX1_69 insX1_lookAtItem selX1_lookAtItem ⟨TX1, 4, rfl⟩ (by omega) (kX1_lookAtItem (d := 3) (by omega) h) (Nat.le_of_ble_eq_true rfl) rfl rfl rfl dX1_look_385 rfl (fun _ _ hh => ?_)
    obtain ⟨r69, τ70, rfl, rfl, h⟩ := hh
    refine aw_stk (st' := [.int r69]) rfl ?_
    exact aw_iret rfl dX1_look_388 ⟨_, τ70, rfl, rfl, h⟩
  have h := h.2 c68
  by_cases c71 : r1 = (29 : Int32)
  · refine aw_lookup 389 (off := 381) dX1_look_8 (by decide) ((lv_osw (a := 2) c3 rfl).trans ((lv_osw (a := 11) c6 rfl).trans ((lv_osw (a := 13) c9 rfl).trans ((lv_osw (a := 14) c12 rfl).trans ((lv_osw (a := 15) c15 rfl).trans ((lv_osw (a := 16) c20 rfl).trans ((lv_osw (a := 18) c33 rfl).trans ((lv_osw (a := 20) c42 rfl).trans ((lv_osw (a := 21) c49 rfl).trans ((lv_osw (a := 23) c53 rfl).trans ((lv_osw (a := 25) c58 rfl).trans ((lv_osw (a := 26) c60 rfl).trans ((lv_osw (a := 27) c65 rfl).trans ((lv_osw (a := 28) c68 rfl).trans (aw_swh (a := 29) c71 rfl))))))))))))))) (by decide) ?_
    have h := h.1 c71
    refine aw_aload_n 0 dX1_look_389 rfl rfl ?_
    refine aw_getf (v := .ref 1) fX1_9 0 rfl rfl dX1_look_390 ?_
    refine aw_iload_n 1 dX1_look_393 rfl rfl ?_
    refine aw_aload_n 0 dX1_look_394 rfl rfl ?_
    refine aw_getf (v := .ref 1) fX1_9 0 rfl rfl dX1_look_395 ?_
    refine aw_iload_n 1 dX1_look_398 rfl rfl ?_
    refine aw_iconst (v := (1 : Int32)) dX1_look_399 (by decide) ?_
    refine aw_isub dX1_look_400 ?_
    refine aw_callV (mc1 := 0) (ms1 := 0) (mc := 0) (ms := 0) (st := [.int a1, .ref 1]) (q := 1) (As := [.int (a1 - (1 : Int32))]) (vsc := [.int (a1 - (1 : Int32))]) lX1_45 insX4_secret selX4_secret ⟨TX4, 10, rfl⟩ (by omega) (kX4_secret (d := 1) (by omega) h) [1, 11, 12, 13, 14, 15, 16, 17, 18, 19] rfl rfl rfl rfl rfl dX1_look_401 rfl rfl (fun _ _ hh => ?_)
    obtain ⟨r72, τ73, rfl, rfl, h⟩ := hh
    refine ⟨(wX1 G ((σ.1.1, τ73), σ.2)), [.int r72, .int a1, .ref 1], rfl, rfl, rfl, ?_⟩
    refine aw_callV (mc1 := 0) (ms1 := 0) (mc := 0) (ms := 0) (st := []) (q := 1) (As := [.int a1, .int r72]) (vsc := [.int a1, .int r72]) lX1_59 insX4_keepSecret selX4_keepSecret ⟨TX4, 10, rfl⟩ (by omega) (kX4_keepSecret (d := 1) (by omega) h) [1, 11, 12, 13, 14, 15, 16, 17, 18, 19] rfl rfl rfl rfl rfl dX1_look_404 rfl rfl (fun _ _ hh => ?_)
    obtain ⟨τ75, rfl, rfl, h⟩ := hh
    refine ⟨(wX1 G ((σ.1.1, τ75), σ.2)), [], rfl, rfl, rfl, ?_⟩
    refine aw_iconst (v := (0 : Int32)) dX1_look_407 (by decide) ?_
    exact aw_iret rfl dX1_look_408 ⟨_, ((σ.1.1, τ75), σ.2), rfl, rfl, h⟩
  have h := h.2 c71
  by_cases c76 : r1 = (33 : Int32)
  · refine aw_lookup 389 (off := 381) dX1_look_8 (by decide) ((lv_osw (a := 2) c3 rfl).trans ((lv_osw (a := 11) c6 rfl).trans ((lv_osw (a := 13) c9 rfl).trans ((lv_osw (a := 14) c12 rfl).trans ((lv_osw (a := 15) c15 rfl).trans ((lv_osw (a := 16) c20 rfl).trans ((lv_osw (a := 18) c33 rfl).trans ((lv_osw (a := 20) c42 rfl).trans ((lv_osw (a := 21) c49 rfl).trans ((lv_osw (a := 23) c53 rfl).trans ((lv_osw (a := 25) c58 rfl).trans ((lv_osw (a := 26) c60 rfl).trans ((lv_osw (a := 27) c65 rfl).trans ((lv_osw (a := 28) c68 rfl).trans ((lv_osw (a := 29) c71 rfl).trans (aw_swh (a := 33) c76 rfl)))))))))))))))) (by decide) ?_
    have h := h.1 c76
    refine aw_aload_n 0 dX1_look_389 rfl rfl ?_
    refine aw_getf (v := .ref 1) fX1_9 0 rfl rfl dX1_look_390 ?_
    refine aw_iload_n 1 dX1_look_393 rfl rfl ?_
    refine aw_aload_n 0 dX1_look_394 rfl rfl ?_
    refine aw_getf (v := .ref 1) fX1_9 0 rfl rfl dX1_look_395 ?_
    refine aw_iload_n 1 dX1_look_398 rfl rfl ?_
    refine aw_iconst (v := (1 : Int32)) dX1_look_399 (by decide) ?_
    refine aw_isub dX1_look_400 ?_
    refine aw_callV (mc1 := 0) (ms1 := 0) (mc := 0) (ms := 0) (st := [.int a1, .ref 1]) (q := 1) (As := [.int (a1 - (1 : Int32))]) (vsc := [.int (a1 - (1 : Int32))]) lX1_45 insX4_secret selX4_secret ⟨TX4, 10, rfl⟩ (by omega) (kX4_secret (d := 1) (by omega) h) [1, 11, 12, 13, 14, 15, 16, 17, 18, 19] rfl rfl rfl rfl rfl dX1_look_401 rfl rfl (fun _ _ hh => ?_)
    obtain ⟨r77, τ78, rfl, rfl, h⟩ := hh
    refine ⟨(wX1 G ((σ.1.1, τ78), σ.2)), [.int r77, .int a1, .ref 1], rfl, rfl, rfl, ?_⟩
    refine aw_callV (mc1 := 0) (ms1 := 0) (mc := 0) (ms := 0) (st := []) (q := 1) (As := [.int a1, .int r77]) (vsc := [.int a1, .int r77]) lX1_59 insX4_keepSecret selX4_keepSecret ⟨TX4, 10, rfl⟩ (by omega) (kX4_keepSecret (d := 1) (by omega) h) [1, 11, 12, 13, 14, 15, 16, 17, 18, 19] rfl rfl rfl rfl rfl dX1_look_404 rfl rfl (fun _ _ hh => ?_)
    obtain ⟨τ80, rfl, rfl, h⟩ := hh
    refine ⟨(wX1 G ((σ.1.1, τ80), σ.2)), [], rfl, rfl, rfl, ?_⟩
    refine aw_iconst (v := (0 : Int32)) dX1_look_407 (by decide) ?_
    exact aw_iret rfl dX1_look_408 ⟨_, ((σ.1.1, τ80), σ.2), rfl, rfl, h⟩
  have h := h.2 c76
  by_cases c81 : r1 = (126 : Int32)
  · refine aw_lookup 389 (off := 381) dX1_look_8 (by decide) ((lv_osw (a := 2) c3 rfl).trans ((lv_osw (a := 11) c6 rfl).trans ((lv_osw (a := 13) c9 rfl).trans ((lv_osw (a := 14) c12 rfl).trans ((lv_osw (a := 15) c15 rfl).trans ((lv_osw (a := 16) c20 rfl).trans ((lv_osw (a := 18) c33 rfl).trans ((lv_osw (a := 20) c42 rfl).trans ((lv_osw (a := 21) c49 rfl).trans ((lv_osw (a := 23) c53 rfl).trans ((lv_osw (a := 25) c58 rfl).trans ((lv_osw (a := 26) c60 rfl).trans ((lv_osw (a := 27) c65 rfl).trans ((lv_osw (a := 28) c68 rfl).trans ((lv_osw (a := 29) c71 rfl).trans ((lv_osw (a := 33) c76 rfl).trans (aw_swh (a := 126) c81 rfl))))))))))))))))) (by decide) ?_
    have h := h.1 c81
    refine aw_aload_n 0 dX1_look_389 rfl rfl ?_
    refine aw_getf (v := .ref 1) fX1_9 0 rfl rfl dX1_look_390 ?_
    refine aw_iload_n 1 dX1_look_393 rfl rfl ?_
    refine aw_aload_n 0 dX1_look_394 rfl rfl ?_
    refine aw_getf (v := .ref 1) fX1_9 0 rfl rfl dX1_look_395 ?_
    refine aw_iload_n 1 dX1_look_398 rfl rfl ?_
    refine aw_iconst (v := (1 : Int32)) dX1_look_399 (by decide) ?_
    refine aw_isub dX1_look_400 ?_
    refine aw_callV (mc1 := 0) (ms1 := 0) (mc := 0) (ms := 0) (st := [.int a1, .ref 1]) (q := 1) (As := [.int (a1 - (1 : Int32))]) (vsc := [.int (a1 - (1 : Int32))]) lX1_45 insX4_secret selX4_secret ⟨TX4, 10, rfl⟩ (by omega) (kX4_secret (d := 1) (by omega) h) [1, 11, 12, 13, 14, 15, 16, 17, 18, 19] rfl rfl rfl rfl rfl dX1_look_401 rfl rfl (fun _ _ hh => ?_)
    obtain ⟨r82, τ83, rfl, rfl, h⟩ := hh
    refine ⟨(wX1 G ((σ.1.1, τ83), σ.2)), [.int r82, .int a1, .ref 1], rfl, rfl, rfl, ?_⟩
    refine aw_callV (mc1 := 0) (ms1 := 0) (mc := 0) (ms := 0) (st := []) (q := 1) (As := [.int a1, .int r82]) (vsc := [.int a1, .int r82]) lX1_59 insX4_keepSecret selX4_keepSecret ⟨TX4, 10, rfl⟩ (by omega) (kX4_keepSecret (d := 1) (by omega) h) [1, 11, 12, 13, 14, 15, 16, 17, 18, 19] rfl rfl rfl rfl rfl dX1_look_404 rfl rfl (fun _ _ hh => ?_)
    obtain ⟨τ85, rfl, rfl, h⟩ := hh
    refine ⟨(wX1 G ((σ.1.1, τ85), σ.2)), [], rfl, rfl, rfl, ?_⟩
    refine aw_iconst (v := (0 : Int32)) dX1_look_407 (by decide) ?_
    exact aw_iret rfl dX1_look_408 ⟨_, ((σ.1.1, τ85), σ.2), rfl, rfl, h⟩
  have h := h.2 c81
  refine aw_lookup 409 (off := 401) dX1_look_8 (by decide) ((lv_osw (a := 2) c3 rfl).trans ((lv_osw (a := 11) c6 rfl).trans ((lv_osw (a := 13) c9 rfl).trans ((lv_osw (a := 14) c12 rfl).trans ((lv_osw (a := 15) c15 rfl).trans ((lv_osw (a := 16) c20 rfl).trans ((lv_osw (a := 18) c33 rfl).trans ((lv_osw (a := 20) c42 rfl).trans ((lv_osw (a := 21) c49 rfl).trans ((lv_osw (a := 23) c53 rfl).trans ((lv_osw (a := 25) c58 rfl).trans ((lv_osw (a := 26) c60 rfl).trans ((lv_osw (a := 27) c65 rfl).trans ((lv_osw (a := 28) c68 rfl).trans ((lv_osw (a := 29) c71 rfl).trans ((lv_osw (a := 33) c76 rfl).trans ((lv_osw (a := 126) c81 rfl).trans rfl))))))))))))))))) (by decide) ?_
  refine aw_aload_n 0 dX1_look_409 rfl rfl ?_
  refine aw_getf (v := .ref 1) fX1_9 0 rfl rfl dX1_look_410 ?_
  refine aw_iload_n 1 dX1_look_413 rfl rfl ?_
  refine aw_callV (mc1 := 0) (ms1 := 0) (mc := 0) (ms := 0) (st := []) (q := 1) (As := [.int a1]) (vsc := [.int a1]) lX1_36 insX4_kind selX4_kind ⟨TX4, 10, rfl⟩ (by omega) (kX4_kind (d := 1) (by omega) h) [1, 11, 12, 13, 14, 15, 16, 17, 18, 19] rfl rfl rfl rfl rfl dX1_look_414 rfl rfl (fun _ _ hh => ?_)
  obtain ⟨r86, τ87, rfl, rfl, h⟩ := hh
  refine ⟨(wX1 G ((σ.1.1, τ87), σ.2)), [.int r86], rfl, rfl, rfl, ?_⟩
  refine aw_callST (st := []) (As := [.int r86]) lX1_72 sttX4_level (by omega) (kX4_level (d := 0) (by omega) h) rfl rfl rfl dX1_look_417 rfl (fun _ _ hh => ?_)
  obtain ⟨r88, τ89, rfl, rfl, h⟩ := hh
  refine ⟨rfl, (fun x hx => by cases hx; rfl), ?_⟩
  refine aw_stk (st' := [.int r88]) rfl ?_
  refine aw_iconst (v := ((-1) : Int32)) dX1_look_420 (by decide) ?_
  refine aw_icmp_ne 428 dX1_look_421 (by decide) (fun c92 => ?_) (fun c92 => ?_)
  · have h := h.1 c92
    refine aw_aload_n 0 dX1_look_428 rfl rfl ?_
    refine aw_iload_n 1 dX1_look_429 rfl rfl ?_
    refine aw_callVT (mc1 := 0) (ms1 := 0) (mc := 0) (ms := 0) (st := []) (q := 0) (As := [.int a1]) lX1_75 insX1_lookAtPair selX1_lookAtPair ⟨TX1, 4, rfl⟩ (by omega) (kX1_lookAtPair (d := 3) (by omega) h) (Nat.le_of_ble_eq_true rfl) rfl rfl rfl dX1_look_430 rfl (fun _ _ hh => ?_)
    obtain ⟨r90, τ91, rfl, rfl, h⟩ := hh
    refine aw_stk (st' := [.int r90]) rfl ?_
    exact aw_iret rfl dX1_look_433 ⟨_, τ91, rfl, rfl, h⟩
  · have h := h.2 c92
    refine aw_iconst (v := (0 : Int32)) dX1_look_424 (by decide) ?_
    refine aw_goto 433 dX1_look_425 (by decide) ?_
    exact aw_iret rfl dX1_look_433 ⟨_, ((σ.1.1, τ87), σ.2), rfl, rfl, h⟩
def wb_X1_firstWrong_12  (post : Int32 → WSX1 → Prop) (rec_12 : WSX1 × Int32 → Prop) (σ : WSX1) (x1 : Int32) : Prop :=
  wp_X4_size σ.1.2  (fun r1 τ2 => ((r1 ≤ x1 → post (0 : Int32) ((σ.1.1, τ2), σ.2)) ∧ (¬ r1 ≤ x1 → wp_X1_look ((σ.1.1, τ2), σ.2) x1 (fun r3 τ4 => ((r3 = 0 → rec_12 (τ4, (x1 + 1))) ∧ (¬ r3 = 0 → post r3 τ4))))))
def wp_X1_firstWrong_12  (post : Int32 → WSX1 → Prop) (n : Nat) (σ : WSX1) (x1 : Int32) : Prop := aw_loop (fun r (a : WSX1 × Int32) => wb_X1_firstWrong_12  post r a.1 a.2) n (σ, x1)
theorem aw_X1_firstWrong_12 {G : aw_G} {d : Nat} (hd : 6 ≤ d) {post : Int32 → WSX1 → Prop}  : ∀ (n : Nat) (σ : WSX1) (x1 : Int32), wp_X1_firstWrong_12  post n σ x1 → AW G MX1_firstWrong d 0 0 20 (aw_pi (wX1 G) post) 12 [(0, .ref 0), (1, .int x1)] [] (wX1 G σ) := by
  intro n
  induction n with
  | zero => intro σ x1 h; exact h.elim
  | succ n ih =>
    intro σ x1 h
    have hrec_12 : ∀ a : WSX1 × Int32, aw_loop (fun r (a : WSX1 × Int32) => wb_X1_firstWrong_12  post r a.1 a.2) n a → AW G MX1_firstWrong d 0 0 20 (aw_pi (wX1 G) post) 12 [(0, .ref 0), (1, .int a.2)] [] (wX1 G a.1) := fun a h => ih a.1 a.2 h
    have h : wb_X1_firstWrong_12  post (aw_loop (fun r (a : WSX1 × Int32) => wb_X1_firstWrong_12  post r a.1 a.2) n) σ x1 := h
    unfold wb_X1_firstWrong_12 at h
    refine aw_iload_n 1 dX1_firstWrong_12 rfl rfl ?_
    refine aw_aload_n 0 dX1_firstWrong_13 rfl rfl ?_
    refine aw_getf (v := .ref 1) fX1_9 0 rfl rfl dX1_firstWrong_14 ?_
    refine aw_callV (mc1 := 0) (ms1 := 0) (mc := 0) (ms := 0) (st := [.int x1]) (q := 1) (As := []) (vsc := []) lX1_26 insX4_size selX4_size ⟨TX4, 10, rfl⟩ (by omega) (kX4_size (d := 0) (by omega) h) [1, 11, 12, 13, 14, 15, 16, 17, 18, 19] rfl rfl rfl rfl rfl dX1_firstWrong_17 rfl rfl (fun _ _ hh => ?_)
    obtain ⟨r1, τ2, rfl, rfl, h⟩ := hh
    refine ⟨(wX1 G ((σ.1.1, τ2), σ.2)), [.int r1, .int x1], rfl, rfl, rfl, ?_⟩
    refine aw_icmp_ge 41 dX1_firstWrong_20 (by decide) (fun c6 => ?_) (fun c6 => ?_)
    · have h := h.1 c6
      refine aw_iconst (v := (0 : Int32)) dX1_firstWrong_41 (by decide) ?_
      exact aw_iret rfl dX1_firstWrong_42 ⟨_, ((σ.1.1, τ2), σ.2), rfl, rfl, h⟩
    · have h := h.2 c6
      refine aw_aload_n 0 dX1_firstWrong_23 rfl rfl ?_
      refine aw_iload_n 1 dX1_firstWrong_24 rfl rfl ?_
      refine aw_callVT (mc1 := 0) (ms1 := 0) (mc := 0) (ms := 0) (st := []) (q := 0) (As := [.int x1]) lX1_32 insX1_look selX1_look ⟨TX1, 4, rfl⟩ (by omega) (kX1_look (d := 5) (by omega) h) (Nat.le_of_ble_eq_true rfl) rfl rfl rfl dX1_firstWrong_25 rfl (fun _ _ hh => ?_)
      obtain ⟨r3, τ4, rfl, rfl, h⟩ := hh
      refine aw_stk (st' := [.int r3]) rfl ?_
      refine aw_istore_n (lv' := [(2, .int r3), (0, .ref 0), (1, .int x1)]) dX1_firstWrong_28 rfl (by decide) rfl ?_
      refine aw_iload_n 0 dX1_firstWrong_29 rfl rfl ?_
      refine aw_if_eq 35 dX1_firstWrong_30 (by decide) (fun c5 => ?_) (fun c5 => ?_)
      · have h := h.1 c5
        refine aw_iinc 2 (v := (x1 + 1)) (lv' := [(1, .int (x1 + 1)), (2, .int r3), (0, .ref 0)]) dX1_firstWrong_35 rfl rfl (by decide) rfl ?_
        refine aw_goto 12 dX1_firstWrong_38 (by decide) ?_
        refine aw_lvsub (lv' := [(0, .ref 0), (1, .int (x1 + 1))]) [2, 0] rfl ?_
        exact hrec_12 (τ4, (x1 + 1)) h
      · have h := h.2 c5
        refine aw_iload_n 0 dX1_firstWrong_33 rfl rfl ?_
        exact aw_iret rfl dX1_firstWrong_34 ⟨_, τ4, rfl, rfl, h⟩
def wp_X1_firstWrong (σ : WSX1) (post : Int32 → WSX1 → Prop) : Prop :=
  (∃ n7, wp_X1_firstWrong_12  post n7 (((((-1) : Int32), (0 : Int32)), σ.1.2), σ.2) (0 : Int32))
theorem kX1_firstWrong {G : aw_G} {d : Nat} (hd : 6 ≤ d) {σ : WSX1} {post : Int32 → WSX1 → Prop} (h : wp_X1_firstWrong σ post) : AC G MX1_firstWrong d 0 0 20 [.ref 0] (wX1 G σ) (aw_pi (wX1 G) post) := by
  refine AC.of (lv := [(0, .ref 0)]) (by decide) (Nat.le_of_ble_eq_true rfl) rfl ?_
  unfold wp_X1_firstWrong at h
  refine aw_aload_n 0 dX1_firstWrong_0 rfl rfl ?_
  refine aw_iconst (v := (0 : Int32)) dX1_firstWrong_1 (by decide) ?_
  refine aw_putf fX1_19 0 (w' := (wX1 G (((σ.1.1.1, (0 : Int32)), σ.1.2), σ.2))) rfl (fun _ => ⟨rfl, rfl⟩) (Nat.le_of_ble_eq_true rfl) rfl dX1_firstWrong_2 ?_
  refine aw_aload_n 0 dX1_firstWrong_5 rfl rfl ?_
  refine aw_iconst (v := ((-1) : Int32)) dX1_firstWrong_6 (by decide) ?_
  refine aw_putf fX1_23 0 (w' := (wX1 G (((((-1) : Int32), (0 : Int32)), σ.1.2), σ.2))) rfl (fun _ => ⟨rfl, rfl⟩) (Nat.le_of_ble_eq_true rfl) rfl dX1_firstWrong_7 ?_
  refine aw_iconst (v := (0 : Int32)) dX1_firstWrong_10 (by decide) ?_
  refine aw_istore_n (lv' := [(1, .int (0 : Int32)), (0, .ref 0)]) dX1_firstWrong_11 rfl (by decide) rfl ?_
  refine aw_lvsub (lv' := [(0, .ref 0), (1, .int (0 : Int32))]) [1, 0] rfl ?_
  obtain ⟨n7, h⟩ := h
  exact aw_X1_firstWrong_12 hd  n7 (((((-1) : Int32), (0 : Int32)), σ.1.2), σ.2) (0 : Int32) h
def wp_X1_wrongPlace (σ : WSX1) (post : Int32 → WSX1 → Prop) : Prop :=
  post σ.1.1.1 σ
theorem kX1_wrongPlace {G : aw_G} {d : Nat} (hd : 0 ≤ d) {σ : WSX1} {post : Int32 → WSX1 → Prop} (h : wp_X1_wrongPlace σ post) : AC G MX1_wrongPlace d 0 0 20 [.ref 0] (wX1 G σ) (aw_pi (wX1 G) post) := by
  refine AC.of (lv := [(0, .ref 0)]) (by decide) (Nat.le_of_ble_eq_true rfl) rfl ?_
  unfold wp_X1_wrongPlace at h
  refine aw_aload_n 0 dX1_wrongPlace_0 rfl rfl ?_
  refine aw_getf (v := .int σ.1.1.1) fX1_23 0 rfl rfl dX1_wrongPlace_1 ?_
  exact aw_iret rfl dX1_wrongPlace_4 ⟨_, σ, rfl, rfl, h⟩
end WalkX1
