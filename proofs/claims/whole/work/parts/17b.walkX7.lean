section WalkX7
def wp_X7_atLevel (σ : WSX7) (post : Int32 → WSX7 → Prop) : Prop :=
  wp_X9_kind (σ.1.2, σ.2.1)  (fun r1 τ2 => ((r1 = (4 : Int32) → post (1 : Int32) ((σ.1.1, τ2.1), (τ2.2, σ.2.2))) ∧ (¬ r1 = (4 : Int32) → wp_X9_kind τ2  (fun r3 τ4 => ((¬ r3 = (5 : Int32) → post (0 : Int32) ((σ.1.1, τ4.1), (τ4.2, σ.2.2))) ∧ (r3 = (5 : Int32) → post (1 : Int32) ((σ.1.1, τ4.1), (τ4.2, σ.2.2))))))))
theorem kX7_atLevel {G : aw_G} {d : Nat} (hd : 1 ≤ d) {σ : WSX7} {post : Int32 → WSX7 → Prop} (h : wp_X7_atLevel σ post) : AC G MX7_atLevel d 0 0 17 [.ref 0] (wX7 G σ) (aw_pi (wX7 G) post) := by
  refine AC.of (lv := [(0, .ref 0)]) (by decide) (Nat.le_of_ble_eq_true rfl) rfl ?_
  unfold wp_X7_atLevel at h
  refine aw_aload_n 0 dX7_atLevel_0 rfl rfl ?_
  refine aw_getf (v := .ref 1) fX7_9 0 rfl rfl dX7_atLevel_1 ?_
  refine aw_callV (mc1 := 0) (ms1 := 0) (mc := 0) (ms := 0) (st := []) (q := 1) (As := []) (vsc := []) lX7_42 insX9_kind selX9_kind ⟨TX9, 9, rfl⟩ (by omega) (kX9_kind (d := 0) (by omega) h) [1, 2, 3, 5, 6, 7] rfl rfl rfl rfl rfl dX7_atLevel_4 rfl rfl (fun _ _ hh => ?_)
  obtain ⟨r1, τ2, rfl, rfl, h⟩ := hh
  refine ⟨(wX7 G ((σ.1.1, τ2.1), (τ2.2, σ.2.2))), [.int r1], rfl, rfl, rfl, ?_⟩
  refine aw_iconst (v := (4 : Int32)) dX7_atLevel_7 (by decide) ?_
  refine aw_icmp_eq 22 dX7_atLevel_8 (by decide) (fun c6 => ?_) (fun c6 => ?_)
  · have h := h.1 c6
    refine aw_iconst (v := (1 : Int32)) dX7_atLevel_22 (by decide) ?_
    refine aw_goto 27 dX7_atLevel_23 (by decide) ?_
    exact aw_zret rfl rfl dX7_atLevel_27 ⟨_, ((σ.1.1, τ2.1), (τ2.2, σ.2.2)), rfl, rfl, h⟩
  · have h := h.2 c6
    refine aw_aload_n 0 dX7_atLevel_11 rfl rfl ?_
    refine aw_getf (v := .ref 1) fX7_9 0 rfl rfl dX7_atLevel_12 ?_
    refine aw_callV (mc1 := 0) (ms1 := 0) (mc := 0) (ms := 0) (st := []) (q := 1) (As := []) (vsc := []) lX7_42 insX9_kind selX9_kind ⟨TX9, 9, rfl⟩ (by omega) (kX9_kind (d := 0) (by omega) h) [1, 2, 3, 5, 6, 7] rfl rfl rfl rfl rfl dX7_atLevel_15 rfl rfl (fun _ _ hh => ?_)
    obtain ⟨r3, τ4, rfl, rfl, h⟩ := hh
    refine ⟨(wX7 G ((σ.1.1, τ4.1), (τ4.2, σ.2.2))), [.int r3], rfl, rfl, rfl, ?_⟩
    refine aw_iconst (v := (5 : Int32)) dX7_atLevel_18 (by decide) ?_
    refine aw_icmp_ne 26 dX7_atLevel_19 (by decide) (fun c5 => ?_) (fun c5 => ?_)
    · have h := h.1 c5
      refine aw_iconst (v := (0 : Int32)) dX7_atLevel_26 (by decide) ?_
      exact aw_zret rfl rfl dX7_atLevel_27 ⟨_, ((σ.1.1, τ4.1), (τ4.2, σ.2.2)), rfl, rfl, h⟩
    · have h := h.2 c5
      refine aw_iconst (v := (1 : Int32)) dX7_atLevel_22 (by decide) ?_
      refine aw_goto 27 dX7_atLevel_23 (by decide) ?_
      exact aw_zret rfl rfl dX7_atLevel_27 ⟨_, ((σ.1.1, τ4.1), (τ4.2, σ.2.2)), rfl, rfl, h⟩
def wp_X7_fail (σ : WSX7) (post : WSX7 → Prop) : Prop :=
  ((¬ σ.1.1 = ((-1) : Int32) → post σ) ∧ (σ.1.1 = ((-1) : Int32) → wp_X9_place (σ.1.2, σ.2.1)  (fun r1 τ2 => post ((r1, τ2.1), (τ2.2, σ.2.2)))))
theorem kX7_fail {G : aw_G} {d : Nat} (hd : 1 ≤ d) {σ : WSX7} {post : WSX7 → Prop} (h : wp_X7_fail σ post) : AC G MX7_fail d 0 0 17 [.ref 0] (wX7 G σ) (aw_pv (wX7 G) post) := by
  refine AC.of (lv := [(0, .ref 0)]) (by decide) (Nat.le_of_ble_eq_true rfl) rfl ?_
  unfold wp_X7_fail at h
  refine aw_aload_n 0 dX7_fail_0 rfl rfl ?_
  refine aw_getf (v := .int σ.1.1) fX7_19 0 rfl rfl dX7_fail_1 ?_
  refine aw_iconst (v := ((-1) : Int32)) dX7_fail_4 (by decide) ?_
  refine aw_icmp_ne 19 dX7_fail_5 (by decide) (fun c3 => ?_) (fun c3 => ?_)
  · have h := h.1 c3
    exact aw_vret rfl dX7_fail_19 ⟨σ, rfl, rfl, h⟩
  · have h := h.2 c3
    refine aw_aload_n 0 dX7_fail_8 rfl rfl ?_
    refine aw_aload_n 0 dX7_fail_9 rfl rfl ?_
    refine aw_getf (v := .ref 1) fX7_9 0 rfl rfl dX7_fail_10 ?_
    refine aw_callV (mc1 := 0) (ms1 := 0) (mc := 0) (ms := 0) (st := [.ref 0]) (q := 1) (As := []) (vsc := []) lX7_46 insX9_place selX9_place ⟨TX9, 9, rfl⟩ (by omega) (kX9_place (d := 0) (by omega) h) [1, 2, 3, 5, 6, 7] rfl rfl rfl rfl rfl dX7_fail_13 rfl rfl (fun _ _ hh => ?_)
    obtain ⟨r1, τ2, rfl, rfl, h⟩ := hh
    refine ⟨(wX7 G ((σ.1.1, τ2.1), (τ2.2, σ.2.2))), [.int r1, .ref 0], rfl, rfl, rfl, ?_⟩
    refine aw_putf fX7_19 0 (w' := (wX7 G ((r1, τ2.1), (τ2.2, σ.2.2)))) rfl (fun _ => ⟨rfl, rfl⟩) (Nat.le_of_ble_eq_true rfl) rfl dX7_fail_16 ?_
    exact aw_vret rfl dX7_fail_19 ⟨((r1, τ2.1), (τ2.2, σ.2.2)), rfl, rfl, h⟩
def wp_X7_take_28  (post : Int32 → WSX7 → Prop) (σ : WSX7) : Prop :=
  wp_X7_fail σ  (fun τ2 => post (0 : Int32) τ2)
theorem aw_X7_take_28 {G : aw_G} {d : Nat} (hd : 2 ≤ d) {post : Int32 → WSX7 → Prop}  {σ : WSX7} (h : wp_X7_take_28  post σ) : AW G MX7_take d 0 0 17 (aw_pi (wX7 G) post) 28 [(0, .ref 0)] [] (wX7 G σ) := by
  unfold wp_X7_take_28 at h
  refine aw_aload_n 0 dX7_take_28 rfl rfl ?_
  refine aw_callVT (mc1 := 0) (ms1 := 0) (mc := 0) (ms := 0) (st := []) (q := 0) (As := []) lX7_52 insX7_fail selX7_fail ⟨TX7, 3, rfl⟩ (by omega) (kX7_fail (d := 1) (by omega) h) (Nat.le_of_ble_eq_true rfl) rfl rfl rfl dX7_take_29 rfl (fun _ _ hh => ?_)
  obtain ⟨τ2, rfl, rfl, h⟩ := hh
  refine aw_stk (st' := []) rfl ?_
  refine aw_iconst (v := (0 : Int32)) dX7_take_32 (by decide) ?_
  exact aw_zret rfl rfl dX7_take_33 ⟨_, τ2, rfl, rfl, h⟩
def wp_X7_take (σ : WSX7) (a1 : Int32) (post : Int32 → WSX7 → Prop) : Prop :=
  ((¬ σ.1.1 = ((-1) : Int32) → wp_X7_take_28  post σ) ∧ (σ.1.1 = ((-1) : Int32) → wp_X9_kind (σ.1.2, σ.2.1)  (fun r3 τ4 => ((¬ r3 = a1 → wp_X7_take_28  post ((σ.1.1, τ4.1), (τ4.2, σ.2.2))) ∧ (r3 = a1 → wp_X9_next τ4  (fun τ6 => post (1 : Int32) ((σ.1.1, τ6.1), (τ6.2, σ.2.2))))))))
theorem kX7_take {G : aw_G} {d : Nat} (hd : 2 ≤ d) {σ : WSX7} {a1 : Int32} {post : Int32 → WSX7 → Prop} (h : wp_X7_take σ a1 post) : AC G MX7_take d 0 0 17 [.ref 0, .int a1] (wX7 G σ) (aw_pi (wX7 G) post) := by
  refine AC.of (lv := [(0, .ref 0), (1, .int a1)]) (by decide) (Nat.le_of_ble_eq_true rfl) rfl ?_
  unfold wp_X7_take at h
  refine aw_aload_n 0 dX7_take_0 rfl rfl ?_
  refine aw_getf (v := .int σ.1.1) fX7_19 0 rfl rfl dX7_take_1 ?_
  refine aw_iconst (v := ((-1) : Int32)) dX7_take_4 (by decide) ?_
  refine aw_icmp_ne 28 dX7_take_5 (by decide) (fun c8 => ?_) (fun c8 => ?_)
  · have h := h.1 c8
    refine aw_lvsub (lv' := [(0, .ref 0)]) [0] rfl ?_
    exact aw_X7_take_28 hd  h
  · have h := h.2 c8
    refine aw_aload_n 0 dX7_take_8 rfl rfl ?_
    refine aw_getf (v := .ref 1) fX7_9 0 rfl rfl dX7_take_9 ?_
    refine aw_callV (mc1 := 0) (ms1 := 0) (mc := 0) (ms := 0) (st := []) (q := 1) (As := []) (vsc := []) lX7_42 insX9_kind selX9_kind ⟨TX9, 9, rfl⟩ (by omega) (kX9_kind (d := 0) (by omega) h) [1, 2, 3, 5, 6, 7] rfl rfl rfl rfl rfl dX7_take_12 rfl rfl (fun _ _ hh => ?_)
    obtain ⟨r3, τ4, rfl, rfl, h⟩ := hh
    refine ⟨(wX7 G ((σ.1.1, τ4.1), (τ4.2, σ.2.2))), [.int r3], rfl, rfl, rfl, ?_⟩
    refine aw_iload_n 1 dX7_take_15 rfl rfl ?_
    refine aw_icmp_ne 28 dX7_take_16 (by decide) (fun c7 => ?_) (fun c7 => ?_)
    · have h := h.1 c7
      refine aw_lvsub (lv' := [(0, .ref 0)]) [0] rfl ?_
      exact aw_X7_take_28 hd  h
    · have h := h.2 c7
      refine aw_aload_n 0 dX7_take_19 rfl rfl ?_
      refine aw_getf (v := .ref 1) fX7_9 0 rfl rfl dX7_take_20 ?_
      refine aw_callV (mc1 := 0) (ms1 := 0) (mc := 0) (ms := 0) (st := []) (q := 1) (As := []) (vsc := []) lX7_49 insX9_next selX9_next ⟨TX9, 9, rfl⟩ (by omega) (kX9_next (d := 1) (by omega) h) [1, 2, 3, 5, 6, 7] rfl rfl rfl rfl rfl dX7_take_23 rfl rfl (fun _ _ hh => ?_)
      obtain ⟨τ6, rfl, rfl, h⟩ := hh
      refine ⟨(wX7 G ((σ.1.1, τ6.1), (τ6.2, σ.2.2))), [], rfl, rfl, rfl, ?_⟩
      refine aw_iconst (v := (1 : Int32)) dX7_take_26 (by decide) ?_
      exact aw_zret rfl rfl dX7_take_27 ⟨_, ((σ.1.1, τ6.1), (τ6.2, σ.2.2)), rfl, rfl, h⟩
def wp_X7_declaration_135  (post : WSX7 → Prop) (σ : WSX7) : Prop :=
  wp_X7_take σ (59 : Int32) (fun r15 τ16 => post τ16)
theorem aw_X7_declaration_135 {G : aw_G} {d : Nat} (hd : 3 ≤ d) {post : WSX7 → Prop}  {σ : WSX7} (h : wp_X7_declaration_135  post σ) : AW G MX7_declaration d 0 0 17 (aw_pv (wX7 G) post) 135 [(0, .ref 0)] [] (wX7 G σ) := by
  unfold wp_X7_declaration_135 at h
  refine aw_aload_n 0 dX7_declaration_135 rfl rfl ?_
  refine aw_bipush (v := (59 : Int32)) dX7_declaration_136 (by decide) ?_
  refine aw_callVT (mc1 := 0) (ms1 := 0) (mc := 0) (ms := 0) (st := []) (q := 0) (As := [.int (59 : Int32)]) lX7_38 insX7_take selX7_take ⟨TX7, 3, rfl⟩ (by omega) (kX7_take (d := 2) (by omega) h) (Nat.le_of_ble_eq_true rfl) rfl rfl rfl dX7_declaration_138 rfl (fun _ _ hh => ?_)
  obtain ⟨r15, τ16, rfl, rfl, h⟩ := hh
  refine aw_stk (st' := [.int r15]) rfl ?_
  refine aw_pop dX7_declaration_141 rfl ?_
  exact aw_vret rfl dX7_declaration_142 ⟨τ16, rfl, rfl, h⟩
def wp_X7_declaration_47  (post : WSX7 → Prop) (σ : WSX7) (x1 : Int32) : Prop :=
  wp_X9_place (σ.1.2, σ.2.1)  (fun r7 τ8 => wp_X4_add σ.2.2 (11 : Int32) r7 x1 (fun r9 τ10 => wp_X7_take ((σ.1.1, τ8.1), (τ8.2, τ10)) (2 : Int32) (fun r11 τ12 => ((¬ r11 = 0 → wp_X9_kind (τ12.1.2, τ12.2.1)  (fun r13 τ14 => ((¬ r13 = (91 : Int32) → wp_X7_declaration_135  post ((τ12.1.1, τ14.1), (τ14.2, τ12.2.2))) ∧ (r13 = (91 : Int32) → wp_X9_next τ14  (fun τ18 => wp_X9_place τ18  (fun r19 τ20 => wp_X9_number τ20  (fun r21 τ22 => wp_X4_add τ12.2.2 (12 : Int32) r19 r21 (fun r23 τ24 => wp_X7_take ((τ12.1.1, τ22.1), (τ22.2, τ24)) (3 : Int32) (fun r25 τ26 => ((r25 = 0 → post τ26) ∧ (¬ r25 = 0 → wp_X7_take τ26 (93 : Int32) (fun r27 τ28 => ((¬ r27 = 0 → wp_X7_declaration_135  post τ28) ∧ (r27 = 0 → post τ28)))))))))))))) ∧ (r11 = 0 → post τ12)))))
theorem aw_X7_declaration_47 {G : aw_G} {d : Nat} (hd : 3 ≤ d) {post : WSX7 → Prop}  {σ : WSX7} {x1 : Int32} (h : wp_X7_declaration_47  post σ x1) : AW G MX7_declaration d 0 0 17 (aw_pv (wX7 G) post) 47 [(0, .ref 0), (1, .int x1)] [] (wX7 G σ) := by
  unfold wp_X7_declaration_47 at h
  refine aw_aload_n 0 dX7_declaration_47 rfl rfl ?_
  refine aw_getf (v := .ref 4) fX7_15 0 rfl rfl dX7_declaration_48 ?_
  refine aw_bipush (v := (11 : Int32)) dX7_declaration_51 (by decide) ?_
  refine aw_aload_n 0 dX7_declaration_53 rfl rfl ?_
  refine aw_getf (v := .ref 1) fX7_9 0 rfl rfl dX7_declaration_54 ?_
  refine aw_callV (mc1 := 0) (ms1 := 0) (mc := 0) (ms := 0) (st := [.int (11 : Int32), .ref 4]) (q := 1) (As := []) (vsc := []) lX7_46 insX9_place selX9_place ⟨TX9, 9, rfl⟩ (by omega) (kX9_place (d := 0) (by omega) h) [1, 2, 3, 5, 6, 7] rfl rfl rfl rfl rfl dX7_declaration_57 rfl rfl (fun _ _ hh => ?_)
  obtain ⟨r7, τ8, rfl, rfl, h⟩ := hh
  refine ⟨(wX7 G ((σ.1.1, τ8.1), (τ8.2, σ.2.2))), [.int r7, .int (11 : Int32), .ref 4], rfl, rfl, rfl, ?_⟩
  refine aw_iload_n 1 dX7_declaration_60 rfl rfl ?_
  refine aw_callV (mc1 := 0) (ms1 := 0) (mc := 0) (ms := 0) (st := []) (q := 4) (As := [.int (11 : Int32), .int r7, .int x1]) (vsc := [.int (11 : Int32), .int r7, .int x1]) lX7_59 insX4_add selX4_add ⟨TX4, 10, rfl⟩ (by omega) (kX4_add (d := 0) (by omega) h) [4, 8, 9, 10, 11, 12, 13, 14, 15, 16] rfl rfl rfl rfl rfl dX7_declaration_61 rfl rfl (fun _ _ hh => ?_)
  obtain ⟨r9, τ10, rfl, rfl, h⟩ := hh
  refine ⟨(wX7 G ((σ.1.1, τ8.1), (τ8.2, τ10))), [.int r9], rfl, rfl, rfl, ?_⟩
  refine aw_pop dX7_declaration_64 rfl ?_
  refine aw_aload_n 0 dX7_declaration_65 rfl rfl ?_
  refine aw_iconst (v := (2 : Int32)) dX7_declaration_66 (by decide) ?_
  refine aw_callVT (mc1 := 0) (ms1 := 0) (mc := 0) (ms := 0) (st := []) (q := 0) (As := [.int (2 : Int32)]) lX7_38 insX7_take selX7_take ⟨TX7, 3, rfl⟩ (by omega) (kX7_take (d := 2) (by omega) h) (Nat.le_of_ble_eq_true rfl) rfl rfl rfl dX7_declaration_67 rfl (fun _ _ hh => ?_)
  obtain ⟨r11, τ12, rfl, rfl, h⟩ := hh
  refine aw_stk (st' := [.int r11]) rfl ?_
  refine aw_if_ne 74 dX7_declaration_70 (by decide) (fun c32 => ?_) (fun c32 => ?_)
  · have h := h.1 c32
    refine aw_aload_n 0 dX7_declaration_74 rfl rfl ?_
    refine aw_getf (v := .ref 1) fX7_9 0 rfl rfl dX7_declaration_75 ?_
    refine aw_callV (mc1 := 0) (ms1 := 0) (mc := 0) (ms := 0) (st := []) (q := 1) (As := []) (vsc := []) lX7_42 insX9_kind selX9_kind ⟨TX9, 9, rfl⟩ (by omega) (kX9_kind (d := 0) (by omega) h) [1, 2, 3, 5, 6, 7] rfl rfl rfl rfl rfl dX7_declaration_78 rfl rfl (fun _ _ hh => ?_)
    obtain ⟨r13, τ14, rfl, rfl, h⟩ := hh
    refine ⟨(wX7 G ((τ12.1.1, τ14.1), (τ14.2, τ12.2.2))), [.int r13], rfl, rfl, rfl, ?_⟩
    refine aw_bipush (v := (91 : Int32)) dX7_declaration_81 (by decide) ?_
    refine aw_icmp_ne 135 dX7_declaration_83 (by decide) (fun c31 => ?_) (fun c31 => ?_)
    · have h := h.1 c31
      refine aw_lvsub (lv' := [(0, .ref 0)]) [0] rfl ?_
      exact aw_X7_declaration_135 hd  h
    · have h := h.2 c31
      refine aw_aload_n 0 dX7_declaration_86 rfl rfl ?_
      refine aw_getf (v := .ref 1) fX7_9 0 rfl rfl dX7_declaration_87 ?_
      refine aw_callV (mc1 := 0) (ms1 := 0) (mc := 0) (ms := 0) (st := []) (q := 1) (As := []) (vsc := []) lX7_49 insX9_next selX9_next ⟨TX9, 9, rfl⟩ (by omega) (kX9_next (d := 1) (by omega) h) [1, 2, 3, 5, 6, 7] rfl rfl rfl rfl rfl dX7_declaration_90 rfl rfl (fun _ _ hh => ?_)
      obtain ⟨τ18, rfl, rfl, h⟩ := hh
      refine ⟨(wX7 G ((τ12.1.1, τ18.1), (τ18.2, τ12.2.2))), [], rfl, rfl, rfl, ?_⟩
      refine aw_aload_n 0 dX7_declaration_93 rfl rfl ?_
      refine aw_getf (v := .ref 4) fX7_15 0 rfl rfl dX7_declaration_94 ?_
      refine aw_bipush (v := (12 : Int32)) dX7_declaration_97 (by decide) ?_
      refine aw_aload_n 0 dX7_declaration_99 rfl rfl ?_
      refine aw_getf (v := .ref 1) fX7_9 0 rfl rfl dX7_declaration_100 ?_
      refine aw_callV (mc1 := 0) (ms1 := 0) (mc := 0) (ms := 0) (st := [.int (12 : Int32), .ref 4]) (q := 1) (As := []) (vsc := []) lX7_46 insX9_place selX9_place ⟨TX9, 9, rfl⟩ (by omega) (kX9_place (d := 0) (by omega) h) [1, 2, 3, 5, 6, 7] rfl rfl rfl rfl rfl dX7_declaration_103 rfl rfl (fun _ _ hh => ?_)
      obtain ⟨r19, τ20, rfl, rfl, h⟩ := hh
      refine ⟨(wX7 G ((τ12.1.1, τ20.1), (τ20.2, τ12.2.2))), [.int r19, .int (12 : Int32), .ref 4], rfl, rfl, rfl, ?_⟩
      refine aw_aload_n 0 dX7_declaration_106 rfl rfl ?_
      refine aw_getf (v := .ref 1) fX7_9 0 rfl rfl dX7_declaration_107 ?_
      refine aw_callV (mc1 := 0) (ms1 := 0) (mc := 0) (ms := 0) (st := [.int r19, .int (12 : Int32), .ref 4]) (q := 1) (As := []) (vsc := []) lX7_63 insX9_number selX9_number ⟨TX9, 9, rfl⟩ (by omega) (kX9_number (d := 0) (by omega) h) [1, 2, 3, 5, 6, 7] rfl rfl rfl rfl rfl dX7_declaration_110 rfl rfl (fun _ _ hh => ?_)
      obtain ⟨r21, τ22, rfl, rfl, h⟩ := hh
      refine ⟨(wX7 G ((τ12.1.1, τ22.1), (τ22.2, τ12.2.2))), [.int r21, .int r19, .int (12 : Int32), .ref 4], rfl, rfl, rfl, ?_⟩
      refine aw_callV (mc1 := 0) (ms1 := 0) (mc := 0) (ms := 0) (st := []) (q := 4) (As := [.int (12 : Int32), .int r19, .int r21]) (vsc := [.int (12 : Int32), .int r19, .int r21]) lX7_59 insX4_add selX4_add ⟨TX4, 10, rfl⟩ (by omega) (kX4_add (d := 0) (by omega) h) [4, 8, 9, 10, 11, 12, 13, 14, 15, 16] rfl rfl rfl rfl rfl dX7_declaration_113 rfl rfl (fun _ _ hh => ?_)
      obtain ⟨r23, τ24, rfl, rfl, h⟩ := hh
      refine ⟨(wX7 G ((τ12.1.1, τ22.1), (τ22.2, τ24))), [.int r23], rfl, rfl, rfl, ?_⟩
      refine aw_pop dX7_declaration_116 rfl ?_
      refine aw_aload_n 0 dX7_declaration_117 rfl rfl ?_
      refine aw_iconst (v := (3 : Int32)) dX7_declaration_118 (by decide) ?_
      refine aw_callVT (mc1 := 0) (ms1 := 0) (mc := 0) (ms := 0) (st := []) (q := 0) (As := [.int (3 : Int32)]) lX7_38 insX7_take selX7_take ⟨TX7, 3, rfl⟩ (by omega) (kX7_take (d := 2) (by omega) h) (Nat.le_of_ble_eq_true rfl) rfl rfl rfl dX7_declaration_119 rfl (fun _ _ hh => ?_)
      obtain ⟨r25, τ26, rfl, rfl, h⟩ := hh
      refine aw_stk (st' := [.int r25]) rfl ?_
      refine aw_if_eq 134 dX7_declaration_122 (by decide) (fun c30 => ?_) (fun c30 => ?_)
      · have h := h.1 c30
        exact aw_vret rfl dX7_declaration_134 ⟨τ26, rfl, rfl, h⟩
      · have h := h.2 c30
        refine aw_aload_n 0 dX7_declaration_125 rfl rfl ?_
        refine aw_bipush (v := (93 : Int32)) dX7_declaration_126 (by decide) ?_
        refine aw_callVT (mc1 := 0) (ms1 := 0) (mc := 0) (ms := 0) (st := []) (q := 0) (As := [.int (93 : Int32)]) lX7_38 insX7_take selX7_take ⟨TX7, 3, rfl⟩ (by omega) (kX7_take (d := 2) (by omega) h) (Nat.le_of_ble_eq_true rfl) rfl rfl rfl dX7_declaration_128 rfl (fun _ _ hh => ?_)
        obtain ⟨r27, τ28, rfl, rfl, h⟩ := hh
        refine aw_stk (st' := [.int r27]) rfl ?_
        refine aw_if_ne 135 dX7_declaration_131 (by decide) (fun c29 => ?_) (fun c29 => ?_)
        · have h := h.1 c29
          refine aw_lvsub (lv' := [(0, .ref 0)]) [0] rfl ?_
          exact aw_X7_declaration_135 hd  h
        · have h := h.2 c29
          exact aw_vret rfl dX7_declaration_134 ⟨τ28, rfl, rfl, h⟩
  · have h := h.2 c32
    exact aw_vret rfl dX7_declaration_73 ⟨τ12, rfl, rfl, h⟩
def wp_X7_declaration_16  (post : WSX7 → Prop) (σ : WSX7) (s0 : Int32) : Prop :=
  wp_X9_next (σ.1.2, σ.2.1)  (fun τ4 => wp_X9_kind τ4  (fun r5 τ6 => ((¬ r5 = (6 : Int32) → wp_X7_declaration_47  post ((σ.1.1, τ6.1), (τ6.2, σ.2.2)) s0) ∧ (r5 = (6 : Int32) → (∀ y33 : Int32, y33 = (s0 ||| (2 : Int32)) → wp_X9_next τ6  (fun τ35 => wp_X7_declaration_47  post ((σ.1.1, τ35.1), (τ35.2, σ.2.2)) y33))))))
theorem aw_X7_declaration_16 {G : aw_G} {d : Nat} (hd : 3 ≤ d) {post : WSX7 → Prop}  {σ : WSX7} {s0 : Int32} (h : wp_X7_declaration_16  post σ s0) : AW G MX7_declaration d 0 0 17 (aw_pv (wX7 G) post) 16 [(0, .ref 0)] [.int s0] (wX7 G σ) := by
  unfold wp_X7_declaration_16 at h
  refine aw_istore_n (lv' := [(1, .int s0), (0, .ref 0)]) dX7_declaration_16 rfl (by decide) rfl ?_
  refine aw_aload_n 1 dX7_declaration_17 rfl rfl ?_
  refine aw_getf (v := .ref 1) fX7_9 0 rfl rfl dX7_declaration_18 ?_
  refine aw_callV (mc1 := 0) (ms1 := 0) (mc := 0) (ms := 0) (st := []) (q := 1) (As := []) (vsc := []) lX7_49 insX9_next selX9_next ⟨TX9, 9, rfl⟩ (by omega) (kX9_next (d := 1) (by omega) h) [1, 2, 3, 5, 6, 7] rfl rfl rfl rfl rfl dX7_declaration_21 rfl rfl (fun _ _ hh => ?_)
  obtain ⟨τ4, rfl, rfl, h⟩ := hh
  refine ⟨(wX7 G ((σ.1.1, τ4.1), (τ4.2, σ.2.2))), [], rfl, rfl, rfl, ?_⟩
  refine aw_aload_n 1 dX7_declaration_24 rfl rfl ?_
  refine aw_getf (v := .ref 1) fX7_9 0 rfl rfl dX7_declaration_25 ?_
  refine aw_callV (mc1 := 0) (ms1 := 0) (mc := 0) (ms := 0) (st := []) (q := 1) (As := []) (vsc := []) lX7_42 insX9_kind selX9_kind ⟨TX9, 9, rfl⟩ (by omega) (kX9_kind (d := 0) (by omega) h) [1, 2, 3, 5, 6, 7] rfl rfl rfl rfl rfl dX7_declaration_28 rfl rfl (fun _ _ hh => ?_)
  obtain ⟨r5, τ6, rfl, rfl, h⟩ := hh
  refine ⟨(wX7 G ((σ.1.1, τ6.1), (τ6.2, σ.2.2))), [.int r5], rfl, rfl, rfl, ?_⟩
  refine aw_bipush (v := (6 : Int32)) dX7_declaration_31 (by decide) ?_
  refine aw_icmp_ne 47 dX7_declaration_33 (by decide) (fun c36 => ?_) (fun c36 => ?_)
  · have h := h.1 c36
    refine aw_lvsub (lv' := [(0, .ref 0), (1, .int s0)]) [1, 0] rfl ?_
    exact aw_X7_declaration_47 hd  h
  · have h := h.2 c36
    refine aw_iload_n 0 dX7_declaration_36 rfl rfl ?_
    refine aw_iconst (v := (2 : Int32)) dX7_declaration_37 (by decide) ?_
    refine aw_ior dX7_declaration_38 ?_
    refine aw_topi (fun y33 ey33 => ?_)
    have h := h y33 ey33
    refine aw_istore_n (lv' := [(1, .int y33), (0, .ref 0)]) dX7_declaration_39 rfl (by decide) rfl ?_
    refine aw_aload_n 1 dX7_declaration_40 rfl rfl ?_
    refine aw_getf (v := .ref 1) fX7_9 0 rfl rfl dX7_declaration_41 ?_
    refine aw_callV (mc1 := 0) (ms1 := 0) (mc := 0) (ms := 0) (st := []) (q := 1) (As := []) (vsc := []) lX7_49 insX9_next selX9_next ⟨TX9, 9, rfl⟩ (by omega) (kX9_next (d := 1) (by omega) h) [1, 2, 3, 5, 6, 7] rfl rfl rfl rfl rfl dX7_declaration_44 rfl rfl (fun _ _ hh => ?_)
    obtain ⟨τ35, rfl, rfl, h⟩ := hh
    refine ⟨(wX7 G ((σ.1.1, τ35.1), (τ35.2, σ.2.2))), [], rfl, rfl, rfl, ?_⟩
    refine aw_lvsub (lv' := [(0, .ref 0), (1, .int y33)]) [1, 0] rfl ?_
    exact aw_X7_declaration_47 hd  h
def wp_X7_declaration (σ : WSX7) (post : WSX7 → Prop) : Prop :=
  wp_X9_kind (σ.1.2, σ.2.1)  (fun r1 τ2 => ((¬ r1 = (5 : Int32) → wp_X7_declaration_16  post ((σ.1.1, τ2.1), (τ2.2, σ.2.2)) (0 : Int32)) ∧ (r1 = (5 : Int32) → wp_X7_declaration_16  post ((σ.1.1, τ2.1), (τ2.2, σ.2.2)) (1 : Int32))))
theorem kX7_declaration {G : aw_G} {d : Nat} (hd : 3 ≤ d) {σ : WSX7} {post : WSX7 → Prop} (h : wp_X7_declaration σ post) : AC G MX7_declaration d 0 0 17 [.ref 0] (wX7 G σ) (aw_pv (wX7 G) post) := by
  refine AC.of (lv := [(0, .ref 0)]) (by decide) (Nat.le_of_ble_eq_true rfl) rfl ?_
  unfold wp_X7_declaration at h
  refine aw_aload_n 0 dX7_declaration_0 rfl rfl ?_
  refine aw_getf (v := .ref 1) fX7_9 0 rfl rfl dX7_declaration_1 ?_
  refine aw_callV (mc1 := 0) (ms1 := 0) (mc := 0) (ms := 0) (st := []) (q := 1) (As := []) (vsc := []) lX7_42 insX9_kind selX9_kind ⟨TX9, 9, rfl⟩ (by omega) (kX9_kind (d := 0) (by omega) h) [1, 2, 3, 5, 6, 7] rfl rfl rfl rfl rfl dX7_declaration_4 rfl rfl (fun _ _ hh => ?_)
  obtain ⟨r1, τ2, rfl, rfl, h⟩ := hh
  refine ⟨(wX7 G ((σ.1.1, τ2.1), (τ2.2, σ.2.2))), [.int r1], rfl, rfl, rfl, ?_⟩
  refine aw_iconst (v := (5 : Int32)) dX7_declaration_7 (by decide) ?_
  refine aw_icmp_ne 15 dX7_declaration_8 (by decide) (fun c37 => ?_) (fun c37 => ?_)
  · have h := h.1 c37
    refine aw_iconst (v := (0 : Int32)) dX7_declaration_15 (by decide) ?_
    exact aw_X7_declaration_16 hd  h
  · have h := h.2 c37
    refine aw_iconst (v := (1 : Int32)) dX7_declaration_11 (by decide) ?_
    refine aw_goto 16 dX7_declaration_12 (by decide) ?_
    exact aw_X7_declaration_16 hd  h
def Mg_rd (k : Nat) : aw_M := match k with
  | 0 => MX7_statements
  | 1 => MX7_statement
  | 2 => MX7_putStatement
  | 3 => MX7_ifStatement
  | 4 => MX7_whileStatement
  | 5 => MX7_outStatement
  | 6 => MX7_block
  | 7 => MX7_expression
  | 8 => MX7_parts
  | 9 => MX7_unary
  | _ => MX7_nameOrItem
def wb_X7_statements_2 (rc : Nat → WSX7 → List Int32 → (Int32 → WSX7 → Prop) → Prop)  (post : WSX7 → Prop) (rec_2 : WSX7 × Int32 × Int32 → Prop) (σ : WSX7) (x1 : Int32) (x2 : Int32) : Prop :=
  (((3000 : Int32) ≤ x2 → post σ) ∧ (¬ (3000 : Int32) ≤ x2 → ((¬ σ.1.1 = ((-1) : Int32) → post σ) ∧ (σ.1.1 = ((-1) : Int32) → wp_X9_kind (σ.1.2, σ.2.1)  (fun r1 τ2 => ((r1 = (125 : Int32) → post ((σ.1.1, τ2.1), (τ2.2, σ.2.2))) ∧ (¬ r1 = (125 : Int32) → wp_X9_kind τ2  (fun r3 τ4 => ((¬ r3 = 0 → rc 1 ((σ.1.1, τ4.1), (τ4.2, σ.2.2)) [x1] (fun _ τ6 => rec_2 (τ6, x1, (x2 + 1)))) ∧ (r3 = 0 → post ((σ.1.1, τ4.1), (τ4.2, σ.2.2))))))))))))
def wp_X7_statements_2 (rc : Nat → WSX7 → List Int32 → (Int32 → WSX7 → Prop) → Prop)  (post : WSX7 → Prop) (n : Nat) (σ : WSX7) (x1 : Int32) (x2 : Int32) : Prop := aw_loop (fun r (a : WSX7 × Int32 × Int32) => wb_X7_statements_2 rc  post r a.1 a.2.1 a.2.2) n (σ, x1, x2)
theorem aw_X7_statements_2 {G : aw_G} {d : Nat} (hd : 1 ≤ d) {dg : Nat} (hdg : dg + 1 ≤ d) {rc : Nat → WSX7 → List Int32 → (Int32 → WSX7 → Prop) → Prop} (hrc : ∀ (k : Nat) (σ : WSX7) (xs : List Int32) (po : Int32 → WSX7 → Prop), rc k σ xs po → AC G (Mg_rd k) dg 0 0 17 (.ref 0 :: xs.map .int) (wX7 G σ) (aw_pv (wX7 G) (fun τ => po 0 τ))) {post : WSX7 → Prop}  : ∀ (n : Nat) (σ : WSX7) (x1 : Int32) (x2 : Int32), wp_X7_statements_2 rc  post n σ x1 x2 → AW G MX7_statements d 0 0 17 (aw_pv (wX7 G) post) 2 [(0, .ref 0), (1, .int x1), (2, .int x2)] [] (wX7 G σ) := by
  intro n
  induction n with
  | zero => intro σ x1 x2 h; exact h.elim
  | succ n ih =>
    intro σ x1 x2 h
    have hrec_2 : ∀ a : WSX7 × Int32 × Int32, aw_loop (fun r (a : WSX7 × Int32 × Int32) => wb_X7_statements_2 rc  post r a.1 a.2.1 a.2.2) n a → AW G MX7_statements d 0 0 17 (aw_pv (wX7 G) post) 2 [(0, .ref 0), (1, .int a.2.1), (2, .int a.2.2)] [] (wX7 G a.1) := fun a h => ih a.1 a.2.1 a.2.2 h
    have h : wb_X7_statements_2 rc  post (aw_loop (fun r (a : WSX7 × Int32 × Int32) => wb_X7_statements_2 rc  post r a.1 a.2.1 a.2.2) n) σ x1 x2 := h
    unfold wb_X7_statements_2 at h
    refine aw_iload_n 2 dX7_statements_2 rfl rfl ?_
    refine aw_sipush (v := (3000 : Int32)) dX7_statements_3 (by decide) ?_
    refine aw_icmp_ge 51 dX7_statements_6 (by decide) (fun c10 => ?_) (fun c10 => ?_)
    · have h := h.1 c10
      exact aw_vret rfl dX7_statements_51 ⟨σ, rfl, rfl, h⟩
    · have h := h.2 c10
      refine aw_aload_n 0 dX7_statements_9 rfl rfl ?_
      refine aw_getf (v := .int σ.1.1) fX7_19 0 rfl rfl dX7_statements_10 ?_
      refine aw_iconst (v := ((-1) : Int32)) dX7_statements_13 (by decide) ?_
      refine aw_icmp_ne 51 dX7_statements_14 (by decide) (fun c9 => ?_) (fun c9 => ?_)
      · have h := h.1 c9
        exact aw_vret rfl dX7_statements_51 ⟨σ, rfl, rfl, h⟩
      · have h := h.2 c9
        refine aw_aload_n 0 dX7_statements_17 rfl rfl ?_
        refine aw_getf (v := .ref 1) fX7_9 0 rfl rfl dX7_statements_18 ?_
        refine aw_callV (mc1 := 0) (ms1 := 0) (mc := 0) (ms := 0) (st := []) (q := 1) (As := []) (vsc := []) lX7_42 insX9_kind selX9_kind ⟨TX9, 9, rfl⟩ (by omega) (kX9_kind (d := 0) (by omega) h) [1, 2, 3, 5, 6, 7] rfl rfl rfl rfl rfl dX7_statements_21 rfl rfl (fun _ _ hh => ?_)
        obtain ⟨r1, τ2, rfl, rfl, h⟩ := hh
        refine ⟨(wX7 G ((σ.1.1, τ2.1), (τ2.2, σ.2.2))), [.int r1], rfl, rfl, rfl, ?_⟩
        refine aw_bipush (v := (125 : Int32)) dX7_statements_24 (by decide) ?_
        refine aw_icmp_eq 39 dX7_statements_26 (by decide) (fun c8 => ?_) (fun c8 => ?_)
        · have h := h.1 c8
          exact aw_vret rfl dX7_statements_39 ⟨((σ.1.1, τ2.1), (τ2.2, σ.2.2)), rfl, rfl, h⟩
        · have h := h.2 c8
          refine aw_aload_n 0 dX7_statements_29 rfl rfl ?_
          refine aw_getf (v := .ref 1) fX7_9 0 rfl rfl dX7_statements_30 ?_
          refine aw_callV (mc1 := 0) (ms1 := 0) (mc := 0) (ms := 0) (st := []) (q := 1) (As := []) (vsc := []) lX7_42 insX9_kind selX9_kind ⟨TX9, 9, rfl⟩ (by omega) (kX9_kind (d := 0) (by omega) h) [1, 2, 3, 5, 6, 7] rfl rfl rfl rfl rfl dX7_statements_33 rfl rfl (fun _ _ hh => ?_)
          obtain ⟨r3, τ4, rfl, rfl, h⟩ := hh
          refine ⟨(wX7 G ((σ.1.1, τ4.1), (τ4.2, σ.2.2))), [.int r3], rfl, rfl, rfl, ?_⟩
          refine aw_if_ne 40 dX7_statements_36 (by decide) (fun c7 => ?_) (fun c7 => ?_)
          · have h := h.1 c7
            refine aw_aload_n 0 dX7_statements_40 rfl rfl ?_
            refine aw_iload_n 1 dX7_statements_41 rfl rfl ?_
            refine aw_callVT (mc1 := 0) (ms1 := 0) (mc := 0) (ms := 0) (st := []) (q := 0) (As := [.int x1]) lX7_66 insX7_statement selX7_statement ⟨TX7, 3, rfl⟩ (by omega) (hrc 1 _ [x1] _ h) (Nat.le_of_ble_eq_true rfl) rfl rfl rfl dX7_statements_42 rfl (fun _ _ hh => ?_)
            obtain ⟨τ6, rfl, rfl, h⟩ := hh
            refine aw_stk (st' := []) rfl ?_
            refine aw_iinc 2 (v := (x2 + 1)) (lv' := [(2, .int (x2 + 1)), (0, .ref 0), (1, .int x1)]) dX7_statements_45 rfl rfl (by decide) rfl ?_
            refine aw_goto 2 dX7_statements_48 (by decide) ?_
            refine aw_lvsub (lv' := [(0, .ref 0), (1, .int x1), (2, .int (x2 + 1))]) [1, 2, 0] rfl ?_
            exact hrec_2 (τ6, x1, (x2 + 1)) h
          · have h := h.2 c7
            exact aw_vret rfl dX7_statements_39 ⟨((σ.1.1, τ4.1), (τ4.2, σ.2.2)), rfl, rfl, h⟩
def wp_X7_statements (rc : Nat → WSX7 → List Int32 → (Int32 → WSX7 → Prop) → Prop) (σ : WSX7) (a1 : Int32) (post : WSX7 → Prop) : Prop :=
  (∃ n11, wp_X7_statements_2 rc  post n11 σ a1 (0 : Int32))
theorem kX7_statements {G : aw_G} {d : Nat} (hd : 1 ≤ d) {dg : Nat} (hdg : dg + 1 ≤ d) {rc : Nat → WSX7 → List Int32 → (Int32 → WSX7 → Prop) → Prop} (hrc : ∀ (k : Nat) (σ : WSX7) (xs : List Int32) (po : Int32 → WSX7 → Prop), rc k σ xs po → AC G (Mg_rd k) dg 0 0 17 (.ref 0 :: xs.map .int) (wX7 G σ) (aw_pv (wX7 G) (fun τ => po 0 τ))) {σ : WSX7} {a1 : Int32} {post : WSX7 → Prop} (h : wp_X7_statements rc σ a1 post) : AC G MX7_statements d 0 0 17 [.ref 0, .int a1] (wX7 G σ) (aw_pv (wX7 G) post) := by
  refine AC.of (lv := [(0, .ref 0), (1, .int a1)]) (by decide) (Nat.le_of_ble_eq_true rfl) rfl ?_
  unfold wp_X7_statements at h
  refine aw_iconst (v := (0 : Int32)) dX7_statements_0 (by decide) ?_
  refine aw_istore_n (lv' := [(2, .int (0 : Int32)), (0, .ref 0), (1, .int a1)]) dX7_statements_1 rfl (by decide) rfl ?_
  refine aw_lvsub (lv' := [(0, .ref 0), (1, .int a1), (2, .int (0 : Int32))]) [1, 2, 0] rfl ?_
  obtain ⟨n11, h⟩ := h
  exact aw_X7_statements_2 hd hdg hrc  n11 σ a1 (0 : Int32) h
def wp_X7_statement (rc : Nat → WSX7 → List Int32 → (Int32 → WSX7 → Prop) → Prop) (σ : WSX7) (a1 : Int32) (post : WSX7 → Prop) : Prop :=
  wp_X9_kind (σ.1.2, σ.2.1)  (fun r1 τ2 => ((r1 = (2 : Int32) → rc 2 ((σ.1.1, τ2.1), (τ2.2, σ.2.2)) [a1] (fun _ τ5 => post τ5)) ∧ (¬ r1 = (2 : Int32) → ((r1 = (3 : Int32) → wp_X7_fail ((σ.1.1, τ2.1), (τ2.2, σ.2.2))  (fun τ8 => post τ8)) ∧ (¬ r1 = (3 : Int32) → ((r1 = (4 : Int32) → wp_X7_fail ((σ.1.1, τ2.1), (τ2.2, σ.2.2))  (fun τ11 => post τ11)) ∧ (¬ r1 = (4 : Int32) → ((r1 = (5 : Int32) → wp_X7_fail ((σ.1.1, τ2.1), (τ2.2, σ.2.2))  (fun τ14 => post τ14)) ∧ (¬ r1 = (5 : Int32) → ((r1 = (6 : Int32) → wp_X7_fail ((σ.1.1, τ2.1), (τ2.2, σ.2.2))  (fun τ17 => post τ17)) ∧ (¬ r1 = (6 : Int32) → ((r1 = (7 : Int32) → rc 5 ((σ.1.1, τ2.1), (τ2.2, σ.2.2)) [a1] (fun _ τ20 => post τ20)) ∧ (¬ r1 = (7 : Int32) → ((r1 = (8 : Int32) → rc 3 ((σ.1.1, τ2.1), (τ2.2, σ.2.2)) [a1] (fun _ τ23 => post τ23)) ∧ (¬ r1 = (8 : Int32) → ((r1 = (9 : Int32) → wp_X7_fail ((σ.1.1, τ2.1), (τ2.2, σ.2.2))  (fun τ26 => post τ26)) ∧ (¬ r1 = (9 : Int32) → ((r1 = (10 : Int32) → rc 4 ((σ.1.1, τ2.1), (τ2.2, σ.2.2)) [a1] (fun _ τ29 => post τ29)) ∧ (¬ r1 = (10 : Int32) → wp_X7_fail ((σ.1.1, τ2.1), (τ2.2, σ.2.2))  (fun τ31 => post τ31))))))))))))))))))))
theorem kX7_statement {G : aw_G} {d : Nat} (hd : 2 ≤ d) {dg : Nat} (hdg : dg + 1 ≤ d) {rc : Nat → WSX7 → List Int32 → (Int32 → WSX7 → Prop) → Prop} (hrc : ∀ (k : Nat) (σ : WSX7) (xs : List Int32) (po : Int32 → WSX7 → Prop), rc k σ xs po → AC G (Mg_rd k) dg 0 0 17 (.ref 0 :: xs.map .int) (wX7 G σ) (aw_pv (wX7 G) (fun τ => po 0 τ))) {σ : WSX7} {a1 : Int32} {post : WSX7 → Prop} (h : wp_X7_statement rc σ a1 post) : AC G MX7_statement d 0 0 17 [.ref 0, .int a1] (wX7 G σ) (aw_pv (wX7 G) post) := by
  refine AC.of (lv := [(0, .ref 0), (1, .int a1)]) (by decide) (Nat.le_of_ble_eq_true rfl) rfl ?_
  unfold wp_X7_statement at h
  refine aw_aload_n 0 dX7_statement_0 rfl rfl ?_
  refine aw_getf (v := .ref 1) fX7_9 0 rfl rfl dX7_statement_1 ?_
  refine aw_callV (mc1 := 0) (ms1 := 0) (mc := 0) (ms := 0) (st := []) (q := 1) (As := []) (vsc := []) lX7_42 insX9_kind selX9_kind ⟨TX9, 9, rfl⟩ (by omega) (kX9_kind (d := 0) (by omega) h) [1, 2, 3, 5, 6, 7] rfl rfl rfl rfl rfl dX7_statement_4 rfl rfl (fun _ _ hh => ?_)
  obtain ⟨r1, τ2, rfl, rfl, h⟩ := hh
  refine ⟨(wX7 G ((σ.1.1, τ2.1), (τ2.2, σ.2.2))), [.int r1], rfl, rfl, rfl, ?_⟩
  by_cases c3 : r1 = (2 : Int32)
  · refine aw_tableIn 56 (off := 49) dX7_statement_7 (by rw [c3]; decide) (by rw [c3]; decide) (by rw [c3]; rfl) (by decide) ?_
    have h := h.1 c3
    refine aw_aload_n 0 dX7_statement_56 rfl rfl ?_
    refine aw_iload_n 1 dX7_statement_57 rfl rfl ?_
    refine aw_callVT (mc1 := 0) (ms1 := 0) (mc := 0) (ms := 0) (st := []) (q := 0) (As := [.int a1]) lX7_69 insX7_putStatement selX7_putStatement ⟨TX7, 3, rfl⟩ (by omega) (hrc 2 _ [a1] _ h) (Nat.le_of_ble_eq_true rfl) rfl rfl rfl dX7_statement_58 rfl (fun _ _ hh => ?_)
    obtain ⟨τ5, rfl, rfl, h⟩ := hh
    refine aw_stk (st' := []) rfl ?_
    refine aw_goto 92 dX7_statement_61 (by decide) ?_
    exact aw_vret rfl dX7_statement_92 ⟨τ5, rfl, rfl, h⟩
  have h := h.2 c3
  by_cases c6 : r1 = (3 : Int32)
  · refine aw_tableIn 88 (off := 81) dX7_statement_7 (by rw [c6]; decide) (by rw [c6]; decide) (by rw [c6]; rfl) (by decide) ?_
    have h := h.1 c6
    refine aw_aload_n 0 dX7_statement_88 rfl rfl ?_
    refine aw_callVT (mc1 := 0) (ms1 := 0) (mc := 0) (ms := 0) (st := []) (q := 0) (As := []) lX7_52 insX7_fail selX7_fail ⟨TX7, 3, rfl⟩ (by omega) (kX7_fail (d := 1) (by omega) h) (Nat.le_of_ble_eq_true rfl) rfl rfl rfl dX7_statement_89 rfl (fun _ _ hh => ?_)
    obtain ⟨τ8, rfl, rfl, h⟩ := hh
    refine aw_stk (st' := []) rfl ?_
    exact aw_vret rfl dX7_statement_92 ⟨τ8, rfl, rfl, h⟩
  have h := h.2 c6
  by_cases c9 : r1 = (4 : Int32)
  · refine aw_tableIn 88 (off := 81) dX7_statement_7 (by rw [c9]; decide) (by rw [c9]; decide) (by rw [c9]; rfl) (by decide) ?_
    have h := h.1 c9
    refine aw_aload_n 0 dX7_statement_88 rfl rfl ?_
    refine aw_callVT (mc1 := 0) (ms1 := 0) (mc := 0) (ms := 0) (st := []) (q := 0) (As := []) lX7_52 insX7_fail selX7_fail ⟨TX7, 3, rfl⟩ (by omega) (kX7_fail (d := 1) (by omega) h) (Nat.le_of_ble_eq_true rfl) rfl rfl rfl dX7_statement_89 rfl (fun _ _ hh => ?_)
    obtain ⟨τ11, rfl, rfl, h⟩ := hh
    refine aw_stk (st' := []) rfl ?_
    exact aw_vret rfl dX7_statement_92 ⟨τ11, rfl, rfl, h⟩
  have h := h.2 c9
  by_cases c12 : r1 = (5 : Int32)
  · refine aw_tableIn 88 (off := 81) dX7_statement_7 (by rw [c12]; decide) (by rw [c12]; decide) (by rw [c12]; rfl) (by decide) ?_
    have h := h.1 c12
    refine aw_aload_n 0 dX7_statement_88 rfl rfl ?_
    refine aw_callVT (mc1 := 0) (ms1 := 0) (mc := 0) (ms := 0) (st := []) (q := 0) (As := []) lX7_52 insX7_fail selX7_fail ⟨TX7, 3, rfl⟩ (by omega) (kX7_fail (d := 1) (by omega) h) (Nat.le_of_ble_eq_true rfl) rfl rfl rfl dX7_statement_89 rfl (fun _ _ hh => ?_)
    obtain ⟨τ14, rfl, rfl, h⟩ := hh
    refine aw_stk (st' := []) rfl ?_
    exact aw_vret rfl dX7_statement_92 ⟨τ14, rfl, rfl, h⟩
  have h := h.2 c12
  by_cases c15 : r1 = (6 : Int32)
  · refine aw_tableIn 88 (off := 81) dX7_statement_7 (by rw [c15]; decide) (by rw [c15]; decide) (by rw [c15]; rfl) (by decide) ?_
    have h := h.1 c15
    refine aw_aload_n 0 dX7_statement_88 rfl rfl ?_
    refine aw_callVT (mc1 := 0) (ms1 := 0) (mc := 0) (ms := 0) (st := []) (q := 0) (As := []) lX7_52 insX7_fail selX7_fail ⟨TX7, 3, rfl⟩ (by omega) (kX7_fail (d := 1) (by omega) h) (Nat.le_of_ble_eq_true rfl) rfl rfl rfl dX7_statement_89 rfl (fun _ _ hh => ?_)
    obtain ⟨τ17, rfl, rfl, h⟩ := hh
    refine aw_stk (st' := []) rfl ?_
    exact aw_vret rfl dX7_statement_92 ⟨τ17, rfl, rfl, h⟩
  have h := h.2 c15
  by_cases c18 : r1 = (7 : Int32)
  · refine aw_tableIn 80 (off := 73) dX7_statement_7 (by rw [c18]; decide) (by rw [c18]; decide) (by rw [c18]; rfl) (by decide) ?_
    have h := h.1 c18
    refine aw_aload_n 0 dX7_statement_80 rfl rfl ?_
    refine aw_iload_n 1 dX7_statement_81 rfl rfl ?_
    refine aw_callVT (mc1 := 0) (ms1 := 0) (mc := 0) (ms := 0) (st := []) (q := 0) (As := [.int a1]) lX7_78 insX7_outStatement selX7_outStatement ⟨TX7, 3, rfl⟩ (by omega) (hrc 5 _ [a1] _ h) (Nat.le_of_ble_eq_true rfl) rfl rfl rfl dX7_statement_82 rfl (fun _ _ hh => ?_)
    obtain ⟨τ20, rfl, rfl, h⟩ := hh
    refine aw_stk (st' := []) rfl ?_
    refine aw_goto 92 dX7_statement_85 (by decide) ?_
    exact aw_vret rfl dX7_statement_92 ⟨τ20, rfl, rfl, h⟩
  have h := h.2 c18
  by_cases c21 : r1 = (8 : Int32)
  · refine aw_tableIn 64 (off := 57) dX7_statement_7 (by rw [c21]; decide) (by rw [c21]; decide) (by rw [c21]; rfl) (by decide) ?_
    have h := h.1 c21
    refine aw_aload_n 0 dX7_statement_64 rfl rfl ?_
    refine aw_iload_n 1 dX7_statement_65 rfl rfl ?_
    refine aw_callVT (mc1 := 0) (ms1 := 0) (mc := 0) (ms := 0) (st := []) (q := 0) (As := [.int a1]) lX7_72 insX7_ifStatement selX7_ifStatement ⟨TX7, 3, rfl⟩ (by omega) (hrc 3 _ [a1] _ h) (Nat.le_of_ble_eq_true rfl) rfl rfl rfl dX7_statement_66 rfl (fun _ _ hh => ?_)
    obtain ⟨τ23, rfl, rfl, h⟩ := hh
    refine aw_stk (st' := []) rfl ?_
    refine aw_goto 92 dX7_statement_69 (by decide) ?_
    exact aw_vret rfl dX7_statement_92 ⟨τ23, rfl, rfl, h⟩
  have h := h.2 c21
  by_cases c24 : r1 = (9 : Int32)
  · refine aw_tableIn 88 (off := 81) dX7_statement_7 (by rw [c24]; decide) (by rw [c24]; decide) (by rw [c24]; rfl) (by decide) ?_
    have h := h.1 c24
    refine aw_aload_n 0 dX7_statement_88 rfl rfl ?_
    refine aw_callVT (mc1 := 0) (ms1 := 0) (mc := 0) (ms := 0) (st := []) (q := 0) (As := []) lX7_52 insX7_fail selX7_fail ⟨TX7, 3, rfl⟩ (by omega) (kX7_fail (d := 1) (by omega) h) (Nat.le_of_ble_eq_true rfl) rfl rfl rfl dX7_statement_89 rfl (fun _ _ hh => ?_)
    obtain ⟨τ26, rfl, rfl, h⟩ := hh
    refine aw_stk (st' := []) rfl ?_
    exact aw_vret rfl dX7_statement_92 ⟨τ26, rfl, rfl, h⟩
  have h := h.2 c24
  by_cases c27 : r1 = (10 : Int32)
  · refine aw_tableIn 72 (off := 65) dX7_statement_7 (by rw [c27]; decide) (by rw [c27]; decide) (by rw [c27]; rfl) (by decide) ?_
    have h := h.1 c27
    refine aw_aload_n 0 dX7_statement_72 rfl rfl ?_
    refine aw_iload_n 1 dX7_statement_73 rfl rfl ?_
    refine aw_callVT (mc1 := 0) (ms1 := 0) (mc := 0) (ms := 0) (st := []) (q := 0) (As := [.int a1]) lX7_75 insX7_whileStatement selX7_whileStatement ⟨TX7, 3, rfl⟩ (by omega) (hrc 4 _ [a1] _ h) (Nat.le_of_ble_eq_true rfl) rfl rfl rfl dX7_statement_74 rfl (fun _ _ hh => ?_)
    obtain ⟨τ29, rfl, rfl, h⟩ := hh
    refine aw_stk (st' := []) rfl ?_
    refine aw_goto 92 dX7_statement_77 (by decide) ?_
    exact aw_vret rfl dX7_statement_92 ⟨τ29, rfl, rfl, h⟩
  have h := h.2 c27
  refine aw_tableOut 88 dX7_statement_7 (by have := lv_neT (a := 2) c3 rfl; have := lv_neT (a := 3) c6 rfl; have := lv_neT (a := 4) c9 rfl; have := lv_neT (a := 5) c12 rfl; have := lv_neT (a := 6) c15 rfl; have := lv_neT (a := 7) c18 rfl; have := lv_neT (a := 8) c21 rfl; have := lv_neT (a := 9) c24 rfl; have := lv_neT (a := 10) c27 rfl; omega) (by decide) ?_
  refine aw_aload_n 0 dX7_statement_88 rfl rfl ?_
  refine aw_callVT (mc1 := 0) (ms1 := 0) (mc := 0) (ms := 0) (st := []) (q := 0) (As := []) lX7_52 insX7_fail selX7_fail ⟨TX7, 3, rfl⟩ (by omega) (kX7_fail (d := 1) (by omega) h) (Nat.le_of_ble_eq_true rfl) rfl rfl rfl dX7_statement_89 rfl (fun _ _ hh => ?_)
  obtain ⟨τ31, rfl, rfl, h⟩ := hh
  refine aw_stk (st' := []) rfl ?_
  exact aw_vret rfl dX7_statement_92 ⟨τ31, rfl, rfl, h⟩
def wp_X7_putStatement_93 (rc : Nat → WSX7 → List Int32 → (Int32 → WSX7 → Prop) → Prop)  (post : WSX7 → Prop) (σ : WSX7) (x1 : Int32) (x2 : Int32) (x3 : Int32) : Prop :=
  wp_X7_take σ (61 : Int32) (fun r9 τ10 => ((r9 = 0 → post τ10) ∧ (¬ r9 = 0 → rc 7 τ10 [x1] (fun _ τ12 => wp_X4_add τ12.2.2 (16 : Int32) x2 x3 (fun r13 τ14 => wp_X7_take (τ12.1, (τ12.2.1, τ14)) (59 : Int32) (fun r15 τ16 => post τ16))))))
theorem aw_X7_putStatement_93 {G : aw_G} {d : Nat} (hd : 3 ≤ d) {dg : Nat} (hdg : dg + 1 ≤ d) {rc : Nat → WSX7 → List Int32 → (Int32 → WSX7 → Prop) → Prop} (hrc : ∀ (k : Nat) (σ : WSX7) (xs : List Int32) (po : Int32 → WSX7 → Prop), rc k σ xs po → AC G (Mg_rd k) dg 0 0 17 (.ref 0 :: xs.map .int) (wX7 G σ) (aw_pv (wX7 G) (fun τ => po 0 τ))) {post : WSX7 → Prop}  {σ : WSX7} {x1 : Int32} {x2 : Int32} {x3 : Int32} (h : wp_X7_putStatement_93 rc  post σ x1 x2 x3) : AW G MX7_putStatement d 0 0 17 (aw_pv (wX7 G) post) 93 [(0, .ref 0), (1, .int x1), (2, .int x2), (3, .int x3)] [] (wX7 G σ) := by
  unfold wp_X7_putStatement_93 at h
  refine aw_aload_n 0 dX7_putStatement_93 rfl rfl ?_
  refine aw_bipush (v := (61 : Int32)) dX7_putStatement_94 (by decide) ?_
  refine aw_callVT (mc1 := 0) (ms1 := 0) (mc := 0) (ms := 0) (st := []) (q := 0) (As := [.int (61 : Int32)]) lX7_38 insX7_take selX7_take ⟨TX7, 3, rfl⟩ (by omega) (kX7_take (d := 2) (by omega) h) (Nat.le_of_ble_eq_true rfl) rfl rfl rfl dX7_putStatement_96 rfl (fun _ _ hh => ?_)
  obtain ⟨r9, τ10, rfl, rfl, h⟩ := hh
  refine aw_stk (st' := [.int r9]) rfl ?_
  refine aw_if_eq 126 dX7_putStatement_99 (by decide) (fun c17 => ?_) (fun c17 => ?_)
  · have h := h.1 c17
    exact aw_vret rfl dX7_putStatement_126 ⟨τ10, rfl, rfl, h⟩
  · have h := h.2 c17
    refine aw_aload_n 0 dX7_putStatement_102 rfl rfl ?_
    refine aw_iload_n 1 dX7_putStatement_103 rfl rfl ?_
    refine aw_callVT (mc1 := 0) (ms1 := 0) (mc := 0) (ms := 0) (st := []) (q := 0) (As := [.int x1]) lX7_85 insX7_expression selX7_expression ⟨TX7, 3, rfl⟩ (by omega) (hrc 7 _ [x1] _ h) (Nat.le_of_ble_eq_true rfl) rfl rfl rfl dX7_putStatement_104 rfl (fun _ _ hh => ?_)
    obtain ⟨τ12, rfl, rfl, h⟩ := hh
    refine aw_stk (st' := []) rfl ?_
    refine aw_aload_n 0 dX7_putStatement_107 rfl rfl ?_
    refine aw_getf (v := .ref 4) fX7_15 0 rfl rfl dX7_putStatement_108 ?_
    refine aw_bipush (v := (16 : Int32)) dX7_putStatement_111 (by decide) ?_
    refine aw_iload_n 2 dX7_putStatement_113 rfl rfl ?_
    refine aw_iload_n 3 dX7_putStatement_114 rfl rfl ?_
    refine aw_callV (mc1 := 0) (ms1 := 0) (mc := 0) (ms := 0) (st := []) (q := 4) (As := [.int (16 : Int32), .int x2, .int x3]) (vsc := [.int (16 : Int32), .int x2, .int x3]) lX7_59 insX4_add selX4_add ⟨TX4, 10, rfl⟩ (by omega) (kX4_add (d := 0) (by omega) h) [4, 8, 9, 10, 11, 12, 13, 14, 15, 16] rfl rfl rfl rfl rfl dX7_putStatement_115 rfl rfl (fun _ _ hh => ?_)
    obtain ⟨r13, τ14, rfl, rfl, h⟩ := hh
    refine ⟨(wX7 G (τ12.1, (τ12.2.1, τ14))), [.int r13], rfl, rfl, rfl, ?_⟩
    refine aw_pop dX7_putStatement_118 rfl ?_
    refine aw_aload_n 0 dX7_putStatement_119 rfl rfl ?_
    refine aw_bipush (v := (59 : Int32)) dX7_putStatement_120 (by decide) ?_
    refine aw_callVT (mc1 := 0) (ms1 := 0) (mc := 0) (ms := 0) (st := []) (q := 0) (As := [.int (59 : Int32)]) lX7_38 insX7_take selX7_take ⟨TX7, 3, rfl⟩ (by omega) (kX7_take (d := 2) (by omega) h) (Nat.le_of_ble_eq_true rfl) rfl rfl rfl dX7_putStatement_122 rfl (fun _ _ hh => ?_)
    obtain ⟨r15, τ16, rfl, rfl, h⟩ := hh
    refine aw_stk (st' := [.int r15]) rfl ?_
    refine aw_pop dX7_putStatement_125 rfl ?_
    exact aw_vret rfl dX7_putStatement_126 ⟨τ16, rfl, rfl, h⟩
def wp_X7_putStatement (rc : Nat → WSX7 → List Int32 → (Int32 → WSX7 → Prop) → Prop) (σ : WSX7) (a1 : Int32) (post : WSX7 → Prop) : Prop :=
  wp_X9_place (σ.1.2, σ.2.1)  (fun r1 τ2 => wp_X4_add σ.2.2 (13 : Int32) r1 ((-1) : Int32) (fun r3 τ4 => wp_X9_next τ2  (fun τ6 => wp_X9_kind τ6  (fun r7 τ8 => ((¬ r7 = (91 : Int32) → wp_X7_putStatement_93 rc  post ((σ.1.1, τ8.1), (τ8.2, τ4)) a1 r1 r3) ∧ (r7 = (91 : Int32) → wp_X9_place τ8  (fun r18 τ19 => wp_X4_turnInto τ4 r3 (14 : Int32) (fun τ21 => wp_X9_next τ19  (fun τ23 => rc 7 ((σ.1.1, τ23.1), (τ23.2, τ21)) [a1] (fun _ τ25 => wp_X4_add τ25.2.2 (15 : Int32) r18 r3 (fun r26 τ27 => wp_X7_take (τ25.1, (τ25.2.1, τ27)) (93 : Int32) (fun r28 τ29 => ((¬ r28 = 0 → wp_X7_putStatement_93 rc  post τ29 a1 r1 r3) ∧ (r28 = 0 → post τ29))))))))))))))
theorem kX7_putStatement {G : aw_G} {d : Nat} (hd : 3 ≤ d) {dg : Nat} (hdg : dg + 1 ≤ d) {rc : Nat → WSX7 → List Int32 → (Int32 → WSX7 → Prop) → Prop} (hrc : ∀ (k : Nat) (σ : WSX7) (xs : List Int32) (po : Int32 → WSX7 → Prop), rc k σ xs po → AC G (Mg_rd k) dg 0 0 17 (.ref 0 :: xs.map .int) (wX7 G σ) (aw_pv (wX7 G) (fun τ => po 0 τ))) {σ : WSX7} {a1 : Int32} {post : WSX7 → Prop} (h : wp_X7_putStatement rc σ a1 post) : AC G MX7_putStatement d 0 0 17 [.ref 0, .int a1] (wX7 G σ) (aw_pv (wX7 G) post) := by
  refine AC.of (lv := [(0, .ref 0), (1, .int a1)]) (by decide) (Nat.le_of_ble_eq_true rfl) rfl ?_
  unfold wp_X7_putStatement at h
  refine aw_aload_n 0 dX7_putStatement_0 rfl rfl ?_
  refine aw_getf (v := .ref 1) fX7_9 0 rfl rfl dX7_putStatement_1 ?_
  refine aw_callV (mc1 := 0) (ms1 := 0) (mc := 0) (ms := 0) (st := []) (q := 1) (As := []) (vsc := []) lX7_46 insX9_place selX9_place ⟨TX9, 9, rfl⟩ (by omega) (kX9_place (d := 0) (by omega) h) [1, 2, 3, 5, 6, 7] rfl rfl rfl rfl rfl dX7_putStatement_4 rfl rfl (fun _ _ hh => ?_)
  obtain ⟨r1, τ2, rfl, rfl, h⟩ := hh
  refine ⟨(wX7 G ((σ.1.1, τ2.1), (τ2.2, σ.2.2))), [.int r1], rfl, rfl, rfl, ?_⟩
  refine aw_istore_n (lv' := [(2, .int r1), (0, .ref 0), (1, .int a1)]) dX7_putStatement_7 rfl (by decide) rfl ?_
  refine aw_aload_n 1 dX7_putStatement_8 rfl rfl ?_
  refine aw_getf (v := .ref 4) fX7_15 0 rfl rfl dX7_putStatement_9 ?_
  refine aw_bipush (v := (13 : Int32)) dX7_putStatement_12 (by decide) ?_
  refine aw_iload_n 0 dX7_putStatement_14 rfl rfl ?_
  refine aw_iconst (v := ((-1) : Int32)) dX7_putStatement_15 (by decide) ?_
  refine aw_callV (mc1 := 0) (ms1 := 0) (mc := 0) (ms := 0) (st := []) (q := 4) (As := [.int (13 : Int32), .int r1, .int ((-1) : Int32)]) (vsc := [.int (13 : Int32), .int r1, .int ((-1) : Int32)]) lX7_59 insX4_add selX4_add ⟨TX4, 10, rfl⟩ (by omega) (kX4_add (d := 0) (by omega) h) [4, 8, 9, 10, 11, 12, 13, 14, 15, 16] rfl rfl rfl rfl rfl dX7_putStatement_16 rfl rfl (fun _ _ hh => ?_)
  obtain ⟨r3, τ4, rfl, rfl, h⟩ := hh
  refine ⟨(wX7 G ((σ.1.1, τ2.1), (τ2.2, τ4))), [.int r3], rfl, rfl, rfl, ?_⟩
  refine aw_istore_n (lv' := [(3, .int r3), (2, .int r1), (0, .ref 0), (1, .int a1)]) dX7_putStatement_19 rfl (by decide) rfl ?_
  refine aw_aload_n 2 dX7_putStatement_20 rfl rfl ?_
  refine aw_getf (v := .ref 1) fX7_9 0 rfl rfl dX7_putStatement_21 ?_
  refine aw_callV (mc1 := 0) (ms1 := 0) (mc := 0) (ms := 0) (st := []) (q := 1) (As := []) (vsc := []) lX7_49 insX9_next selX9_next ⟨TX9, 9, rfl⟩ (by omega) (kX9_next (d := 1) (by omega) h) [1, 2, 3, 5, 6, 7] rfl rfl rfl rfl rfl dX7_putStatement_24 rfl rfl (fun _ _ hh => ?_)
  obtain ⟨τ6, rfl, rfl, h⟩ := hh
  refine ⟨(wX7 G ((σ.1.1, τ6.1), (τ6.2, τ4))), [], rfl, rfl, rfl, ?_⟩
  refine aw_aload_n 2 dX7_putStatement_27 rfl rfl ?_
  refine aw_getf (v := .ref 1) fX7_9 0 rfl rfl dX7_putStatement_28 ?_
  refine aw_callV (mc1 := 0) (ms1 := 0) (mc := 0) (ms := 0) (st := []) (q := 1) (As := []) (vsc := []) lX7_42 insX9_kind selX9_kind ⟨TX9, 9, rfl⟩ (by omega) (kX9_kind (d := 0) (by omega) h) [1, 2, 3, 5, 6, 7] rfl rfl rfl rfl rfl dX7_putStatement_31 rfl rfl (fun _ _ hh => ?_)
  obtain ⟨r7, τ8, rfl, rfl, h⟩ := hh
  refine ⟨(wX7 G ((σ.1.1, τ8.1), (τ8.2, τ4))), [.int r7], rfl, rfl, rfl, ?_⟩
  refine aw_bipush (v := (91 : Int32)) dX7_putStatement_34 (by decide) ?_
  refine aw_icmp_ne 93 dX7_putStatement_36 (by decide) (fun c31 => ?_) (fun c31 => ?_)
  · have h := h.1 c31
    refine aw_lvsub (lv' := [(0, .ref 0), (1, .int a1), (2, .int r1), (3, .int r3)]) [2, 3, 1, 0] rfl ?_
    exact aw_X7_putStatement_93 hd hdg hrc  h
  · have h := h.2 c31
    refine aw_aload_n 2 dX7_putStatement_39 rfl rfl ?_
    refine aw_getf (v := .ref 1) fX7_9 0 rfl rfl dX7_putStatement_40 ?_
    refine aw_callV (mc1 := 0) (ms1 := 0) (mc := 0) (ms := 0) (st := []) (q := 1) (As := []) (vsc := []) lX7_46 insX9_place selX9_place ⟨TX9, 9, rfl⟩ (by omega) (kX9_place (d := 0) (by omega) h) [1, 2, 3, 5, 6, 7] rfl rfl rfl rfl rfl dX7_putStatement_43 rfl rfl (fun _ _ hh => ?_)
    obtain ⟨r18, τ19, rfl, rfl, h⟩ := hh
    refine ⟨(wX7 G ((σ.1.1, τ19.1), (τ19.2, τ4))), [.int r18], rfl, rfl, rfl, ?_⟩
    refine aw_istore (lv' := [(4, .int r18), (3, .int r3), (2, .int r1), (0, .ref 0), (1, .int a1)]) dX7_putStatement_46 (by decide) rfl ?_
    refine aw_aload_n 3 dX7_putStatement_48 rfl rfl ?_
    refine aw_getf (v := .ref 4) fX7_15 0 rfl rfl dX7_putStatement_49 ?_
    refine aw_iload_n 1 dX7_putStatement_52 rfl rfl ?_
    refine aw_bipush (v := (14 : Int32)) dX7_putStatement_53 (by decide) ?_
    refine aw_callV (mc1 := 0) (ms1 := 0) (mc := 0) (ms := 0) (st := []) (q := 4) (As := [.int r3, .int (14 : Int32)]) (vsc := [.int r3, .int (14 : Int32)]) lX7_81 insX4_turnInto selX4_turnInto ⟨TX4, 10, rfl⟩ (by omega) (kX4_turnInto (d := 1) (by omega) h) [4, 8, 9, 10, 11, 12, 13, 14, 15, 16] rfl rfl rfl rfl rfl dX7_putStatement_55 rfl rfl (fun _ _ hh => ?_)
    obtain ⟨τ21, rfl, rfl, h⟩ := hh
    refine ⟨(wX7 G ((σ.1.1, τ19.1), (τ19.2, τ21))), [], rfl, rfl, rfl, ?_⟩
    refine aw_aload_n 3 dX7_putStatement_58 rfl rfl ?_
    refine aw_getf (v := .ref 1) fX7_9 0 rfl rfl dX7_putStatement_59 ?_
    refine aw_callV (mc1 := 0) (ms1 := 0) (mc := 0) (ms := 0) (st := []) (q := 1) (As := []) (vsc := []) lX7_49 insX9_next selX9_next ⟨TX9, 9, rfl⟩ (by omega) (kX9_next (d := 1) (by omega) h) [1, 2, 3, 5, 6, 7] rfl rfl rfl rfl rfl dX7_putStatement_62 rfl rfl (fun _ _ hh => ?_)
    obtain ⟨τ23, rfl, rfl, h⟩ := hh
    refine ⟨(wX7 G ((σ.1.1, τ23.1), (τ23.2, τ21))), [], rfl, rfl, rfl, ?_⟩
    refine aw_aload_n 3 dX7_putStatement_65 rfl rfl ?_
    refine aw_iload_n 4 dX7_putStatement_66 rfl rfl ?_
    refine aw_callVT (mc1 := 0) (ms1 := 0) (mc := 0) (ms := 0) (st := []) (q := 0) (As := [.int a1]) lX7_85 insX7_expression selX7_expression ⟨TX7, 3, rfl⟩ (by omega) (hrc 7 _ [a1] _ h) (Nat.le_of_ble_eq_true rfl) rfl rfl rfl dX7_putStatement_67 rfl (fun _ _ hh => ?_)
    obtain ⟨τ25, rfl, rfl, h⟩ := hh
    refine aw_stk (st' := []) rfl ?_
    refine aw_aload_n 3 dX7_putStatement_70 rfl rfl ?_
    refine aw_getf (v := .ref 4) fX7_15 0 rfl rfl dX7_putStatement_71 ?_
    refine aw_bipush (v := (15 : Int32)) dX7_putStatement_74 (by decide) ?_
    refine aw_iload 0 dX7_putStatement_76 rfl ?_
    refine aw_iload_n 1 dX7_putStatement_78 rfl rfl ?_
    refine aw_callV (mc1 := 0) (ms1 := 0) (mc := 0) (ms := 0) (st := []) (q := 4) (As := [.int (15 : Int32), .int r18, .int r3]) (vsc := [.int (15 : Int32), .int r18, .int r3]) lX7_59 insX4_add selX4_add ⟨TX4, 10, rfl⟩ (by omega) (kX4_add (d := 0) (by omega) h) [4, 8, 9, 10, 11, 12, 13, 14, 15, 16] rfl rfl rfl rfl rfl dX7_putStatement_79 rfl rfl (fun _ _ hh => ?_)
    obtain ⟨r26, τ27, rfl, rfl, h⟩ := hh
    refine ⟨(wX7 G (τ25.1, (τ25.2.1, τ27))), [.int r26], rfl, rfl, rfl, ?_⟩
    refine aw_pop dX7_putStatement_82 rfl ?_
    refine aw_aload_n 3 dX7_putStatement_83 rfl rfl ?_
    refine aw_bipush (v := (93 : Int32)) dX7_putStatement_84 (by decide) ?_
    refine aw_callVT (mc1 := 0) (ms1 := 0) (mc := 0) (ms := 0) (st := []) (q := 0) (As := [.int (93 : Int32)]) lX7_38 insX7_take selX7_take ⟨TX7, 3, rfl⟩ (by omega) (kX7_take (d := 2) (by omega) h) (Nat.le_of_ble_eq_true rfl) rfl rfl rfl dX7_putStatement_86 rfl (fun _ _ hh => ?_)
    obtain ⟨r28, τ29, rfl, rfl, h⟩ := hh
    refine aw_stk (st' := [.int r28]) rfl ?_
    refine aw_if_ne 93 dX7_putStatement_89 (by decide) (fun c30 => ?_) (fun c30 => ?_)
    · have h := h.1 c30
      refine aw_lvsub (lv' := [(0, .ref 0), (1, .int a1), (2, .int r1), (3, .int r3)]) [3, 4, 2, 1] rfl ?_
      exact aw_X7_putStatement_93 hd hdg hrc  h
    · have h := h.2 c30
      exact aw_vret rfl dX7_putStatement_92 ⟨τ29, rfl, rfl, h⟩
def wp_X7_ifStatement_126 (rc : Nat → WSX7 → List Int32 → (Int32 → WSX7 → Prop) → Prop)  (post : WSX7 → Prop) (σ : WSX7) (x2 : Int32) (x3 : Int32) : Prop :=
  wp_X4_add σ.2.2 (20 : Int32) x2 x3 (fun r17 τ18 => post (σ.1, (σ.2.1, τ18)))
theorem aw_X7_ifStatement_126 {G : aw_G} {d : Nat} (hd : 3 ≤ d) {dg : Nat} (hdg : dg + 1 ≤ d) {rc : Nat → WSX7 → List Int32 → (Int32 → WSX7 → Prop) → Prop} (hrc : ∀ (k : Nat) (σ : WSX7) (xs : List Int32) (po : Int32 → WSX7 → Prop), rc k σ xs po → AC G (Mg_rd k) dg 0 0 17 (.ref 0 :: xs.map .int) (wX7 G σ) (aw_pv (wX7 G) (fun τ => po 0 τ))) {post : WSX7 → Prop}  {σ : WSX7} {x2 : Int32} {x3 : Int32} (h : wp_X7_ifStatement_126 rc  post σ x2 x3) : AW G MX7_ifStatement d 0 0 17 (aw_pv (wX7 G) post) 126 [(0, .ref 0), (2, .int x2), (3, .int x3)] [] (wX7 G σ) := by
  unfold wp_X7_ifStatement_126 at h
  refine aw_aload_n 0 dX7_ifStatement_126 rfl rfl ?_
  refine aw_getf (v := .ref 4) fX7_15 0 rfl rfl dX7_ifStatement_127 ?_
  refine aw_bipush (v := (20 : Int32)) dX7_ifStatement_130 (by decide) ?_
  refine aw_iload_n 1 dX7_ifStatement_132 rfl rfl ?_
  refine aw_iload_n 2 dX7_ifStatement_133 rfl rfl ?_
  refine aw_callV (mc1 := 0) (ms1 := 0) (mc := 0) (ms := 0) (st := []) (q := 4) (As := [.int (20 : Int32), .int x2, .int x3]) (vsc := [.int (20 : Int32), .int x2, .int x3]) lX7_59 insX4_add selX4_add ⟨TX4, 10, rfl⟩ (by omega) (kX4_add (d := 0) (by omega) h) [4, 8, 9, 10, 11, 12, 13, 14, 15, 16] rfl rfl rfl rfl rfl dX7_ifStatement_134 rfl rfl (fun _ _ hh => ?_)
  obtain ⟨r17, τ18, rfl, rfl, h⟩ := hh
  refine ⟨(wX7 G (σ.1, (σ.2.1, τ18))), [.int r17], rfl, rfl, rfl, ?_⟩
  refine aw_pop dX7_ifStatement_137 rfl ?_
  exact aw_vret rfl dX7_ifStatement_138 ⟨(σ.1, (σ.2.1, τ18)), rfl, rfl, h⟩
def wp_X7_ifStatement (rc : Nat → WSX7 → List Int32 → (Int32 → WSX7 → Prop) → Prop) (σ : WSX7) (a1 : Int32) (post : WSX7 → Prop) : Prop :=
  wp_X9_place (σ.1.2, σ.2.1)  (fun r1 τ2 => wp_X4_add σ.2.2 (17 : Int32) r1 ((-1) : Int32) (fun r3 τ4 => wp_X9_next τ2  (fun τ6 => wp_X7_take ((σ.1.1, τ6.1), (τ6.2, τ4)) (40 : Int32) (fun r7 τ8 => ((¬ r7 = 0 → rc 7 τ8 [a1] (fun _ τ10 => wp_X4_add τ10.2.2 (18 : Int32) r1 ((-1) : Int32) (fun r11 τ12 => wp_X7_take (τ10.1, (τ10.2.1, τ12)) (41 : Int32) (fun r13 τ14 => ((¬ r13 = 0 → rc 6 τ14 [a1] (fun _ τ16 => ((¬ τ16.1.1 = ((-1) : Int32) → wp_X7_ifStatement_126 rc  post τ16 r1 r11) ∧ (τ16.1.1 = ((-1) : Int32) → wp_X9_kind (τ16.1.2, τ16.2.1)  (fun r19 τ20 => ((¬ r19 = (9 : Int32) → wp_X7_ifStatement_126 rc  post ((τ16.1.1, τ20.1), (τ20.2, τ16.2.2)) r1 r11) ∧ (r19 = (9 : Int32) → wp_X9_place τ20  (fun r21 τ22 => wp_X4_add τ16.2.2 (19 : Int32) r21 r11 (fun r23 τ24 => wp_X4_keepValue τ24 r11 r23 (fun τ26 => wp_X9_next τ22  (fun τ28 => rc 6 ((τ16.1.1, τ28.1), (τ28.2, τ26)) [a1] (fun _ τ30 => wp_X7_ifStatement_126 rc  post τ30 r1 r11)))))))))))) ∧ (r13 = 0 → post τ14)))))) ∧ (r7 = 0 → post τ8))))))
theorem kX7_ifStatement {G : aw_G} {d : Nat} (hd : 3 ≤ d) {dg : Nat} (hdg : dg + 1 ≤ d) {rc : Nat → WSX7 → List Int32 → (Int32 → WSX7 → Prop) → Prop} (hrc : ∀ (k : Nat) (σ : WSX7) (xs : List Int32) (po : Int32 → WSX7 → Prop), rc k σ xs po → AC G (Mg_rd k) dg 0 0 17 (.ref 0 :: xs.map .int) (wX7 G σ) (aw_pv (wX7 G) (fun τ => po 0 τ))) {σ : WSX7} {a1 : Int32} {post : WSX7 → Prop} (h : wp_X7_ifStatement rc σ a1 post) : AC G MX7_ifStatement d 0 0 17 [.ref 0, .int a1] (wX7 G σ) (aw_pv (wX7 G) post) := by
  refine AC.of (lv := [(0, .ref 0), (1, .int a1)]) (by decide) (Nat.le_of_ble_eq_true rfl) rfl ?_
  unfold wp_X7_ifStatement at h
  refine aw_aload_n 0 dX7_ifStatement_0 rfl rfl ?_
  refine aw_getf (v := .ref 1) fX7_9 0 rfl rfl dX7_ifStatement_1 ?_
  refine aw_callV (mc1 := 0) (ms1 := 0) (mc := 0) (ms := 0) (st := []) (q := 1) (As := []) (vsc := []) lX7_46 insX9_place selX9_place ⟨TX9, 9, rfl⟩ (by omega) (kX9_place (d := 0) (by omega) h) [1, 2, 3, 5, 6, 7] rfl rfl rfl rfl rfl dX7_ifStatement_4 rfl rfl (fun _ _ hh => ?_)
  obtain ⟨r1, τ2, rfl, rfl, h⟩ := hh
  refine ⟨(wX7 G ((σ.1.1, τ2.1), (τ2.2, σ.2.2))), [.int r1], rfl, rfl, rfl, ?_⟩
  refine aw_istore_n (lv' := [(2, .int r1), (0, .ref 0), (1, .int a1)]) dX7_ifStatement_7 rfl (by decide) rfl ?_
  refine aw_aload_n 1 dX7_ifStatement_8 rfl rfl ?_
  refine aw_getf (v := .ref 4) fX7_15 0 rfl rfl dX7_ifStatement_9 ?_
  refine aw_bipush (v := (17 : Int32)) dX7_ifStatement_12 (by decide) ?_
  refine aw_iload_n 0 dX7_ifStatement_14 rfl rfl ?_
  refine aw_iconst (v := ((-1) : Int32)) dX7_ifStatement_15 (by decide) ?_
  refine aw_callV (mc1 := 0) (ms1 := 0) (mc := 0) (ms := 0) (st := []) (q := 4) (As := [.int (17 : Int32), .int r1, .int ((-1) : Int32)]) (vsc := [.int (17 : Int32), .int r1, .int ((-1) : Int32)]) lX7_59 insX4_add selX4_add ⟨TX4, 10, rfl⟩ (by omega) (kX4_add (d := 0) (by omega) h) [4, 8, 9, 10, 11, 12, 13, 14, 15, 16] rfl rfl rfl rfl rfl dX7_ifStatement_16 rfl rfl (fun _ _ hh => ?_)
  obtain ⟨r3, τ4, rfl, rfl, h⟩ := hh
  refine ⟨(wX7 G ((σ.1.1, τ2.1), (τ2.2, τ4))), [.int r3], rfl, rfl, rfl, ?_⟩
  refine aw_pop dX7_ifStatement_19 rfl ?_
  refine aw_aload_n 1 dX7_ifStatement_20 rfl rfl ?_
  refine aw_getf (v := .ref 1) fX7_9 0 rfl rfl dX7_ifStatement_21 ?_
  refine aw_callV (mc1 := 0) (ms1 := 0) (mc := 0) (ms := 0) (st := []) (q := 1) (As := []) (vsc := []) lX7_49 insX9_next selX9_next ⟨TX9, 9, rfl⟩ (by omega) (kX9_next (d := 1) (by omega) h) [1, 2, 3, 5, 6, 7] rfl rfl rfl rfl rfl dX7_ifStatement_24 rfl rfl (fun _ _ hh => ?_)
  obtain ⟨τ6, rfl, rfl, h⟩ := hh
  refine ⟨(wX7 G ((σ.1.1, τ6.1), (τ6.2, τ4))), [], rfl, rfl, rfl, ?_⟩
  refine aw_aload_n 1 dX7_ifStatement_27 rfl rfl ?_
  refine aw_bipush (v := (40 : Int32)) dX7_ifStatement_28 (by decide) ?_
  refine aw_callVT (mc1 := 0) (ms1 := 0) (mc := 0) (ms := 0) (st := []) (q := 0) (As := [.int (40 : Int32)]) lX7_38 insX7_take selX7_take ⟨TX7, 3, rfl⟩ (by omega) (kX7_take (d := 2) (by omega) h) (Nat.le_of_ble_eq_true rfl) rfl rfl rfl dX7_ifStatement_30 rfl (fun _ _ hh => ?_)
  obtain ⟨r7, τ8, rfl, rfl, h⟩ := hh
  refine aw_stk (st' := [.int r7]) rfl ?_
  refine aw_if_ne 37 dX7_ifStatement_33 (by decide) (fun c34 => ?_) (fun c34 => ?_)
  · have h := h.1 c34
    refine aw_aload_n 1 dX7_ifStatement_37 rfl rfl ?_
    refine aw_iload_n 2 dX7_ifStatement_38 rfl rfl ?_
    refine aw_callVT (mc1 := 0) (ms1 := 0) (mc := 0) (ms := 0) (st := []) (q := 0) (As := [.int a1]) lX7_85 insX7_expression selX7_expression ⟨TX7, 3, rfl⟩ (by omega) (hrc 7 _ [a1] _ h) (Nat.le_of_ble_eq_true rfl) rfl rfl rfl dX7_ifStatement_39 rfl (fun _ _ hh => ?_)
    obtain ⟨τ10, rfl, rfl, h⟩ := hh
    refine aw_stk (st' := []) rfl ?_
    refine aw_aload_n 1 dX7_ifStatement_42 rfl rfl ?_
    refine aw_getf (v := .ref 4) fX7_15 0 rfl rfl dX7_ifStatement_43 ?_
    refine aw_bipush (v := (18 : Int32)) dX7_ifStatement_46 (by decide) ?_
    refine aw_iload_n 0 dX7_ifStatement_48 rfl rfl ?_
    refine aw_iconst (v := ((-1) : Int32)) dX7_ifStatement_49 (by decide) ?_
    refine aw_callV (mc1 := 0) (ms1 := 0) (mc := 0) (ms := 0) (st := []) (q := 4) (As := [.int (18 : Int32), .int r1, .int ((-1) : Int32)]) (vsc := [.int (18 : Int32), .int r1, .int ((-1) : Int32)]) lX7_59 insX4_add selX4_add ⟨TX4, 10, rfl⟩ (by omega) (kX4_add (d := 0) (by omega) h) [4, 8, 9, 10, 11, 12, 13, 14, 15, 16] rfl rfl rfl rfl rfl dX7_ifStatement_50 rfl rfl (fun _ _ hh => ?_)
    obtain ⟨r11, τ12, rfl, rfl, h⟩ := hh
    refine ⟨(wX7 G (τ10.1, (τ10.2.1, τ12))), [.int r11], rfl, rfl, rfl, ?_⟩
    refine aw_istore_n (lv' := [(3, .int r11), (2, .int r1), (0, .ref 0), (1, .int a1)]) dX7_ifStatement_53 rfl (by decide) rfl ?_
    refine aw_aload_n 2 dX7_ifStatement_54 rfl rfl ?_
    refine aw_bipush (v := (41 : Int32)) dX7_ifStatement_55 (by decide) ?_
    refine aw_callVT (mc1 := 0) (ms1 := 0) (mc := 0) (ms := 0) (st := []) (q := 0) (As := [.int (41 : Int32)]) lX7_38 insX7_take selX7_take ⟨TX7, 3, rfl⟩ (by omega) (kX7_take (d := 2) (by omega) h) (Nat.le_of_ble_eq_true rfl) rfl rfl rfl dX7_ifStatement_57 rfl (fun _ _ hh => ?_)
    obtain ⟨r13, τ14, rfl, rfl, h⟩ := hh
    refine aw_stk (st' := [.int r13]) rfl ?_
    refine aw_if_ne 64 dX7_ifStatement_60 (by decide) (fun c33 => ?_) (fun c33 => ?_)
    · have h := h.1 c33
      refine aw_aload_n 2 dX7_ifStatement_64 rfl rfl ?_
      refine aw_iload_n 3 dX7_ifStatement_65 rfl rfl ?_
      refine aw_callVT (mc1 := 0) (ms1 := 0) (mc := 0) (ms := 0) (st := []) (q := 0) (As := [.int a1]) lX7_88 insX7_block selX7_block ⟨TX7, 3, rfl⟩ (by omega) (hrc 6 _ [a1] _ h) (Nat.le_of_ble_eq_true rfl) rfl rfl rfl dX7_ifStatement_66 rfl (fun _ _ hh => ?_)
      obtain ⟨τ16, rfl, rfl, h⟩ := hh
      refine aw_stk (st' := []) rfl ?_
      refine aw_aload_n 2 dX7_ifStatement_69 rfl rfl ?_
      refine aw_getf (v := .int τ16.1.1) fX7_19 0 rfl rfl dX7_ifStatement_70 ?_
      refine aw_iconst (v := ((-1) : Int32)) dX7_ifStatement_73 (by decide) ?_
      refine aw_icmp_ne 126 dX7_ifStatement_74 (by decide) (fun c32 => ?_) (fun c32 => ?_)
      · have h := h.1 c32
        refine aw_lvsub (lv' := [(0, .ref 0), (2, .int r1), (3, .int r11)]) [2, 1, 0] rfl ?_
        exact aw_X7_ifStatement_126 hd hdg hrc  h
      · have h := h.2 c32
        refine aw_aload_n 2 dX7_ifStatement_77 rfl rfl ?_
        refine aw_getf (v := .ref 1) fX7_9 0 rfl rfl dX7_ifStatement_78 ?_
        refine aw_callV (mc1 := 0) (ms1 := 0) (mc := 0) (ms := 0) (st := []) (q := 1) (As := []) (vsc := []) lX7_42 insX9_kind selX9_kind ⟨TX9, 9, rfl⟩ (by omega) (kX9_kind (d := 0) (by omega) h) [1, 2, 3, 5, 6, 7] rfl rfl rfl rfl rfl dX7_ifStatement_81 rfl rfl (fun _ _ hh => ?_)
        obtain ⟨r19, τ20, rfl, rfl, h⟩ := hh
        refine ⟨(wX7 G ((τ16.1.1, τ20.1), (τ20.2, τ16.2.2))), [.int r19], rfl, rfl, rfl, ?_⟩
        refine aw_bipush (v := (9 : Int32)) dX7_ifStatement_84 (by decide) ?_
        refine aw_icmp_ne 126 dX7_ifStatement_86 (by decide) (fun c31 => ?_) (fun c31 => ?_)
        · have h := h.1 c31
          refine aw_lvsub (lv' := [(0, .ref 0), (2, .int r1), (3, .int r11)]) [2, 1, 0] rfl ?_
          exact aw_X7_ifStatement_126 hd hdg hrc  h
        · have h := h.2 c31
          refine aw_aload_n 2 dX7_ifStatement_89 rfl rfl ?_
          refine aw_getf (v := .ref 4) fX7_15 0 rfl rfl dX7_ifStatement_90 ?_
          refine aw_iload_n 0 dX7_ifStatement_93 rfl rfl ?_
          refine aw_aload_n 2 dX7_ifStatement_94 rfl rfl ?_
          refine aw_getf (v := .ref 4) fX7_15 0 rfl rfl dX7_ifStatement_95 ?_
          refine aw_bipush (v := (19 : Int32)) dX7_ifStatement_98 (by decide) ?_
          refine aw_aload_n 2 dX7_ifStatement_100 rfl rfl ?_
          refine aw_getf (v := .ref 1) fX7_9 0 rfl rfl dX7_ifStatement_101 ?_
          refine aw_callV (mc1 := 0) (ms1 := 0) (mc := 0) (ms := 0) (st := [.int (19 : Int32), .ref 4, .int r11, .ref 4]) (q := 1) (As := []) (vsc := []) lX7_46 insX9_place selX9_place ⟨TX9, 9, rfl⟩ (by omega) (kX9_place (d := 0) (by omega) h) [1, 2, 3, 5, 6, 7] rfl rfl rfl rfl rfl dX7_ifStatement_104 rfl rfl (fun _ _ hh => ?_)
          obtain ⟨r21, τ22, rfl, rfl, h⟩ := hh
          refine ⟨(wX7 G ((τ16.1.1, τ22.1), (τ22.2, τ16.2.2))), [.int r21, .int (19 : Int32), .ref 4, .int r11, .ref 4], rfl, rfl, rfl, ?_⟩
          refine aw_iload_n 0 dX7_ifStatement_107 rfl rfl ?_
          refine aw_callV (mc1 := 0) (ms1 := 0) (mc := 0) (ms := 0) (st := [.int r11, .ref 4]) (q := 4) (As := [.int (19 : Int32), .int r21, .int r11]) (vsc := [.int (19 : Int32), .int r21, .int r11]) lX7_59 insX4_add selX4_add ⟨TX4, 10, rfl⟩ (by omega) (kX4_add (d := 0) (by omega) h) [4, 8, 9, 10, 11, 12, 13, 14, 15, 16] rfl rfl rfl rfl rfl dX7_ifStatement_108 rfl rfl (fun _ _ hh => ?_)
          obtain ⟨r23, τ24, rfl, rfl, h⟩ := hh
          refine ⟨(wX7 G ((τ16.1.1, τ22.1), (τ22.2, τ24))), [.int r23, .int r11, .ref 4], rfl, rfl, rfl, ?_⟩
          refine aw_callV (mc1 := 0) (ms1 := 0) (mc := 0) (ms := 0) (st := []) (q := 4) (As := [.int r11, .int r23]) (vsc := [.int r11, .int r23]) lX7_91 insX4_keepValue selX4_keepValue ⟨TX4, 10, rfl⟩ (by omega) (kX4_keepValue (d := 1) (by omega) h) [4, 8, 9, 10, 11, 12, 13, 14, 15, 16] rfl rfl rfl rfl rfl dX7_ifStatement_111 rfl rfl (fun _ _ hh => ?_)
          obtain ⟨τ26, rfl, rfl, h⟩ := hh
          refine ⟨(wX7 G ((τ16.1.1, τ22.1), (τ22.2, τ26))), [], rfl, rfl, rfl, ?_⟩
          refine aw_aload_n 2 dX7_ifStatement_114 rfl rfl ?_
          refine aw_getf (v := .ref 1) fX7_9 0 rfl rfl dX7_ifStatement_115 ?_
          refine aw_callV (mc1 := 0) (ms1 := 0) (mc := 0) (ms := 0) (st := []) (q := 1) (As := []) (vsc := []) lX7_49 insX9_next selX9_next ⟨TX9, 9, rfl⟩ (by omega) (kX9_next (d := 1) (by omega) h) [1, 2, 3, 5, 6, 7] rfl rfl rfl rfl rfl dX7_ifStatement_118 rfl rfl (fun _ _ hh => ?_)
          obtain ⟨τ28, rfl, rfl, h⟩ := hh
          refine ⟨(wX7 G ((τ16.1.1, τ28.1), (τ28.2, τ26))), [], rfl, rfl, rfl, ?_⟩
          refine aw_aload_n 2 dX7_ifStatement_121 rfl rfl ?_
          refine aw_iload_n 3 dX7_ifStatement_122 rfl rfl ?_
          refine aw_callVT (mc1 := 0) (ms1 := 0) (mc := 0) (ms := 0) (st := []) (q := 0) (As := [.int a1]) lX7_88 insX7_block selX7_block ⟨TX7, 3, rfl⟩ (by omega) (hrc 6 _ [a1] _ h) (Nat.le_of_ble_eq_true rfl) rfl rfl rfl dX7_ifStatement_123 rfl (fun _ _ hh => ?_)
          obtain ⟨τ30, rfl, rfl, h⟩ := hh
          refine aw_stk (st' := []) rfl ?_
          refine aw_lvsub (lv' := [(0, .ref 0), (2, .int r1), (3, .int r11)]) [2, 1, 0] rfl ?_
          exact aw_X7_ifStatement_126 hd hdg hrc  h
    · have h := h.2 c33
      exact aw_vret rfl dX7_ifStatement_63 ⟨τ14, rfl, rfl, h⟩
  · have h := h.2 c34
    exact aw_vret rfl dX7_ifStatement_36 ⟨τ8, rfl, rfl, h⟩
def wp_X7_whileStatement (rc : Nat → WSX7 → List Int32 → (Int32 → WSX7 → Prop) → Prop) (σ : WSX7) (a1 : Int32) (post : WSX7 → Prop) : Prop :=
  wp_X9_place (σ.1.2, σ.2.1)  (fun r1 τ2 => wp_X4_add σ.2.2 (21 : Int32) r1 ((-1) : Int32) (fun r3 τ4 => wp_X4_add τ4 (22 : Int32) r1 ((-1) : Int32) (fun r5 τ6 => wp_X9_next τ2  (fun τ8 => wp_X7_take ((σ.1.1, τ8.1), (τ8.2, τ6)) (40 : Int32) (fun r9 τ10 => ((¬ r9 = 0 → rc 7 τ10 [a1] (fun _ τ12 => wp_X4_add τ12.2.2 (23 : Int32) r1 r5 (fun r13 τ14 => wp_X7_take (τ12.1, (τ12.2.1, τ14)) (41 : Int32) (fun r15 τ16 => ((¬ r15 = 0 → rc 6 τ16 [a1] (fun _ τ18 => wp_X4_add τ18.2.2 (24 : Int32) r1 r13 (fun r19 τ20 => post (τ18.1, (τ18.2.1, τ20))))) ∧ (r15 = 0 → post τ16)))))) ∧ (r9 = 0 → post τ10)))))))
theorem kX7_whileStatement {G : aw_G} {d : Nat} (hd : 3 ≤ d) {dg : Nat} (hdg : dg + 1 ≤ d) {rc : Nat → WSX7 → List Int32 → (Int32 → WSX7 → Prop) → Prop} (hrc : ∀ (k : Nat) (σ : WSX7) (xs : List Int32) (po : Int32 → WSX7 → Prop), rc k σ xs po → AC G (Mg_rd k) dg 0 0 17 (.ref 0 :: xs.map .int) (wX7 G σ) (aw_pv (wX7 G) (fun τ => po 0 τ))) {σ : WSX7} {a1 : Int32} {post : WSX7 → Prop} (h : wp_X7_whileStatement rc σ a1 post) : AC G MX7_whileStatement d 0 0 17 [.ref 0, .int a1] (wX7 G σ) (aw_pv (wX7 G) post) := by
  refine AC.of (lv := [(0, .ref 0), (1, .int a1)]) (by decide) (Nat.le_of_ble_eq_true rfl) rfl ?_
  unfold wp_X7_whileStatement at h
  refine aw_aload_n 0 dX7_whileStatement_0 rfl rfl ?_
  refine aw_getf (v := .ref 1) fX7_9 0 rfl rfl dX7_whileStatement_1 ?_
  refine aw_callV (mc1 := 0) (ms1 := 0) (mc := 0) (ms := 0) (st := []) (q := 1) (As := []) (vsc := []) lX7_46 insX9_place selX9_place ⟨TX9, 9, rfl⟩ (by omega) (kX9_place (d := 0) (by omega) h) [1, 2, 3, 5, 6, 7] rfl rfl rfl rfl rfl dX7_whileStatement_4 rfl rfl (fun _ _ hh => ?_)
  obtain ⟨r1, τ2, rfl, rfl, h⟩ := hh
  refine ⟨(wX7 G ((σ.1.1, τ2.1), (τ2.2, σ.2.2))), [.int r1], rfl, rfl, rfl, ?_⟩
  refine aw_istore_n (lv' := [(2, .int r1), (0, .ref 0), (1, .int a1)]) dX7_whileStatement_7 rfl (by decide) rfl ?_
  refine aw_aload_n 1 dX7_whileStatement_8 rfl rfl ?_
  refine aw_getf (v := .ref 4) fX7_15 0 rfl rfl dX7_whileStatement_9 ?_
  refine aw_bipush (v := (21 : Int32)) dX7_whileStatement_12 (by decide) ?_
  refine aw_iload_n 0 dX7_whileStatement_14 rfl rfl ?_
  refine aw_iconst (v := ((-1) : Int32)) dX7_whileStatement_15 (by decide) ?_
  refine aw_callV (mc1 := 0) (ms1 := 0) (mc := 0) (ms := 0) (st := []) (q := 4) (As := [.int (21 : Int32), .int r1, .int ((-1) : Int32)]) (vsc := [.int (21 : Int32), .int r1, .int ((-1) : Int32)]) lX7_59 insX4_add selX4_add ⟨TX4, 10, rfl⟩ (by omega) (kX4_add (d := 0) (by omega) h) [4, 8, 9, 10, 11, 12, 13, 14, 15, 16] rfl rfl rfl rfl rfl dX7_whileStatement_16 rfl rfl (fun _ _ hh => ?_)
  obtain ⟨r3, τ4, rfl, rfl, h⟩ := hh
  refine ⟨(wX7 G ((σ.1.1, τ2.1), (τ2.2, τ4))), [.int r3], rfl, rfl, rfl, ?_⟩
  refine aw_pop dX7_whileStatement_19 rfl ?_
  refine aw_aload_n 1 dX7_whileStatement_20 rfl rfl ?_
  refine aw_getf (v := .ref 4) fX7_15 0 rfl rfl dX7_whileStatement_21 ?_
  refine aw_bipush (v := (22 : Int32)) dX7_whileStatement_24 (by decide) ?_
  refine aw_iload_n 0 dX7_whileStatement_26 rfl rfl ?_
  refine aw_iconst (v := ((-1) : Int32)) dX7_whileStatement_27 (by decide) ?_
  refine aw_callV (mc1 := 0) (ms1 := 0) (mc := 0) (ms := 0) (st := []) (q := 4) (As := [.int (22 : Int32), .int r1, .int ((-1) : Int32)]) (vsc := [.int (22 : Int32), .int r1, .int ((-1) : Int32)]) lX7_59 insX4_add selX4_add ⟨TX4, 10, rfl⟩ (by omega) (kX4_add (d := 0) (by omega) h) [4, 8, 9, 10, 11, 12, 13, 14, 15, 16] rfl rfl rfl rfl rfl dX7_whileStatement_28 rfl rfl (fun _ _ hh => ?_)
  obtain ⟨r5, τ6, rfl, rfl, h⟩ := hh
  refine ⟨(wX7 G ((σ.1.1, τ2.1), (τ2.2, τ6))), [.int r5], rfl, rfl, rfl, ?_⟩
  refine aw_istore_n (lv' := [(3, .int r5), (2, .int r1), (0, .ref 0), (1, .int a1)]) dX7_whileStatement_31 rfl (by decide) rfl ?_
  refine aw_aload_n 2 dX7_whileStatement_32 rfl rfl ?_
  refine aw_getf (v := .ref 1) fX7_9 0 rfl rfl dX7_whileStatement_33 ?_
  refine aw_callV (mc1 := 0) (ms1 := 0) (mc := 0) (ms := 0) (st := []) (q := 1) (As := []) (vsc := []) lX7_49 insX9_next selX9_next ⟨TX9, 9, rfl⟩ (by omega) (kX9_next (d := 1) (by omega) h) [1, 2, 3, 5, 6, 7] rfl rfl rfl rfl rfl dX7_whileStatement_36 rfl rfl (fun _ _ hh => ?_)
  obtain ⟨τ8, rfl, rfl, h⟩ := hh
  refine ⟨(wX7 G ((σ.1.1, τ8.1), (τ8.2, τ6))), [], rfl, rfl, rfl, ?_⟩
  refine aw_aload_n 2 dX7_whileStatement_39 rfl rfl ?_
  refine aw_bipush (v := (40 : Int32)) dX7_whileStatement_40 (by decide) ?_
  refine aw_callVT (mc1 := 0) (ms1 := 0) (mc := 0) (ms := 0) (st := []) (q := 0) (As := [.int (40 : Int32)]) lX7_38 insX7_take selX7_take ⟨TX7, 3, rfl⟩ (by omega) (kX7_take (d := 2) (by omega) h) (Nat.le_of_ble_eq_true rfl) rfl rfl rfl dX7_whileStatement_42 rfl (fun _ _ hh => ?_)
  obtain ⟨r9, τ10, rfl, rfl, h⟩ := hh
  refine aw_stk (st' := [.int r9]) rfl ?_
  refine aw_if_ne 49 dX7_whileStatement_45 (by decide) (fun c22 => ?_) (fun c22 => ?_)
  · have h := h.1 c22
    refine aw_aload_n 2 dX7_whileStatement_49 rfl rfl ?_
    refine aw_iload_n 3 dX7_whileStatement_50 rfl rfl ?_
    refine aw_callVT (mc1 := 0) (ms1 := 0) (mc := 0) (ms := 0) (st := []) (q := 0) (As := [.int a1]) lX7_85 insX7_expression selX7_expression ⟨TX7, 3, rfl⟩ (by omega) (hrc 7 _ [a1] _ h) (Nat.le_of_ble_eq_true rfl) rfl rfl rfl dX7_whileStatement_51 rfl (fun _ _ hh => ?_)
    obtain ⟨τ12, rfl, rfl, h⟩ := hh
    refine aw_stk (st' := []) rfl ?_
    refine aw_aload_n 2 dX7_whileStatement_54 rfl rfl ?_
    refine aw_getf (v := .ref 4) fX7_15 0 rfl rfl dX7_whileStatement_55 ?_
    refine aw_bipush (v := (23 : Int32)) dX7_whileStatement_58 (by decide) ?_
    refine aw_iload_n 1 dX7_whileStatement_60 rfl rfl ?_
    refine aw_iload_n 0 dX7_whileStatement_61 rfl rfl ?_
    refine aw_callV (mc1 := 0) (ms1 := 0) (mc := 0) (ms := 0) (st := []) (q := 4) (As := [.int (23 : Int32), .int r1, .int r5]) (vsc := [.int (23 : Int32), .int r1, .int r5]) lX7_59 insX4_add selX4_add ⟨TX4, 10, rfl⟩ (by omega) (kX4_add (d := 0) (by omega) h) [4, 8, 9, 10, 11, 12, 13, 14, 15, 16] rfl rfl rfl rfl rfl dX7_whileStatement_62 rfl rfl (fun _ _ hh => ?_)
    obtain ⟨r13, τ14, rfl, rfl, h⟩ := hh
    refine ⟨(wX7 G (τ12.1, (τ12.2.1, τ14))), [.int r13], rfl, rfl, rfl, ?_⟩
    refine aw_istore (lv' := [(4, .int r13), (3, .int r5), (2, .int r1), (0, .ref 0), (1, .int a1)]) dX7_whileStatement_65 (by decide) rfl ?_
    refine aw_aload_n 3 dX7_whileStatement_67 rfl rfl ?_
    refine aw_bipush (v := (41 : Int32)) dX7_whileStatement_68 (by decide) ?_
    refine aw_callVT (mc1 := 0) (ms1 := 0) (mc := 0) (ms := 0) (st := []) (q := 0) (As := [.int (41 : Int32)]) lX7_38 insX7_take selX7_take ⟨TX7, 3, rfl⟩ (by omega) (kX7_take (d := 2) (by omega) h) (Nat.le_of_ble_eq_true rfl) rfl rfl rfl dX7_whileStatement_70 rfl (fun _ _ hh => ?_)
    obtain ⟨r15, τ16, rfl, rfl, h⟩ := hh
    refine aw_stk (st' := [.int r15]) rfl ?_
    refine aw_if_ne 77 dX7_whileStatement_73 (by decide) (fun c21 => ?_) (fun c21 => ?_)
    · have h := h.1 c21
      refine aw_aload_n 3 dX7_whileStatement_77 rfl rfl ?_
      refine aw_iload_n 4 dX7_whileStatement_78 rfl rfl ?_
      refine aw_callVT (mc1 := 0) (ms1 := 0) (mc := 0) (ms := 0) (st := []) (q := 0) (As := [.int a1]) lX7_88 insX7_block selX7_block ⟨TX7, 3, rfl⟩ (by omega) (hrc 6 _ [a1] _ h) (Nat.le_of_ble_eq_true rfl) rfl rfl rfl dX7_whileStatement_79 rfl (fun _ _ hh => ?_)
      obtain ⟨τ18, rfl, rfl, h⟩ := hh
      refine aw_stk (st' := []) rfl ?_
      refine aw_aload_n 3 dX7_whileStatement_82 rfl rfl ?_
      refine aw_getf (v := .ref 4) fX7_15 0 rfl rfl dX7_whileStatement_83 ?_
      refine aw_bipush (v := (24 : Int32)) dX7_whileStatement_86 (by decide) ?_
      refine aw_iload_n 2 dX7_whileStatement_88 rfl rfl ?_
      refine aw_iload 0 dX7_whileStatement_89 rfl ?_
      refine aw_callV (mc1 := 0) (ms1 := 0) (mc := 0) (ms := 0) (st := []) (q := 4) (As := [.int (24 : Int32), .int r1, .int r13]) (vsc := [.int (24 : Int32), .int r1, .int r13]) lX7_59 insX4_add selX4_add ⟨TX4, 10, rfl⟩ (by omega) (kX4_add (d := 0) (by omega) h) [4, 8, 9, 10, 11, 12, 13, 14, 15, 16] rfl rfl rfl rfl rfl dX7_whileStatement_91 rfl rfl (fun _ _ hh => ?_)
      obtain ⟨r19, τ20, rfl, rfl, h⟩ := hh
      refine ⟨(wX7 G (τ18.1, (τ18.2.1, τ20))), [.int r19], rfl, rfl, rfl, ?_⟩
      refine aw_pop dX7_whileStatement_94 rfl ?_
      exact aw_vret rfl dX7_whileStatement_95 ⟨(τ18.1, (τ18.2.1, τ20)), rfl, rfl, h⟩
    · have h := h.2 c21
      exact aw_vret rfl dX7_whileStatement_76 ⟨τ16, rfl, rfl, h⟩
  · have h := h.2 c22
    exact aw_vret rfl dX7_whileStatement_48 ⟨τ10, rfl, rfl, h⟩
def wp_X7_outStatement (rc : Nat → WSX7 → List Int32 → (Int32 → WSX7 → Prop) → Prop) (σ : WSX7) (a1 : Int32) (post : WSX7 → Prop) : Prop :=
  wp_X9_place (σ.1.2, σ.2.1)  (fun r1 τ2 => wp_X4_add σ.2.2 (25 : Int32) r1 ((-1) : Int32) (fun r3 τ4 => wp_X9_next τ2  (fun τ6 => rc 7 ((σ.1.1, τ6.1), (τ6.2, τ4)) [a1] (fun _ τ8 => wp_X4_add τ8.2.2 (26 : Int32) r1 ((-1) : Int32) (fun r9 τ10 => wp_X7_take (τ8.1, (τ8.2.1, τ10)) (59 : Int32) (fun r11 τ12 => post τ12))))))
theorem kX7_outStatement {G : aw_G} {d : Nat} (hd : 3 ≤ d) {dg : Nat} (hdg : dg + 1 ≤ d) {rc : Nat → WSX7 → List Int32 → (Int32 → WSX7 → Prop) → Prop} (hrc : ∀ (k : Nat) (σ : WSX7) (xs : List Int32) (po : Int32 → WSX7 → Prop), rc k σ xs po → AC G (Mg_rd k) dg 0 0 17 (.ref 0 :: xs.map .int) (wX7 G σ) (aw_pv (wX7 G) (fun τ => po 0 τ))) {σ : WSX7} {a1 : Int32} {post : WSX7 → Prop} (h : wp_X7_outStatement rc σ a1 post) : AC G MX7_outStatement d 0 0 17 [.ref 0, .int a1] (wX7 G σ) (aw_pv (wX7 G) post) := by
  refine AC.of (lv := [(0, .ref 0), (1, .int a1)]) (by decide) (Nat.le_of_ble_eq_true rfl) rfl ?_
  unfold wp_X7_outStatement at h
  refine aw_aload_n 0 dX7_outStatement_0 rfl rfl ?_
  refine aw_getf (v := .ref 1) fX7_9 0 rfl rfl dX7_outStatement_1 ?_
  refine aw_callV (mc1 := 0) (ms1 := 0) (mc := 0) (ms := 0) (st := []) (q := 1) (As := []) (vsc := []) lX7_46 insX9_place selX9_place ⟨TX9, 9, rfl⟩ (by omega) (kX9_place (d := 0) (by omega) h) [1, 2, 3, 5, 6, 7] rfl rfl rfl rfl rfl dX7_outStatement_4 rfl rfl (fun _ _ hh => ?_)
  obtain ⟨r1, τ2, rfl, rfl, h⟩ := hh
  refine ⟨(wX7 G ((σ.1.1, τ2.1), (τ2.2, σ.2.2))), [.int r1], rfl, rfl, rfl, ?_⟩
  refine aw_istore_n (lv' := [(2, .int r1), (0, .ref 0), (1, .int a1)]) dX7_outStatement_7 rfl (by decide) rfl ?_
  refine aw_aload_n 1 dX7_outStatement_8 rfl rfl ?_
  refine aw_getf (v := .ref 4) fX7_15 0 rfl rfl dX7_outStatement_9 ?_
  refine aw_bipush (v := (25 : Int32)) dX7_outStatement_12 (by decide) ?_
  refine aw_iload_n 0 dX7_outStatement_14 rfl rfl ?_
  refine aw_iconst (v := ((-1) : Int32)) dX7_outStatement_15 (by decide) ?_
  refine aw_callV (mc1 := 0) (ms1 := 0) (mc := 0) (ms := 0) (st := []) (q := 4) (As := [.int (25 : Int32), .int r1, .int ((-1) : Int32)]) (vsc := [.int (25 : Int32), .int r1, .int ((-1) : Int32)]) lX7_59 insX4_add selX4_add ⟨TX4, 10, rfl⟩ (by omega) (kX4_add (d := 0) (by omega) h) [4, 8, 9, 10, 11, 12, 13, 14, 15, 16] rfl rfl rfl rfl rfl dX7_outStatement_16 rfl rfl (fun _ _ hh => ?_)
  obtain ⟨r3, τ4, rfl, rfl, h⟩ := hh
  refine ⟨(wX7 G ((σ.1.1, τ2.1), (τ2.2, τ4))), [.int r3], rfl, rfl, rfl, ?_⟩
  refine aw_pop dX7_outStatement_19 rfl ?_
  refine aw_aload_n 1 dX7_outStatement_20 rfl rfl ?_
  refine aw_getf (v := .ref 1) fX7_9 0 rfl rfl dX7_outStatement_21 ?_
  refine aw_callV (mc1 := 0) (ms1 := 0) (mc := 0) (ms := 0) (st := []) (q := 1) (As := []) (vsc := []) lX7_49 insX9_next selX9_next ⟨TX9, 9, rfl⟩ (by omega) (kX9_next (d := 1) (by omega) h) [1, 2, 3, 5, 6, 7] rfl rfl rfl rfl rfl dX7_outStatement_24 rfl rfl (fun _ _ hh => ?_)
  obtain ⟨τ6, rfl, rfl, h⟩ := hh
  refine ⟨(wX7 G ((σ.1.1, τ6.1), (τ6.2, τ4))), [], rfl, rfl, rfl, ?_⟩
  refine aw_aload_n 1 dX7_outStatement_27 rfl rfl ?_
  refine aw_iload_n 2 dX7_outStatement_28 rfl rfl ?_
  refine aw_callVT (mc1 := 0) (ms1 := 0) (mc := 0) (ms := 0) (st := []) (q := 0) (As := [.int a1]) lX7_85 insX7_expression selX7_expression ⟨TX7, 3, rfl⟩ (by omega) (hrc 7 _ [a1] _ h) (Nat.le_of_ble_eq_true rfl) rfl rfl rfl dX7_outStatement_29 rfl (fun _ _ hh => ?_)
  obtain ⟨τ8, rfl, rfl, h⟩ := hh
  refine aw_stk (st' := []) rfl ?_
  refine aw_aload_n 1 dX7_outStatement_32 rfl rfl ?_
  refine aw_getf (v := .ref 4) fX7_15 0 rfl rfl dX7_outStatement_33 ?_
  refine aw_bipush (v := (26 : Int32)) dX7_outStatement_36 (by decide) ?_
  refine aw_iload_n 0 dX7_outStatement_38 rfl rfl ?_
  refine aw_iconst (v := ((-1) : Int32)) dX7_outStatement_39 (by decide) ?_
  refine aw_callV (mc1 := 0) (ms1 := 0) (mc := 0) (ms := 0) (st := []) (q := 4) (As := [.int (26 : Int32), .int r1, .int ((-1) : Int32)]) (vsc := [.int (26 : Int32), .int r1, .int ((-1) : Int32)]) lX7_59 insX4_add selX4_add ⟨TX4, 10, rfl⟩ (by omega) (kX4_add (d := 0) (by omega) h) [4, 8, 9, 10, 11, 12, 13, 14, 15, 16] rfl rfl rfl rfl rfl dX7_outStatement_40 rfl rfl (fun _ _ hh => ?_)
  obtain ⟨r9, τ10, rfl, rfl, h⟩ := hh
  refine ⟨(wX7 G (τ8.1, (τ8.2.1, τ10))), [.int r9], rfl, rfl, rfl, ?_⟩
  refine aw_pop dX7_outStatement_43 rfl ?_
  refine aw_aload_n 1 dX7_outStatement_44 rfl rfl ?_
  refine aw_bipush (v := (59 : Int32)) dX7_outStatement_45 (by decide) ?_
  refine aw_callVT (mc1 := 0) (ms1 := 0) (mc := 0) (ms := 0) (st := []) (q := 0) (As := [.int (59 : Int32)]) lX7_38 insX7_take selX7_take ⟨TX7, 3, rfl⟩ (by omega) (kX7_take (d := 2) (by omega) h) (Nat.le_of_ble_eq_true rfl) rfl rfl rfl dX7_outStatement_47 rfl (fun _ _ hh => ?_)
  obtain ⟨r11, τ12, rfl, rfl, h⟩ := hh
  refine aw_stk (st' := [.int r11]) rfl ?_
  refine aw_pop dX7_outStatement_50 rfl ?_
  exact aw_vret rfl dX7_outStatement_51 ⟨τ12, rfl, rfl, h⟩
def wp_X7_block_10 (rc : Nat → WSX7 → List Int32 → (Int32 → WSX7 → Prop) → Prop)  (post : WSX7 → Prop) (σ : WSX7) (x1 : Int32) : Prop :=
  wp_X7_take σ (123 : Int32) (fun r1 τ2 => ((r1 = 0 → post τ2) ∧ (¬ r1 = 0 → rc 0 τ2 [(x1 + (1 : Int32))] (fun _ τ4 => wp_X7_take τ4 (125 : Int32) (fun r5 τ6 => post τ6)))))
theorem aw_X7_block_10 {G : aw_G} {d : Nat} (hd : 3 ≤ d) {dg : Nat} (hdg : dg + 1 ≤ d) {rc : Nat → WSX7 → List Int32 → (Int32 → WSX7 → Prop) → Prop} (hrc : ∀ (k : Nat) (σ : WSX7) (xs : List Int32) (po : Int32 → WSX7 → Prop), rc k σ xs po → AC G (Mg_rd k) dg 0 0 17 (.ref 0 :: xs.map .int) (wX7 G σ) (aw_pv (wX7 G) (fun τ => po 0 τ))) {post : WSX7 → Prop}  {σ : WSX7} {x1 : Int32} (h : wp_X7_block_10 rc  post σ x1) : AW G MX7_block d 0 0 17 (aw_pv (wX7 G) post) 10 [(0, .ref 0), (1, .int x1)] [] (wX7 G σ) := by
  unfold wp_X7_block_10 at h
  refine aw_aload_n 0 dX7_block_10 rfl rfl ?_
  refine aw_bipush (v := (123 : Int32)) dX7_block_11 (by decide) ?_
  refine aw_callVT (mc1 := 0) (ms1 := 0) (mc := 0) (ms := 0) (st := []) (q := 0) (As := [.int (123 : Int32)]) lX7_38 insX7_take selX7_take ⟨TX7, 3, rfl⟩ (by omega) (kX7_take (d := 2) (by omega) h) (Nat.le_of_ble_eq_true rfl) rfl rfl rfl dX7_block_13 rfl (fun _ _ hh => ?_)
  obtain ⟨r1, τ2, rfl, rfl, h⟩ := hh
  refine aw_stk (st' := [.int r1]) rfl ?_
  refine aw_if_eq 33 dX7_block_16 (by decide) (fun c7 => ?_) (fun c7 => ?_)
  · have h := h.1 c7
    exact aw_vret rfl dX7_block_33 ⟨τ2, rfl, rfl, h⟩
  · have h := h.2 c7
    refine aw_aload_n 0 dX7_block_19 rfl rfl ?_
    refine aw_iload_n 1 dX7_block_20 rfl rfl ?_
    refine aw_iconst (v := (1 : Int32)) dX7_block_21 (by decide) ?_
    refine aw_iadd dX7_block_22 ?_
    refine aw_callVT (mc1 := 0) (ms1 := 0) (mc := 0) (ms := 0) (st := []) (q := 0) (As := [.int (x1 + (1 : Int32))]) lX7_32 insX7_statements selX7_statements ⟨TX7, 3, rfl⟩ (by omega) (hrc 0 _ [(x1 + (1 : Int32))] _ h) (Nat.le_of_ble_eq_true rfl) rfl rfl rfl dX7_block_23 rfl (fun _ _ hh => ?_)
    obtain ⟨τ4, rfl, rfl, h⟩ := hh
    refine aw_stk (st' := []) rfl ?_
    refine aw_aload_n 0 dX7_block_26 rfl rfl ?_
    refine aw_bipush (v := (125 : Int32)) dX7_block_27 (by decide) ?_
    refine aw_callVT (mc1 := 0) (ms1 := 0) (mc := 0) (ms := 0) (st := []) (q := 0) (As := [.int (125 : Int32)]) lX7_38 insX7_take selX7_take ⟨TX7, 3, rfl⟩ (by omega) (kX7_take (d := 2) (by omega) h) (Nat.le_of_ble_eq_true rfl) rfl rfl rfl dX7_block_29 rfl (fun _ _ hh => ?_)
    obtain ⟨r5, τ6, rfl, rfl, h⟩ := hh
    refine aw_stk (st' := [.int r5]) rfl ?_
    refine aw_pop dX7_block_32 rfl ?_
    exact aw_vret rfl dX7_block_33 ⟨τ6, rfl, rfl, h⟩
def wp_X7_block (rc : Nat → WSX7 → List Int32 → (Int32 → WSX7 → Prop) → Prop) (σ : WSX7) (a1 : Int32) (post : WSX7 → Prop) : Prop :=
  ((a1 ≤ (30 : Int32) → wp_X7_block_10 rc  post σ a1) ∧ (¬ a1 ≤ (30 : Int32) → wp_X7_fail σ  (fun τ9 => wp_X7_block_10 rc  post τ9 a1)))
theorem kX7_block {G : aw_G} {d : Nat} (hd : 3 ≤ d) {dg : Nat} (hdg : dg + 1 ≤ d) {rc : Nat → WSX7 → List Int32 → (Int32 → WSX7 → Prop) → Prop} (hrc : ∀ (k : Nat) (σ : WSX7) (xs : List Int32) (po : Int32 → WSX7 → Prop), rc k σ xs po → AC G (Mg_rd k) dg 0 0 17 (.ref 0 :: xs.map .int) (wX7 G σ) (aw_pv (wX7 G) (fun τ => po 0 τ))) {σ : WSX7} {a1 : Int32} {post : WSX7 → Prop} (h : wp_X7_block rc σ a1 post) : AC G MX7_block d 0 0 17 [.ref 0, .int a1] (wX7 G σ) (aw_pv (wX7 G) post) := by
  refine AC.of (lv := [(0, .ref 0), (1, .int a1)]) (by decide) (Nat.le_of_ble_eq_true rfl) rfl ?_
  unfold wp_X7_block at h
  refine aw_iload_n 1 dX7_block_0 rfl rfl ?_
  refine aw_bipush (v := (30 : Int32)) dX7_block_1 (by decide) ?_
  refine aw_icmp_le 10 dX7_block_3 (by decide) (fun c10 => ?_) (fun c10 => ?_)
  · have h := h.1 c10
    exact aw_X7_block_10 hd hdg hrc  h
  · have h := h.2 c10
    refine aw_aload_n 0 dX7_block_6 rfl rfl ?_
    refine aw_callVT (mc1 := 0) (ms1 := 0) (mc := 0) (ms := 0) (st := []) (q := 0) (As := []) lX7_52 insX7_fail selX7_fail ⟨TX7, 3, rfl⟩ (by omega) (kX7_fail (d := 1) (by omega) h) (Nat.le_of_ble_eq_true rfl) rfl rfl rfl dX7_block_7 rfl (fun _ _ hh => ?_)
    obtain ⟨τ9, rfl, rfl, h⟩ := hh
    refine aw_stk (st' := []) rfl ?_
    exact aw_X7_block_10 hd hdg hrc  h
def wp_X7_expression_10 (rc : Nat → WSX7 → List Int32 → (Int32 → WSX7 → Prop) → Prop)  (post : WSX7 → Prop) (σ : WSX7) (x1 : Int32) : Prop :=
  rc 8 σ [(0 : Int32), x1] (fun _ τ2 => post τ2)
theorem aw_X7_expression_10 {G : aw_G} {d : Nat} (hd : 2 ≤ d) {dg : Nat} (hdg : dg + 1 ≤ d) {rc : Nat → WSX7 → List Int32 → (Int32 → WSX7 → Prop) → Prop} (hrc : ∀ (k : Nat) (σ : WSX7) (xs : List Int32) (po : Int32 → WSX7 → Prop), rc k σ xs po → AC G (Mg_rd k) dg 0 0 17 (.ref 0 :: xs.map .int) (wX7 G σ) (aw_pv (wX7 G) (fun τ => po 0 τ))) {post : WSX7 → Prop}  {σ : WSX7} {x1 : Int32} (h : wp_X7_expression_10 rc  post σ x1) : AW G MX7_expression d 0 0 17 (aw_pv (wX7 G) post) 10 [(0, .ref 0), (1, .int x1)] [] (wX7 G σ) := by
  unfold wp_X7_expression_10 at h
  refine aw_aload_n 0 dX7_expression_10 rfl rfl ?_
  refine aw_iconst (v := (0 : Int32)) dX7_expression_11 (by decide) ?_
  refine aw_iload_n 1 dX7_expression_12 rfl rfl ?_
  refine aw_callVT (mc1 := 0) (ms1 := 0) (mc := 0) (ms := 0) (st := []) (q := 0) (As := [.int (0 : Int32), .int x1]) lX7_94 insX7_parts selX7_parts ⟨TX7, 3, rfl⟩ (by omega) (hrc 8 _ [(0 : Int32), x1] _ h) (Nat.le_of_ble_eq_true rfl) rfl rfl rfl dX7_expression_13 rfl (fun _ _ hh => ?_)
  obtain ⟨τ2, rfl, rfl, h⟩ := hh
  refine aw_stk (st' := []) rfl ?_
  exact aw_vret rfl dX7_expression_16 ⟨τ2, rfl, rfl, h⟩
def wp_X7_expression (rc : Nat → WSX7 → List Int32 → (Int32 → WSX7 → Prop) → Prop) (σ : WSX7) (a1 : Int32) (post : WSX7 → Prop) : Prop :=
  ((a1 ≤ (30 : Int32) → wp_X7_expression_10 rc  post σ a1) ∧ (¬ a1 ≤ (30 : Int32) → wp_X7_fail σ  (fun τ4 => wp_X7_expression_10 rc  post τ4 a1)))
theorem kX7_expression {G : aw_G} {d : Nat} (hd : 2 ≤ d) {dg : Nat} (hdg : dg + 1 ≤ d) {rc : Nat → WSX7 → List Int32 → (Int32 → WSX7 → Prop) → Prop} (hrc : ∀ (k : Nat) (σ : WSX7) (xs : List Int32) (po : Int32 → WSX7 → Prop), rc k σ xs po → AC G (Mg_rd k) dg 0 0 17 (.ref 0 :: xs.map .int) (wX7 G σ) (aw_pv (wX7 G) (fun τ => po 0 τ))) {σ : WSX7} {a1 : Int32} {post : WSX7 → Prop} (h : wp_X7_expression rc σ a1 post) : AC G MX7_expression d 0 0 17 [.ref 0, .int a1] (wX7 G σ) (aw_pv (wX7 G) post) := by
  refine AC.of (lv := [(0, .ref 0), (1, .int a1)]) (by decide) (Nat.le_of_ble_eq_true rfl) rfl ?_
  unfold wp_X7_expression at h
  refine aw_iload_n 1 dX7_expression_0 rfl rfl ?_
  refine aw_bipush (v := (30 : Int32)) dX7_expression_1 (by decide) ?_
  refine aw_icmp_le 10 dX7_expression_3 (by decide) (fun c5 => ?_) (fun c5 => ?_)
  · have h := h.1 c5
    exact aw_X7_expression_10 hd hdg hrc  h
  · have h := h.2 c5
    refine aw_aload_n 0 dX7_expression_6 rfl rfl ?_
    refine aw_callVT (mc1 := 0) (ms1 := 0) (mc := 0) (ms := 0) (st := []) (q := 0) (As := []) lX7_52 insX7_fail selX7_fail ⟨TX7, 3, rfl⟩ (by omega) (kX7_fail (d := 1) (by omega) h) (Nat.le_of_ble_eq_true rfl) rfl rfl rfl dX7_expression_7 rfl (fun _ _ hh => ?_)
    obtain ⟨τ4, rfl, rfl, h⟩ := hh
    refine aw_stk (st' := []) rfl ?_
    exact aw_X7_expression_10 hd hdg hrc  h
def wb_X7_parts_9 (rc : Nat → WSX7 → List Int32 → (Int32 → WSX7 → Prop) → Prop)  (post : WSX7 → Prop) (rec_9 : WSX7 × Int32 × Int32 × Int32 → Prop) (σ : WSX7) (x1 : Int32) (x2 : Int32) (x3 : Int32) : Prop :=
  (((3000 : Int32) ≤ x3 → post σ) ∧ (¬ (3000 : Int32) ≤ x3 → ((¬ σ.1.1 = ((-1) : Int32) → post σ) ∧ (σ.1.1 = ((-1) : Int32) → wp_X9_kind (σ.1.2, σ.2.1)  (fun r3 τ4 => wp_X9_place τ4  (fun r5 τ6 => wp_X4_level r3 (fun r7 τ8 => ((x1 ≤ r7 → wp_X9_next τ6  (fun τ10 => rc 8 ((σ.1.1, τ10.1), (τ10.2, σ.2.2)) [(r7 + (1 : Int32)), x2] (fun _ τ12 => wp_X4_addPair τ12.2.2 r3 r5 (fun τ14 => rec_9 ((τ12.1, (τ12.2.1, τ14)), x1, x2, (x3 + 1)))))) ∧ (¬ x1 ≤ r7 → post ((σ.1.1, τ6.1), (τ6.2, σ.2.2)))))))))))
def wp_X7_parts_9 (rc : Nat → WSX7 → List Int32 → (Int32 → WSX7 → Prop) → Prop)  (post : WSX7 → Prop) (n : Nat) (σ : WSX7) (x1 : Int32) (x2 : Int32) (x3 : Int32) : Prop := aw_loop (fun r (a : WSX7 × Int32 × Int32 × Int32) => wb_X7_parts_9 rc  post r a.1 a.2.1 a.2.2.1 a.2.2.2) n (σ, x1, x2, x3)
theorem aw_X7_parts_9 {G : aw_G} {d : Nat} (hd : 3 ≤ d) {dg : Nat} (hdg : dg + 1 ≤ d) {rc : Nat → WSX7 → List Int32 → (Int32 → WSX7 → Prop) → Prop} (hrc : ∀ (k : Nat) (σ : WSX7) (xs : List Int32) (po : Int32 → WSX7 → Prop), rc k σ xs po → AC G (Mg_rd k) dg 0 0 17 (.ref 0 :: xs.map .int) (wX7 G σ) (aw_pv (wX7 G) (fun τ => po 0 τ))) {post : WSX7 → Prop}  : ∀ (n : Nat) (σ : WSX7) (x1 : Int32) (x2 : Int32) (x3 : Int32), wp_X7_parts_9 rc  post n σ x1 x2 x3 → AW G MX7_parts d 0 0 17 (aw_pv (wX7 G) post) 9 [(0, .ref 0), (1, .int x1), (2, .int x2), (3, .int x3)] [] (wX7 G σ) := by
  intro n
  induction n with
  | zero => intro σ x1 x2 x3 h; exact h.elim
  | succ n ih =>
    intro σ x1 x2 x3 h
    have hrec_9 : ∀ a : WSX7 × Int32 × Int32 × Int32, aw_loop (fun r (a : WSX7 × Int32 × Int32 × Int32) => wb_X7_parts_9 rc  post r a.1 a.2.1 a.2.2.1 a.2.2.2) n a → AW G MX7_parts d 0 0 17 (aw_pv (wX7 G) post) 9 [(0, .ref 0), (1, .int a.2.1), (2, .int a.2.2.1), (3, .int a.2.2.2)] [] (wX7 G a.1) := fun a h => ih a.1 a.2.1 a.2.2.1 a.2.2.2 h
    have h : wb_X7_parts_9 rc  post (aw_loop (fun r (a : WSX7 × Int32 × Int32 × Int32) => wb_X7_parts_9 rc  post r a.1 a.2.1 a.2.2.1 a.2.2.2) n) σ x1 x2 x3 := h
    unfold wb_X7_parts_9 at h
    refine aw_iload_n 3 dX7_parts_9 rfl rfl ?_
    refine aw_sipush (v := (3000 : Int32)) dX7_parts_10 (by decide) ?_
    refine aw_icmp_ge 89 dX7_parts_13 (by decide) (fun c17 => ?_) (fun c17 => ?_)
    · have h := h.1 c17
      exact aw_vret rfl dX7_parts_89 ⟨σ, rfl, rfl, h⟩
    · have h := h.2 c17
      refine aw_aload_n 0 dX7_parts_16 rfl rfl ?_
      refine aw_getf (v := .int σ.1.1) fX7_19 0 rfl rfl dX7_parts_17 ?_
      refine aw_iconst (v := ((-1) : Int32)) dX7_parts_20 (by decide) ?_
      refine aw_icmp_ne 89 dX7_parts_21 (by decide) (fun c16 => ?_) (fun c16 => ?_)
      · have h := h.1 c16
        exact aw_vret rfl dX7_parts_89 ⟨σ, rfl, rfl, h⟩
      · have h := h.2 c16
        refine aw_aload_n 0 dX7_parts_24 rfl rfl ?_
        refine aw_getf (v := .ref 1) fX7_9 0 rfl rfl dX7_parts_25 ?_
        refine aw_callV (mc1 := 0) (ms1 := 0) (mc := 0) (ms := 0) (st := []) (q := 1) (As := []) (vsc := []) lX7_42 insX9_kind selX9_kind ⟨TX9, 9, rfl⟩ (by omega) (kX9_kind (d := 0) (by omega) h) [1, 2, 3, 5, 6, 7] rfl rfl rfl rfl rfl dX7_parts_28 rfl rfl (fun _ _ hh => ?_)
        obtain ⟨r3, τ4, rfl, rfl, h⟩ := hh
        refine ⟨(wX7 G ((σ.1.1, τ4.1), (τ4.2, σ.2.2))), [.int r3], rfl, rfl, rfl, ?_⟩
        refine aw_istore (lv' := [(4, .int r3), (0, .ref 0), (1, .int x1), (2, .int x2), (3, .int x3)]) dX7_parts_31 (by decide) rfl ?_
        refine aw_aload_n 1 dX7_parts_33 rfl rfl ?_
        refine aw_getf (v := .ref 1) fX7_9 0 rfl rfl dX7_parts_34 ?_
        refine aw_callV (mc1 := 0) (ms1 := 0) (mc := 0) (ms := 0) (st := []) (q := 1) (As := []) (vsc := []) lX7_46 insX9_place selX9_place ⟨TX9, 9, rfl⟩ (by omega) (kX9_place (d := 0) (by omega) h) [1, 2, 3, 5, 6, 7] rfl rfl rfl rfl rfl dX7_parts_37 rfl rfl (fun _ _ hh => ?_)
        obtain ⟨r5, τ6, rfl, rfl, h⟩ := hh
        refine ⟨(wX7 G ((σ.1.1, τ6.1), (τ6.2, σ.2.2))), [.int r5], rfl, rfl, rfl, ?_⟩
        refine aw_istore (lv' := [(5, .int r5), (4, .int r3), (0, .ref 0), (1, .int x1), (2, .int x2), (3, .int x3)]) dX7_parts_40 (by decide) rfl ?_
        refine aw_iload 1 dX7_parts_42 rfl ?_
        refine aw_callST (st := []) (As := [.int r3]) lX7_100 sttX4_level (by omega) (kX4_level (d := 0) (by omega) h) rfl rfl rfl dX7_parts_44 rfl (fun _ _ hh => ?_)
        obtain ⟨r7, τ8, rfl, rfl, h⟩ := hh
        refine ⟨rfl, (fun x hx => by cases hx; rfl), ?_⟩
        refine aw_stk (st' := [.int r7]) rfl ?_
        refine aw_istore (lv' := [(6, .int r7), (5, .int r5), (4, .int r3), (0, .ref 0), (1, .int x1), (2, .int x2), (3, .int x3)]) dX7_parts_47 (by decide) rfl ?_
        refine aw_iload 0 dX7_parts_49 rfl ?_
        refine aw_iload_n 4 dX7_parts_51 rfl rfl ?_
        refine aw_icmp_ge 56 dX7_parts_52 (by decide) (fun c15 => ?_) (fun c15 => ?_)
        · have h := h.1 c15
          refine aw_aload_n 3 dX7_parts_56 rfl rfl ?_
          refine aw_getf (v := .ref 1) fX7_9 0 rfl rfl dX7_parts_57 ?_
          refine aw_callV (mc1 := 0) (ms1 := 0) (mc := 0) (ms := 0) (st := []) (q := 1) (As := []) (vsc := []) lX7_49 insX9_next selX9_next ⟨TX9, 9, rfl⟩ (by omega) (kX9_next (d := 1) (by omega) h) [1, 2, 3, 5, 6, 7] rfl rfl rfl rfl rfl dX7_parts_60 rfl rfl (fun _ _ hh => ?_)
          obtain ⟨τ10, rfl, rfl, h⟩ := hh
          refine ⟨(wX7 G ((σ.1.1, τ10.1), (τ10.2, σ.2.2))), [], rfl, rfl, rfl, ?_⟩
          refine aw_aload_n 3 dX7_parts_63 rfl rfl ?_
          refine aw_iload 0 dX7_parts_64 rfl ?_
          refine aw_iconst (v := (1 : Int32)) dX7_parts_66 (by decide) ?_
          refine aw_iadd dX7_parts_67 ?_
          refine aw_iload_n 5 dX7_parts_68 rfl rfl ?_
          refine aw_callVT (mc1 := 0) (ms1 := 0) (mc := 0) (ms := 0) (st := []) (q := 0) (As := [.int (r7 + (1 : Int32)), .int x2]) lX7_94 insX7_parts selX7_parts ⟨TX7, 3, rfl⟩ (by omega) (hrc 8 _ [(r7 + (1 : Int32)), x2] _ h) (Nat.le_of_ble_eq_true rfl) rfl rfl rfl dX7_parts_69 rfl (fun _ _ hh => ?_)
          obtain ⟨τ12, rfl, rfl, h⟩ := hh
          refine aw_stk (st' := []) rfl ?_
          refine aw_aload_n 3 dX7_parts_72 rfl rfl ?_
          refine aw_getf (v := .ref 4) fX7_15 0 rfl rfl dX7_parts_73 ?_
          refine aw_iload 2 dX7_parts_76 rfl ?_
          refine aw_iload 1 dX7_parts_78 rfl ?_
          refine aw_callV (mc1 := 0) (ms1 := 0) (mc := 0) (ms := 0) (st := []) (q := 4) (As := [.int r3, .int r5]) (vsc := [.int r3, .int r5]) lX7_104 insX4_addPair selX4_addPair ⟨TX4, 10, rfl⟩ (by omega) (kX4_addPair (d := 2) (by omega) h) [4, 8, 9, 10, 11, 12, 13, 14, 15, 16] rfl rfl rfl rfl rfl dX7_parts_80 rfl rfl (fun _ _ hh => ?_)
          obtain ⟨τ14, rfl, rfl, h⟩ := hh
          refine ⟨(wX7 G (τ12.1, (τ12.2.1, τ14))), [], rfl, rfl, rfl, ?_⟩
          refine aw_iinc 6 (v := (x3 + 1)) (lv' := [(3, .int (x3 + 1)), (6, .int r7), (5, .int r5), (4, .int r3), (0, .ref 0), (1, .int x1), (2, .int x2)]) dX7_parts_83 rfl rfl (by decide) rfl ?_
          refine aw_goto 9 dX7_parts_86 (by decide) ?_
          refine aw_lvsub (lv' := [(0, .ref 0), (1, .int x1), (2, .int x2), (3, .int (x3 + 1))]) [4, 5, 6, 0] rfl ?_
          exact hrec_9 ((τ12.1, (τ12.2.1, τ14)), x1, x2, (x3 + 1)) h
        · have h := h.2 c15
          exact aw_vret rfl dX7_parts_55 ⟨((σ.1.1, τ6.1), (τ6.2, σ.2.2)), rfl, rfl, h⟩
def wp_X7_parts (rc : Nat → WSX7 → List Int32 → (Int32 → WSX7 → Prop) → Prop) (σ : WSX7) (a1 : Int32) (a2 : Int32) (post : WSX7 → Prop) : Prop :=
  rc 9 σ [(a2 + (1 : Int32))] (fun _ τ2 => (∃ n18, wp_X7_parts_9 rc  post n18 τ2 a1 a2 (0 : Int32)))
theorem kX7_parts {G : aw_G} {d : Nat} (hd : 3 ≤ d) {dg : Nat} (hdg : dg + 1 ≤ d) {rc : Nat → WSX7 → List Int32 → (Int32 → WSX7 → Prop) → Prop} (hrc : ∀ (k : Nat) (σ : WSX7) (xs : List Int32) (po : Int32 → WSX7 → Prop), rc k σ xs po → AC G (Mg_rd k) dg 0 0 17 (.ref 0 :: xs.map .int) (wX7 G σ) (aw_pv (wX7 G) (fun τ => po 0 τ))) {σ : WSX7} {a1 : Int32} {a2 : Int32} {post : WSX7 → Prop} (h : wp_X7_parts rc σ a1 a2 post) : AC G MX7_parts d 0 0 17 [.ref 0, .int a1, .int a2] (wX7 G σ) (aw_pv (wX7 G) post) := by
  refine AC.of (lv := [(0, .ref 0), (1, .int a1), (2, .int a2)]) (by decide) (Nat.le_of_ble_eq_true rfl) rfl ?_
  unfold wp_X7_parts at h
  refine aw_aload_n 0 dX7_parts_0 rfl rfl ?_
  refine aw_iload_n 2 dX7_parts_1 rfl rfl ?_
  refine aw_iconst (v := (1 : Int32)) dX7_parts_2 (by decide) ?_
  refine aw_iadd dX7_parts_3 ?_
  refine aw_callVT (mc1 := 0) (ms1 := 0) (mc := 0) (ms := 0) (st := []) (q := 0) (As := [.int (a2 + (1 : Int32))]) lX7_97 insX7_unary selX7_unary ⟨TX7, 3, rfl⟩ (by omega) (hrc 9 _ [(a2 + (1 : Int32))] _ h) (Nat.le_of_ble_eq_true rfl) rfl rfl rfl dX7_parts_4 rfl (fun _ _ hh => ?_)
  obtain ⟨τ2, rfl, rfl, h⟩ := hh
  refine aw_stk (st' := []) rfl ?_
  refine aw_iconst (v := (0 : Int32)) dX7_parts_7 (by decide) ?_
  refine aw_istore_n (lv' := [(3, .int (0 : Int32)), (0, .ref 0), (1, .int a1), (2, .int a2)]) dX7_parts_8 rfl (by decide) rfl ?_
  refine aw_lvsub (lv' := [(0, .ref 0), (1, .int a1), (2, .int a2), (3, .int (0 : Int32))]) [1, 2, 3, 0] rfl ?_
  obtain ⟨n18, h⟩ := h
  exact aw_X7_parts_9 hd hdg hrc  n18 τ2 a1 a2 (0 : Int32) h
def wp_X7_unary_126 (rc : Nat → WSX7 → List Int32 → (Int32 → WSX7 → Prop) → Prop)  (post : WSX7 → Prop) (σ : WSX7) (x2 : Int32) (s0 : Int32) : Prop :=
  wp_X4_addAround σ.2.2 s0 x2 ((-1) : Int32) (fun τ23 => post (σ.1, (σ.2.1, τ23)))
theorem aw_X7_unary_126 {G : aw_G} {d : Nat} (hd : 3 ≤ d) {dg : Nat} (hdg : dg + 1 ≤ d) {rc : Nat → WSX7 → List Int32 → (Int32 → WSX7 → Prop) → Prop} (hrc : ∀ (k : Nat) (σ : WSX7) (xs : List Int32) (po : Int32 → WSX7 → Prop), rc k σ xs po → AC G (Mg_rd k) dg 0 0 17 (.ref 0 :: xs.map .int) (wX7 G σ) (aw_pv (wX7 G) (fun τ => po 0 τ))) {post : WSX7 → Prop}  {σ : WSX7} {x2 : Int32} {s0 : Int32} (h : wp_X7_unary_126 rc  post σ x2 s0) : AW G MX7_unary d 0 0 17 (aw_pv (wX7 G) post) 126 [(2, .int x2)] [.int s0, .ref 4] (wX7 G σ) := by
  unfold wp_X7_unary_126 at h
  refine aw_iload_n 0 dX7_unary_126 rfl rfl ?_
  refine aw_iconst (v := ((-1) : Int32)) dX7_unary_127 (by decide) ?_
  refine aw_callV (mc1 := 0) (ms1 := 0) (mc := 0) (ms := 0) (st := []) (q := 4) (As := [.int s0, .int x2, .int ((-1) : Int32)]) (vsc := [.int s0, .int x2, .int ((-1) : Int32)]) lX7_107 insX4_addAround selX4_addAround ⟨TX4, 10, rfl⟩ (by omega) (kX4_addAround (d := 1) (by omega) h) [4, 8, 9, 10, 11, 12, 13, 14, 15, 16] rfl rfl rfl rfl rfl dX7_unary_128 rfl rfl (fun _ _ hh => ?_)
  obtain ⟨τ23, rfl, rfl, h⟩ := hh
  refine ⟨(wX7 G (σ.1, (σ.2.1, τ23))), [], rfl, rfl, rfl, ?_⟩
  refine aw_goto 205 dX7_unary_131 (by decide) ?_
  exact aw_vret rfl dX7_unary_205 ⟨(σ.1, (σ.2.1, τ23)), rfl, rfl, h⟩
def wp_X7_unary_10 (rc : Nat → WSX7 → List Int32 → (Int32 → WSX7 → Prop) → Prop)  (post : WSX7 → Prop) (σ : WSX7) (x1 : Int32) : Prop :=
  ((σ.1.1 = ((-1) : Int32) → wp_X9_place (σ.1.2, σ.2.1)  (fun r1 τ2 => wp_X9_kind τ2  (fun r3 τ4 => ((r3 = (2 : Int32) → wp_X9_next τ4  (fun τ7 => rc 10 ((σ.1.1, τ7.1), (τ7.2, σ.2.2)) [r1, x1] (fun _ τ9 => post τ9))) ∧ (¬ r3 = (2 : Int32) → ((r3 = (3 : Int32) → wp_X9_number τ4  (fun r11 τ12 => wp_X4_add σ.2.2 (3 : Int32) r1 r11 (fun r13 τ14 => wp_X9_next τ12  (fun τ16 => post ((σ.1.1, τ16.1), (τ16.2, τ14)))))) ∧ (¬ r3 = (3 : Int32) → ((r3 = (33 : Int32) → wp_X9_next τ4  (fun τ19 => rc 9 ((σ.1.1, τ19.1), (τ19.2, σ.2.2)) [(x1 + (1 : Int32))] (fun _ τ21 => ((¬ r3 = (45 : Int32) → wp_X7_unary_126 rc  post τ21 r1 r3) ∧ (r3 = (45 : Int32) → wp_X7_unary_126 rc  post τ21 r1 (29 : Int32)))))) ∧ (¬ r3 = (33 : Int32) → ((r3 = (40 : Int32) → wp_X9_next τ4  (fun τ27 => rc 7 ((σ.1.1, τ27.1), (τ27.2, σ.2.2)) [(x1 + (1 : Int32))] (fun _ τ29 => wp_X7_take τ29 (41 : Int32) (fun r30 τ31 => post τ31)))) ∧ (¬ r3 = (40 : Int32) → ((r3 = (45 : Int32) → wp_X9_next τ4  (fun τ34 => rc 9 ((σ.1.1, τ34.1), (τ34.2, σ.2.2)) [(x1 + (1 : Int32))] (fun _ τ36 => ((¬ r3 = (45 : Int32) → wp_X7_unary_126 rc  post τ36 r1 r3) ∧ (r3 = (45 : Int32) → wp_X7_unary_126 rc  post τ36 r1 (29 : Int32)))))) ∧ (¬ r3 = (45 : Int32) → ((r3 = (126 : Int32) → wp_X9_next τ4  (fun τ40 => rc 9 ((σ.1.1, τ40.1), (τ40.2, σ.2.2)) [(x1 + (1 : Int32))] (fun _ τ42 => ((¬ r3 = (45 : Int32) → wp_X7_unary_126 rc  post τ42 r1 r3) ∧ (r3 = (45 : Int32) → wp_X7_unary_126 rc  post τ42 r1 (29 : Int32)))))) ∧ (¬ r3 = (126 : Int32) → wp_X7_fail ((σ.1.1, τ4.1), (τ4.2, σ.2.2))  (fun τ45 => post τ45)))))))))))))))) ∧ (¬ σ.1.1 = ((-1) : Int32) → post σ))
theorem aw_X7_unary_10 {G : aw_G} {d : Nat} (hd : 3 ≤ d) {dg : Nat} (hdg : dg + 1 ≤ d) {rc : Nat → WSX7 → List Int32 → (Int32 → WSX7 → Prop) → Prop} (hrc : ∀ (k : Nat) (σ : WSX7) (xs : List Int32) (po : Int32 → WSX7 → Prop), rc k σ xs po → AC G (Mg_rd k) dg 0 0 17 (.ref 0 :: xs.map .int) (wX7 G σ) (aw_pv (wX7 G) (fun τ => po 0 τ))) {post : WSX7 → Prop}  {σ : WSX7} {x1 : Int32} (h : wp_X7_unary_10 rc  post σ x1) : AW G MX7_unary d 0 0 17 (aw_pv (wX7 G) post) 10 [(0, .ref 0), (1, .int x1)] [] (wX7 G σ) := by
  unfold wp_X7_unary_10 at h
  refine aw_aload_n 0 dX7_unary_10 rfl rfl ?_
  refine aw_getf (v := .int σ.1.1) fX7_19 0 rfl rfl dX7_unary_11 ?_
  refine aw_iconst (v := ((-1) : Int32)) dX7_unary_14 (by decide) ?_
  refine aw_icmp_eq 19 dX7_unary_15 (by decide) (fun c46 => ?_) (fun c46 => ?_)
  · have h := h.1 c46
    refine aw_aload_n 0 dX7_unary_19 rfl rfl ?_
    refine aw_getf (v := .ref 1) fX7_9 0 rfl rfl dX7_unary_20 ?_
    refine aw_callV (mc1 := 0) (ms1 := 0) (mc := 0) (ms := 0) (st := []) (q := 1) (As := []) (vsc := []) lX7_46 insX9_place selX9_place ⟨TX9, 9, rfl⟩ (by omega) (kX9_place (d := 0) (by omega) h) [1, 2, 3, 5, 6, 7] rfl rfl rfl rfl rfl dX7_unary_23 rfl rfl (fun _ _ hh => ?_)
    obtain ⟨r1, τ2, rfl, rfl, h⟩ := hh
    refine ⟨(wX7 G ((σ.1.1, τ2.1), (τ2.2, σ.2.2))), [.int r1], rfl, rfl, rfl, ?_⟩
    refine aw_istore_n (lv' := [(2, .int r1), (0, .ref 0), (1, .int x1)]) dX7_unary_26 rfl (by decide) rfl ?_
    refine aw_aload_n 1 dX7_unary_27 rfl rfl ?_
    refine aw_getf (v := .ref 1) fX7_9 0 rfl rfl dX7_unary_28 ?_
    refine aw_callV (mc1 := 0) (ms1 := 0) (mc := 0) (ms := 0) (st := []) (q := 1) (As := []) (vsc := []) lX7_42 insX9_kind selX9_kind ⟨TX9, 9, rfl⟩ (by omega) (kX9_kind (d := 0) (by omega) h) [1, 2, 3, 5, 6, 7] rfl rfl rfl rfl rfl dX7_unary_31 rfl rfl (fun _ _ hh => ?_)
    obtain ⟨r3, τ4, rfl, rfl, h⟩ := hh
    refine ⟨(wX7 G ((σ.1.1, τ4.1), (τ4.2, σ.2.2))), [.int r3], rfl, rfl, rfl, ?_⟩
    refine aw_istore_n (lv' := [(3, .int r3), (2, .int r1), (0, .ref 0), (1, .int x1)]) dX7_unary_34 rfl (by decide) rfl ?_
    refine aw_iload_n 0 dX7_unary_35 rfl rfl ?_
    by_cases c5 : r3 = (2 : Int32)
    · refine aw_lookup 185 (off := 149) dX7_unary_36 (by decide) (aw_swh (a := 2) c5 rfl) (by decide) ?_
      have h := h.1 c5
      refine aw_aload_n 2 dX7_unary_185 rfl rfl ?_
      refine aw_getf (v := .ref 1) fX7_9 0 rfl rfl dX7_unary_186 ?_
      refine aw_callV (mc1 := 0) (ms1 := 0) (mc := 0) (ms := 0) (st := []) (q := 1) (As := []) (vsc := []) lX7_49 insX9_next selX9_next ⟨TX9, 9, rfl⟩ (by omega) (kX9_next (d := 1) (by omega) h) [1, 2, 3, 5, 6, 7] rfl rfl rfl rfl rfl dX7_unary_189 rfl rfl (fun _ _ hh => ?_)
      obtain ⟨τ7, rfl, rfl, h⟩ := hh
      refine ⟨(wX7 G ((σ.1.1, τ7.1), (τ7.2, σ.2.2))), [], rfl, rfl, rfl, ?_⟩
      refine aw_aload_n 2 dX7_unary_192 rfl rfl ?_
      refine aw_iload_n 1 dX7_unary_193 rfl rfl ?_
      refine aw_iload_n 3 dX7_unary_194 rfl rfl ?_
      refine aw_callVT (mc1 := 0) (ms1 := 0) (mc := 0) (ms := 0) (st := []) (q := 0) (As := [.int r1, .int x1]) lX7_111 insX7_nameOrItem selX7_nameOrItem ⟨TX7, 3, rfl⟩ (by omega) (hrc 10 _ [r1, x1] _ h) (Nat.le_of_ble_eq_true rfl) rfl rfl rfl dX7_unary_195 rfl (fun _ _ hh => ?_)
      obtain ⟨τ9, rfl, rfl, h⟩ := hh
      refine aw_stk (st' := []) rfl ?_
      refine aw_goto 205 dX7_unary_198 (by decide) ?_
      exact aw_vret rfl dX7_unary_205 ⟨τ9, rfl, rfl, h⟩
    have h := h.2 c5
    by_cases c10 : r3 = (3 : Int32)
    · refine aw_lookup 158 (off := 122) dX7_unary_36 (by decide) ((lv_osw (a := 2) c5 rfl).trans (aw_swh (a := 3) c10 rfl)) (by decide) ?_
      have h := h.1 c10
      refine aw_aload_n 2 dX7_unary_158 rfl rfl ?_
      refine aw_getf (v := .ref 4) fX7_15 0 rfl rfl dX7_unary_159 ?_
      refine aw_iconst (v := (3 : Int32)) dX7_unary_162 (by decide) ?_
      refine aw_iload_n 1 dX7_unary_163 rfl rfl ?_
      refine aw_aload_n 2 dX7_unary_164 rfl rfl ?_
      refine aw_getf (v := .ref 1) fX7_9 0 rfl rfl dX7_unary_165 ?_
      refine aw_callV (mc1 := 0) (ms1 := 0) (mc := 0) (ms := 0) (st := [.int r1, .int (3 : Int32), .ref 4]) (q := 1) (As := []) (vsc := []) lX7_63 insX9_number selX9_number ⟨TX9, 9, rfl⟩ (by omega) (kX9_number (d := 0) (by omega) h) [1, 2, 3, 5, 6, 7] rfl rfl rfl rfl rfl dX7_unary_168 rfl rfl (fun _ _ hh => ?_)
      obtain ⟨r11, τ12, rfl, rfl, h⟩ := hh
      refine ⟨(wX7 G ((σ.1.1, τ12.1), (τ12.2, σ.2.2))), [.int r11, .int r1, .int (3 : Int32), .ref 4], rfl, rfl, rfl, ?_⟩
      refine aw_callV (mc1 := 0) (ms1 := 0) (mc := 0) (ms := 0) (st := []) (q := 4) (As := [.int (3 : Int32), .int r1, .int r11]) (vsc := [.int (3 : Int32), .int r1, .int r11]) lX7_59 insX4_add selX4_add ⟨TX4, 10, rfl⟩ (by omega) (kX4_add (d := 0) (by omega) h) [4, 8, 9, 10, 11, 12, 13, 14, 15, 16] rfl rfl rfl rfl rfl dX7_unary_171 rfl rfl (fun _ _ hh => ?_)
      obtain ⟨r13, τ14, rfl, rfl, h⟩ := hh
      refine ⟨(wX7 G ((σ.1.1, τ12.1), (τ12.2, τ14))), [.int r13], rfl, rfl, rfl, ?_⟩
      refine aw_pop dX7_unary_174 rfl ?_
      refine aw_aload_n 2 dX7_unary_175 rfl rfl ?_
      refine aw_getf (v := .ref 1) fX7_9 0 rfl rfl dX7_unary_176 ?_
      refine aw_callV (mc1 := 0) (ms1 := 0) (mc := 0) (ms := 0) (st := []) (q := 1) (As := []) (vsc := []) lX7_49 insX9_next selX9_next ⟨TX9, 9, rfl⟩ (by omega) (kX9_next (d := 1) (by omega) h) [1, 2, 3, 5, 6, 7] rfl rfl rfl rfl rfl dX7_unary_179 rfl rfl (fun _ _ hh => ?_)
      obtain ⟨τ16, rfl, rfl, h⟩ := hh
      refine ⟨(wX7 G ((σ.1.1, τ16.1), (τ16.2, τ14))), [], rfl, rfl, rfl, ?_⟩
      refine aw_goto 205 dX7_unary_182 (by decide) ?_
      exact aw_vret rfl dX7_unary_205 ⟨((σ.1.1, τ16.1), (τ16.2, τ14)), rfl, rfl, h⟩
    have h := h.2 c10
    by_cases c17 : r3 = (33 : Int32)
    · refine aw_lookup 96 (off := 60) dX7_unary_36 (by decide) ((lv_osw (a := 2) c5 rfl).trans ((lv_osw (a := 3) c10 rfl).trans (aw_swh (a := 33) c17 rfl))) (by decide) ?_
      have h := h.1 c17
      refine aw_aload_n 2 dX7_unary_96 rfl rfl ?_
      refine aw_getf (v := .ref 1) fX7_9 0 rfl rfl dX7_unary_97 ?_
      refine aw_callV (mc1 := 0) (ms1 := 0) (mc := 0) (ms := 0) (st := []) (q := 1) (As := []) (vsc := []) lX7_49 insX9_next selX9_next ⟨TX9, 9, rfl⟩ (by omega) (kX9_next (d := 1) (by omega) h) [1, 2, 3, 5, 6, 7] rfl rfl rfl rfl rfl dX7_unary_100 rfl rfl (fun _ _ hh => ?_)
      obtain ⟨τ19, rfl, rfl, h⟩ := hh
      refine ⟨(wX7 G ((σ.1.1, τ19.1), (τ19.2, σ.2.2))), [], rfl, rfl, rfl, ?_⟩
      refine aw_aload_n 2 dX7_unary_103 rfl rfl ?_
      refine aw_iload_n 3 dX7_unary_104 rfl rfl ?_
      refine aw_iconst (v := (1 : Int32)) dX7_unary_105 (by decide) ?_
      refine aw_iadd dX7_unary_106 ?_
      refine aw_callVT (mc1 := 0) (ms1 := 0) (mc := 0) (ms := 0) (st := []) (q := 0) (As := [.int (x1 + (1 : Int32))]) lX7_97 insX7_unary selX7_unary ⟨TX7, 3, rfl⟩ (by omega) (hrc 9 _ [(x1 + (1 : Int32))] _ h) (Nat.le_of_ble_eq_true rfl) rfl rfl rfl dX7_unary_107 rfl (fun _ _ hh => ?_)
      obtain ⟨τ21, rfl, rfl, h⟩ := hh
      refine aw_stk (st' := []) rfl ?_
      refine aw_aload_n 2 dX7_unary_110 rfl rfl ?_
      refine aw_getf (v := .ref 4) fX7_15 0 rfl rfl dX7_unary_111 ?_
      refine aw_iload_n 0 dX7_unary_114 rfl rfl ?_
      refine aw_bipush (v := (45 : Int32)) dX7_unary_115 (by decide) ?_
      refine aw_icmp_ne 125 dX7_unary_117 (by decide) (fun c24 => ?_) (fun c24 => ?_)
      · have h := h.1 c24
        refine aw_iload_n 0 dX7_unary_125 rfl rfl ?_
        refine aw_lvsub (lv' := [(2, .int r1)]) [1] rfl ?_
        exact aw_X7_unary_126 hd hdg hrc  h
      · have h := h.2 c24
        refine aw_bipush (v := (29 : Int32)) dX7_unary_120 (by decide) ?_
        refine aw_goto 126 dX7_unary_122 (by decide) ?_
        refine aw_lvsub (lv' := [(2, .int r1)]) [1] rfl ?_
        exact aw_X7_unary_126 hd hdg hrc  h
    have h := h.2 c17
    by_cases c25 : r3 = (40 : Int32)
    · refine aw_lookup 134 (off := 98) dX7_unary_36 (by decide) ((lv_osw (a := 2) c5 rfl).trans ((lv_osw (a := 3) c10 rfl).trans ((lv_osw (a := 33) c17 rfl).trans (aw_swh (a := 40) c25 rfl)))) (by decide) ?_
      have h := h.1 c25
      refine aw_aload_n 2 dX7_unary_134 rfl rfl ?_
      refine aw_getf (v := .ref 1) fX7_9 0 rfl rfl dX7_unary_135 ?_
      refine aw_callV (mc1 := 0) (ms1 := 0) (mc := 0) (ms := 0) (st := []) (q := 1) (As := []) (vsc := []) lX7_49 insX9_next selX9_next ⟨TX9, 9, rfl⟩ (by omega) (kX9_next (d := 1) (by omega) h) [1, 2, 3, 5, 6, 7] rfl rfl rfl rfl rfl dX7_unary_138 rfl rfl (fun _ _ hh => ?_)
      obtain ⟨τ27, rfl, rfl, h⟩ := hh
      refine ⟨(wX7 G ((σ.1.1, τ27.1), (τ27.2, σ.2.2))), [], rfl, rfl, rfl, ?_⟩
      refine aw_aload_n 2 dX7_unary_141 rfl rfl ?_
      refine aw_iload_n 3 dX7_unary_142 rfl rfl ?_
      refine aw_iconst (v := (1 : Int32)) dX7_unary_143 (by decide) ?_
      refine aw_iadd dX7_unary_144 ?_
      refine aw_callVT (mc1 := 0) (ms1 := 0) (mc := 0) (ms := 0) (st := []) (q := 0) (As := [.int (x1 + (1 : Int32))]) lX7_85 insX7_expression selX7_expression ⟨TX7, 3, rfl⟩ (by omega) (hrc 7 _ [(x1 + (1 : Int32))] _ h) (Nat.le_of_ble_eq_true rfl) rfl rfl rfl dX7_unary_145 rfl (fun _ _ hh => ?_)
      obtain ⟨τ29, rfl, rfl, h⟩ := hh
      refine aw_stk (st' := []) rfl ?_
      refine aw_aload_n 2 dX7_unary_148 rfl rfl ?_
      refine aw_bipush (v := (41 : Int32)) dX7_unary_149 (by decide) ?_
      refine aw_callVT (mc1 := 0) (ms1 := 0) (mc := 0) (ms := 0) (st := []) (q := 0) (As := [.int (41 : Int32)]) lX7_38 insX7_take selX7_take ⟨TX7, 3, rfl⟩ (by omega) (kX7_take (d := 2) (by omega) h) (Nat.le_of_ble_eq_true rfl) rfl rfl rfl dX7_unary_151 rfl (fun _ _ hh => ?_)
      obtain ⟨r30, τ31, rfl, rfl, h⟩ := hh
      refine aw_stk (st' := [.int r30]) rfl ?_
      refine aw_pop dX7_unary_154 rfl ?_
      refine aw_goto 205 dX7_unary_155 (by decide) ?_
      exact aw_vret rfl dX7_unary_205 ⟨τ31, rfl, rfl, h⟩
    have h := h.2 c25
    by_cases c32 : r3 = (45 : Int32)
    · refine aw_lookup 96 (off := 60) dX7_unary_36 (by decide) ((lv_osw (a := 2) c5 rfl).trans ((lv_osw (a := 3) c10 rfl).trans ((lv_osw (a := 33) c17 rfl).trans ((lv_osw (a := 40) c25 rfl).trans (aw_swh (a := 45) c32 rfl))))) (by decide) ?_
      have h := h.1 c32
      refine aw_aload_n 2 dX7_unary_96 rfl rfl ?_
      refine aw_getf (v := .ref 1) fX7_9 0 rfl rfl dX7_unary_97 ?_
      refine aw_callV (mc1 := 0) (ms1 := 0) (mc := 0) (ms := 0) (st := []) (q := 1) (As := []) (vsc := []) lX7_49 insX9_next selX9_next ⟨TX9, 9, rfl⟩ (by omega) (kX9_next (d := 1) (by omega) h) [1, 2, 3, 5, 6, 7] rfl rfl rfl rfl rfl dX7_unary_100 rfl rfl (fun _ _ hh => ?_)
      obtain ⟨τ34, rfl, rfl, h⟩ := hh
      refine ⟨(wX7 G ((σ.1.1, τ34.1), (τ34.2, σ.2.2))), [], rfl, rfl, rfl, ?_⟩
      refine aw_aload_n 2 dX7_unary_103 rfl rfl ?_
      refine aw_iload_n 3 dX7_unary_104 rfl rfl ?_
      refine aw_iconst (v := (1 : Int32)) dX7_unary_105 (by decide) ?_
      refine aw_iadd dX7_unary_106 ?_
      refine aw_callVT (mc1 := 0) (ms1 := 0) (mc := 0) (ms := 0) (st := []) (q := 0) (As := [.int (x1 + (1 : Int32))]) lX7_97 insX7_unary selX7_unary ⟨TX7, 3, rfl⟩ (by omega) (hrc 9 _ [(x1 + (1 : Int32))] _ h) (Nat.le_of_ble_eq_true rfl) rfl rfl rfl dX7_unary_107 rfl (fun _ _ hh => ?_)
      obtain ⟨τ36, rfl, rfl, h⟩ := hh
      refine aw_stk (st' := []) rfl ?_
      refine aw_aload_n 2 dX7_unary_110 rfl rfl ?_
      refine aw_getf (v := .ref 4) fX7_15 0 rfl rfl dX7_unary_111 ?_
      refine aw_iload_n 0 dX7_unary_114 rfl rfl ?_
      refine aw_bipush (v := (45 : Int32)) dX7_unary_115 (by decide) ?_
      refine aw_icmp_ne 125 dX7_unary_117 (by decide) (fun c37 => ?_) (fun c37 => ?_)
      · have h := h.1 c37
        refine aw_iload_n 0 dX7_unary_125 rfl rfl ?_
        refine aw_lvsub (lv' := [(2, .int r1)]) [1] rfl ?_
        exact aw_X7_unary_126 hd hdg hrc  h
      · have h := h.2 c37
        refine aw_bipush (v := (29 : Int32)) dX7_unary_120 (by decide) ?_
        refine aw_goto 126 dX7_unary_122 (by decide) ?_
        refine aw_lvsub (lv' := [(2, .int r1)]) [1] rfl ?_
        exact aw_X7_unary_126 hd hdg hrc  h
    have h := h.2 c32
    by_cases c38 : r3 = (126 : Int32)
    · refine aw_lookup 96 (off := 60) dX7_unary_36 (by decide) ((lv_osw (a := 2) c5 rfl).trans ((lv_osw (a := 3) c10 rfl).trans ((lv_osw (a := 33) c17 rfl).trans ((lv_osw (a := 40) c25 rfl).trans ((lv_osw (a := 45) c32 rfl).trans (aw_swh (a := 126) c38 rfl)))))) (by decide) ?_
      have h := h.1 c38
      refine aw_aload_n 2 dX7_unary_96 rfl rfl ?_
      refine aw_getf (v := .ref 1) fX7_9 0 rfl rfl dX7_unary_97 ?_
      refine aw_callV (mc1 := 0) (ms1 := 0) (mc := 0) (ms := 0) (st := []) (q := 1) (As := []) (vsc := []) lX7_49 insX9_next selX9_next ⟨TX9, 9, rfl⟩ (by omega) (kX9_next (d := 1) (by omega) h) [1, 2, 3, 5, 6, 7] rfl rfl rfl rfl rfl dX7_unary_100 rfl rfl (fun _ _ hh => ?_)
      obtain ⟨τ40, rfl, rfl, h⟩ := hh
      refine ⟨(wX7 G ((σ.1.1, τ40.1), (τ40.2, σ.2.2))), [], rfl, rfl, rfl, ?_⟩
      refine aw_aload_n 2 dX7_unary_103 rfl rfl ?_
      refine aw_iload_n 3 dX7_unary_104 rfl rfl ?_
      refine aw_iconst (v := (1 : Int32)) dX7_unary_105 (by decide) ?_
      refine aw_iadd dX7_unary_106 ?_
      refine aw_callVT (mc1 := 0) (ms1 := 0) (mc := 0) (ms := 0) (st := []) (q := 0) (As := [.int (x1 + (1 : Int32))]) lX7_97 insX7_unary selX7_unary ⟨TX7, 3, rfl⟩ (by omega) (hrc 9 _ [(x1 + (1 : Int32))] _ h) (Nat.le_of_ble_eq_true rfl) rfl rfl rfl dX7_unary_107 rfl (fun _ _ hh => ?_)
      obtain ⟨τ42, rfl, rfl, h⟩ := hh
      refine aw_stk (st' := []) rfl ?_
      refine aw_aload_n 2 dX7_unary_110 rfl rfl ?_
      refine aw_getf (v := .ref 4) fX7_15 0 rfl rfl dX7_unary_111 ?_
      refine aw_iload_n 0 dX7_unary_114 rfl rfl ?_
      refine aw_bipush (v := (45 : Int32)) dX7_unary_115 (by decide) ?_
      refine aw_icmp_ne 125 dX7_unary_117 (by decide) (fun c43 => ?_) (fun c43 => ?_)
      · have h := h.1 c43
        refine aw_iload_n 0 dX7_unary_125 rfl rfl ?_
        refine aw_lvsub (lv' := [(2, .int r1)]) [1] rfl ?_
        exact aw_X7_unary_126 hd hdg hrc  h
      · have h := h.2 c43
        refine aw_bipush (v := (29 : Int32)) dX7_unary_120 (by decide) ?_
        refine aw_goto 126 dX7_unary_122 (by decide) ?_
        refine aw_lvsub (lv' := [(2, .int r1)]) [1] rfl ?_
        exact aw_X7_unary_126 hd hdg hrc  h
    have h := h.2 c38
    refine aw_lookup 201 (off := 165) dX7_unary_36 (by decide) ((lv_osw (a := 2) c5 rfl).trans ((lv_osw (a := 3) c10 rfl).trans ((lv_osw (a := 33) c17 rfl).trans ((lv_osw (a := 40) c25 rfl).trans ((lv_osw (a := 45) c32 rfl).trans ((lv_osw (a := 126) c38 rfl).trans rfl)))))) (by decide) ?_
    refine aw_aload_n 2 dX7_unary_201 rfl rfl ?_
    refine aw_callVT (mc1 := 0) (ms1 := 0) (mc := 0) (ms := 0) (st := []) (q := 0) (As := []) lX7_52 insX7_fail selX7_fail ⟨TX7, 3, rfl⟩ (by omega) (kX7_fail (d := 1) (by omega) h) (Nat.le_of_ble_eq_true rfl) rfl rfl rfl dX7_unary_202 rfl (fun _ _ hh => ?_)
    obtain ⟨τ45, rfl, rfl, h⟩ := hh
    refine aw_stk (st' := []) rfl ?_
    exact aw_vret rfl dX7_unary_205 ⟨τ45, rfl, rfl, h⟩
  · have h := h.2 c46
    exact aw_vret rfl dX7_unary_18 ⟨σ, rfl, rfl, h⟩
def wp_X7_unary (rc : Nat → WSX7 → List Int32 → (Int32 → WSX7 → Prop) → Prop) (σ : WSX7) (a1 : Int32) (post : WSX7 → Prop) : Prop :=
  ((a1 ≤ (30 : Int32) → wp_X7_unary_10 rc  post σ a1) ∧ (¬ a1 ≤ (30 : Int32) → wp_X7_fail σ  (fun τ48 => wp_X7_unary_10 rc  post τ48 a1)))
theorem kX7_unary {G : aw_G} {d : Nat} (hd : 3 ≤ d) {dg : Nat} (hdg : dg + 1 ≤ d) {rc : Nat → WSX7 → List Int32 → (Int32 → WSX7 → Prop) → Prop} (hrc : ∀ (k : Nat) (σ : WSX7) (xs : List Int32) (po : Int32 → WSX7 → Prop), rc k σ xs po → AC G (Mg_rd k) dg 0 0 17 (.ref 0 :: xs.map .int) (wX7 G σ) (aw_pv (wX7 G) (fun τ => po 0 τ))) {σ : WSX7} {a1 : Int32} {post : WSX7 → Prop} (h : wp_X7_unary rc σ a1 post) : AC G MX7_unary d 0 0 17 [.ref 0, .int a1] (wX7 G σ) (aw_pv (wX7 G) post) := by
  refine AC.of (lv := [(0, .ref 0), (1, .int a1)]) (by decide) (Nat.le_of_ble_eq_true rfl) rfl ?_
  unfold wp_X7_unary at h
  refine aw_iload_n 1 dX7_unary_0 rfl rfl ?_
  refine aw_bipush (v := (30 : Int32)) dX7_unary_1 (by decide) ?_
  refine aw_icmp_le 10 dX7_unary_3 (by decide) (fun c49 => ?_) (fun c49 => ?_)
  · have h := h.1 c49
    exact aw_X7_unary_10 hd hdg hrc  h
  · have h := h.2 c49
    refine aw_aload_n 0 dX7_unary_6 rfl rfl ?_
    refine aw_callVT (mc1 := 0) (ms1 := 0) (mc := 0) (ms := 0) (st := []) (q := 0) (As := []) lX7_52 insX7_fail selX7_fail ⟨TX7, 3, rfl⟩ (by omega) (kX7_fail (d := 1) (by omega) h) (Nat.le_of_ble_eq_true rfl) rfl rfl rfl dX7_unary_7 rfl (fun _ _ hh => ?_)
    obtain ⟨τ48, rfl, rfl, h⟩ := hh
    refine aw_stk (st' := []) rfl ?_
    exact aw_X7_unary_10 hd hdg hrc  h
def wp_X7_nameOrItem (rc : Nat → WSX7 → List Int32 → (Int32 → WSX7 → Prop) → Prop) (σ : WSX7) (a1 : Int32) (a2 : Int32) (post : WSX7 → Prop) : Prop :=
  wp_X9_kind (σ.1.2, σ.2.1)  (fun r1 τ2 => ((r1 = (91 : Int32) → wp_X9_place τ2  (fun r3 τ4 => wp_X4_add σ.2.2 (27 : Int32) a1 r3 (fun r5 τ6 => wp_X9_next τ4  (fun τ8 => rc 7 ((σ.1.1, τ8.1), (τ8.2, τ6)) [(a2 + (1 : Int32))] (fun _ τ10 => wp_X4_addAround τ10.2.2 (28 : Int32) r3 r5 (fun τ12 => wp_X7_take (τ10.1, (τ10.2.1, τ12)) (93 : Int32) (fun r13 τ14 => post τ14))))))) ∧ (¬ r1 = (91 : Int32) → wp_X4_add σ.2.2 (2 : Int32) a1 ((-1) : Int32) (fun r15 τ16 => post ((σ.1.1, τ2.1), (τ2.2, τ16))))))
theorem kX7_nameOrItem {G : aw_G} {d : Nat} (hd : 3 ≤ d) {dg : Nat} (hdg : dg + 1 ≤ d) {rc : Nat → WSX7 → List Int32 → (Int32 → WSX7 → Prop) → Prop} (hrc : ∀ (k : Nat) (σ : WSX7) (xs : List Int32) (po : Int32 → WSX7 → Prop), rc k σ xs po → AC G (Mg_rd k) dg 0 0 17 (.ref 0 :: xs.map .int) (wX7 G σ) (aw_pv (wX7 G) (fun τ => po 0 τ))) {σ : WSX7} {a1 : Int32} {a2 : Int32} {post : WSX7 → Prop} (h : wp_X7_nameOrItem rc σ a1 a2 post) : AC G MX7_nameOrItem d 0 0 17 [.ref 0, .int a1, .int a2] (wX7 G σ) (aw_pv (wX7 G) post) := by
  refine AC.of (lv := [(0, .ref 0), (1, .int a1), (2, .int a2)]) (by decide) (Nat.le_of_ble_eq_true rfl) rfl ?_
  unfold wp_X7_nameOrItem at h
  refine aw_aload_n 0 dX7_nameOrItem_0 rfl rfl ?_
  refine aw_getf (v := .ref 1) fX7_9 0 rfl rfl dX7_nameOrItem_1 ?_
  refine aw_callV (mc1 := 0) (ms1 := 0) (mc := 0) (ms := 0) (st := []) (q := 1) (As := []) (vsc := []) lX7_42 insX9_kind selX9_kind ⟨TX9, 9, rfl⟩ (by omega) (kX9_kind (d := 0) (by omega) h) [1, 2, 3, 5, 6, 7] rfl rfl rfl rfl rfl dX7_nameOrItem_4 rfl rfl (fun _ _ hh => ?_)
  obtain ⟨r1, τ2, rfl, rfl, h⟩ := hh
  refine ⟨(wX7 G ((σ.1.1, τ2.1), (τ2.2, σ.2.2))), [.int r1], rfl, rfl, rfl, ?_⟩
  refine aw_bipush (v := (91 : Int32)) dX7_nameOrItem_7 (by decide) ?_
  refine aw_icmp_eq 24 dX7_nameOrItem_9 (by decide) (fun c17 => ?_) (fun c17 => ?_)
  · have h := h.1 c17
    refine aw_aload_n 0 dX7_nameOrItem_24 rfl rfl ?_
    refine aw_getf (v := .ref 1) fX7_9 0 rfl rfl dX7_nameOrItem_25 ?_
    refine aw_callV (mc1 := 0) (ms1 := 0) (mc := 0) (ms := 0) (st := []) (q := 1) (As := []) (vsc := []) lX7_46 insX9_place selX9_place ⟨TX9, 9, rfl⟩ (by omega) (kX9_place (d := 0) (by omega) h) [1, 2, 3, 5, 6, 7] rfl rfl rfl rfl rfl dX7_nameOrItem_28 rfl rfl (fun _ _ hh => ?_)
    obtain ⟨r3, τ4, rfl, rfl, h⟩ := hh
    refine ⟨(wX7 G ((σ.1.1, τ4.1), (τ4.2, σ.2.2))), [.int r3], rfl, rfl, rfl, ?_⟩
    refine aw_istore_n (lv' := [(3, .int r3), (0, .ref 0), (1, .int a1), (2, .int a2)]) dX7_nameOrItem_31 rfl (by decide) rfl ?_
    refine aw_aload_n 1 dX7_nameOrItem_32 rfl rfl ?_
    refine aw_getf (v := .ref 4) fX7_15 0 rfl rfl dX7_nameOrItem_33 ?_
    refine aw_bipush (v := (27 : Int32)) dX7_nameOrItem_36 (by decide) ?_
    refine aw_iload_n 2 dX7_nameOrItem_38 rfl rfl ?_
    refine aw_iload_n 0 dX7_nameOrItem_39 rfl rfl ?_
    refine aw_callV (mc1 := 0) (ms1 := 0) (mc := 0) (ms := 0) (st := []) (q := 4) (As := [.int (27 : Int32), .int a1, .int r3]) (vsc := [.int (27 : Int32), .int a1, .int r3]) lX7_59 insX4_add selX4_add ⟨TX4, 10, rfl⟩ (by omega) (kX4_add (d := 0) (by omega) h) [4, 8, 9, 10, 11, 12, 13, 14, 15, 16] rfl rfl rfl rfl rfl dX7_nameOrItem_40 rfl rfl (fun _ _ hh => ?_)
    obtain ⟨r5, τ6, rfl, rfl, h⟩ := hh
    refine ⟨(wX7 G ((σ.1.1, τ4.1), (τ4.2, τ6))), [.int r5], rfl, rfl, rfl, ?_⟩
    refine aw_istore (lv' := [(4, .int r5), (3, .int r3), (0, .ref 0), (1, .int a1), (2, .int a2)]) dX7_nameOrItem_43 (by decide) rfl ?_
    refine aw_aload_n 2 dX7_nameOrItem_45 rfl rfl ?_
    refine aw_getf (v := .ref 1) fX7_9 0 rfl rfl dX7_nameOrItem_46 ?_
    refine aw_callV (mc1 := 0) (ms1 := 0) (mc := 0) (ms := 0) (st := []) (q := 1) (As := []) (vsc := []) lX7_49 insX9_next selX9_next ⟨TX9, 9, rfl⟩ (by omega) (kX9_next (d := 1) (by omega) h) [1, 2, 3, 5, 6, 7] rfl rfl rfl rfl rfl dX7_nameOrItem_49 rfl rfl (fun _ _ hh => ?_)
    obtain ⟨τ8, rfl, rfl, h⟩ := hh
    refine ⟨(wX7 G ((σ.1.1, τ8.1), (τ8.2, τ6))), [], rfl, rfl, rfl, ?_⟩
    refine aw_aload_n 2 dX7_nameOrItem_52 rfl rfl ?_
    refine aw_iload_n 4 dX7_nameOrItem_53 rfl rfl ?_
    refine aw_iconst (v := (1 : Int32)) dX7_nameOrItem_54 (by decide) ?_
    refine aw_iadd dX7_nameOrItem_55 ?_
    refine aw_callVT (mc1 := 0) (ms1 := 0) (mc := 0) (ms := 0) (st := []) (q := 0) (As := [.int (a2 + (1 : Int32))]) lX7_85 insX7_expression selX7_expression ⟨TX7, 3, rfl⟩ (by omega) (hrc 7 _ [(a2 + (1 : Int32))] _ h) (Nat.le_of_ble_eq_true rfl) rfl rfl rfl dX7_nameOrItem_56 rfl (fun _ _ hh => ?_)
    obtain ⟨τ10, rfl, rfl, h⟩ := hh
    refine aw_stk (st' := []) rfl ?_
    refine aw_aload_n 2 dX7_nameOrItem_59 rfl rfl ?_
    refine aw_getf (v := .ref 4) fX7_15 0 rfl rfl dX7_nameOrItem_60 ?_
    refine aw_bipush (v := (28 : Int32)) dX7_nameOrItem_63 (by decide) ?_
    refine aw_iload_n 1 dX7_nameOrItem_65 rfl rfl ?_
    refine aw_iload 0 dX7_nameOrItem_66 rfl ?_
    refine aw_callV (mc1 := 0) (ms1 := 0) (mc := 0) (ms := 0) (st := []) (q := 4) (As := [.int (28 : Int32), .int r3, .int r5]) (vsc := [.int (28 : Int32), .int r3, .int r5]) lX7_107 insX4_addAround selX4_addAround ⟨TX4, 10, rfl⟩ (by omega) (kX4_addAround (d := 1) (by omega) h) [4, 8, 9, 10, 11, 12, 13, 14, 15, 16] rfl rfl rfl rfl rfl dX7_nameOrItem_68 rfl rfl (fun _ _ hh => ?_)
    obtain ⟨τ12, rfl, rfl, h⟩ := hh
    refine ⟨(wX7 G (τ10.1, (τ10.2.1, τ12))), [], rfl, rfl, rfl, ?_⟩
    refine aw_aload_n 2 dX7_nameOrItem_71 rfl rfl ?_
    refine aw_bipush (v := (93 : Int32)) dX7_nameOrItem_72 (by decide) ?_
    refine aw_callVT (mc1 := 0) (ms1 := 0) (mc := 0) (ms := 0) (st := []) (q := 0) (As := [.int (93 : Int32)]) lX7_38 insX7_take selX7_take ⟨TX7, 3, rfl⟩ (by omega) (kX7_take (d := 2) (by omega) h) (Nat.le_of_ble_eq_true rfl) rfl rfl rfl dX7_nameOrItem_74 rfl (fun _ _ hh => ?_)
    obtain ⟨r13, τ14, rfl, rfl, h⟩ := hh
    refine aw_stk (st' := [.int r13]) rfl ?_
    refine aw_pop dX7_nameOrItem_77 rfl ?_
    exact aw_vret rfl dX7_nameOrItem_78 ⟨τ14, rfl, rfl, h⟩
  · have h := h.2 c17
    refine aw_aload_n 0 dX7_nameOrItem_12 rfl rfl ?_
    refine aw_getf (v := .ref 4) fX7_15 0 rfl rfl dX7_nameOrItem_13 ?_
    refine aw_iconst (v := (2 : Int32)) dX7_nameOrItem_16 (by decide) ?_
    refine aw_iload_n 1 dX7_nameOrItem_17 rfl rfl ?_
    refine aw_iconst (v := ((-1) : Int32)) dX7_nameOrItem_18 (by decide) ?_
    refine aw_callV (mc1 := 0) (ms1 := 0) (mc := 0) (ms := 0) (st := []) (q := 4) (As := [.int (2 : Int32), .int a1, .int ((-1) : Int32)]) (vsc := [.int (2 : Int32), .int a1, .int ((-1) : Int32)]) lX7_59 insX4_add selX4_add ⟨TX4, 10, rfl⟩ (by omega) (kX4_add (d := 0) (by omega) h) [4, 8, 9, 10, 11, 12, 13, 14, 15, 16] rfl rfl rfl rfl rfl dX7_nameOrItem_19 rfl rfl (fun _ _ hh => ?_)
    obtain ⟨r15, τ16, rfl, rfl, h⟩ := hh
    refine ⟨(wX7 G ((σ.1.1, τ2.1), (τ2.2, τ16))), [.int r15], rfl, rfl, rfl, ?_⟩
    refine aw_pop dX7_nameOrItem_22 rfl ?_
    exact aw_vret rfl dX7_nameOrItem_23 ⟨((σ.1.1, τ2.1), (τ2.2, τ16)), rfl, rfl, h⟩
def wg_rd : Nat → Nat → WSX7 → List Int32 → (Int32 → WSX7 → Prop) → Prop
  | 0, _, _, _, _ => False
  | n + 1, k, σ, xs, po => match k, xs with
    | 0, [a0] => wp_X7_statements (wg_rd n) σ a0 (po 0)
    | 1, [a0] => wp_X7_statement (wg_rd n) σ a0 (po 0)
    | 2, [a0] => wp_X7_putStatement (wg_rd n) σ a0 (po 0)
    | 3, [a0] => wp_X7_ifStatement (wg_rd n) σ a0 (po 0)
    | 4, [a0] => wp_X7_whileStatement (wg_rd n) σ a0 (po 0)
    | 5, [a0] => wp_X7_outStatement (wg_rd n) σ a0 (po 0)
    | 6, [a0] => wp_X7_block (wg_rd n) σ a0 (po 0)
    | 7, [a0] => wp_X7_expression (wg_rd n) σ a0 (po 0)
    | 8, [a0, a1] => wp_X7_parts (wg_rd n) σ a0 a1 (po 0)
    | 9, [a0] => wp_X7_unary (wg_rd n) σ a0 (po 0)
    | 10, [a0, a1] => wp_X7_nameOrItem (wg_rd n) σ a0 a1 (po 0)
    | _, _ => False
theorem kg_rd {G : aw_G} : ∀ (n k : Nat) (σ : WSX7) (xs : List Int32) (po : Int32 → WSX7 → Prop), wg_rd n k σ xs po → AC G (Mg_rd k) (3 + n) 0 0 17 (.ref 0 :: xs.map .int) (wX7 G σ) (aw_pv (wX7 G) (fun τ => po 0 τ)) := by
  intro n
  induction n with
  | zero => intro k σ xs po h; exact h.elim
  | succ n ih =>
    intro k σ xs po h
    unfold wg_rd at h
    split at h
    · exact kX7_statements (d := 3 + (n + 1)) (by omega) (dg := 3 + n) (by omega) ih h
    · exact kX7_statement (d := 3 + (n + 1)) (by omega) (dg := 3 + n) (by omega) ih h
    · exact kX7_putStatement (d := 3 + (n + 1)) (by omega) (dg := 3 + n) (by omega) ih h
    · exact kX7_ifStatement (d := 3 + (n + 1)) (by omega) (dg := 3 + n) (by omega) ih h
    · exact kX7_whileStatement (d := 3 + (n + 1)) (by omega) (dg := 3 + n) (by omega) ih h
    · exact kX7_outStatement (d := 3 + (n + 1)) (by omega) (dg := 3 + n) (by omega) ih h
    · exact kX7_block (d := 3 + (n + 1)) (by omega) (dg := 3 + n) (by omega) ih h
    · exact kX7_expression (d := 3 + (n + 1)) (by omega) (dg := 3 + n) (by omega) ih h
    · exact kX7_parts (d := 3 + (n + 1)) (by omega) (dg := 3 + n) (by omega) ih h
    · exact kX7_unary (d := 3 + (n + 1)) (by omega) (dg := 3 + n) (by omega) ih h
    · exact kX7_nameOrItem (d := 3 + (n + 1)) (by omega) (dg := 3 + n) (by omega) ih h
    · exact h.elim
def wp_X7_read_39  (post : Int32 → WSX7 → Prop) (σ : WSX7) : Prop :=
  (∃ n3, n3 ≤ 400 ∧ wg_rd n3 0 σ [(0 : Int32)] (fun _ τ2 => wp_X7_take τ2 (0 : Int32) (fun r4 τ5 => post τ5.1.1 τ5)))
theorem aw_X7_read_39 {G : aw_G} {d : Nat} (hd : 404 ≤ d) {post : Int32 → WSX7 → Prop}  {σ : WSX7} (h : wp_X7_read_39  post σ) : AW G MX7_read d 0 0 17 (aw_pi (wX7 G) post) 39 [(0, .ref 0)] [] (wX7 G σ) := by
  unfold wp_X7_read_39 at h
  refine aw_aload_n 0 dX7_read_39 rfl rfl ?_
  refine aw_iconst (v := (0 : Int32)) dX7_read_40 (by decide) ?_
  obtain ⟨n3, hn3, h⟩ := h
  refine aw_callVT (mc1 := 0) (ms1 := 0) (mc := 0) (ms := 0) (st := []) (q := 0) (As := [.int (0 : Int32)]) lX7_32 insX7_statements selX7_statements ⟨TX7, 3, rfl⟩ (by omega) (kg_rd n3 0 _ [(0 : Int32)] _ h) (Nat.le_of_ble_eq_true rfl) rfl rfl rfl dX7_read_41 rfl (fun _ _ hh => ?_)
  obtain ⟨τ2, rfl, rfl, h⟩ := hh
  refine aw_stk (st' := []) rfl ?_
  refine aw_aload_n 0 dX7_read_44 rfl rfl ?_
  refine aw_iconst (v := (0 : Int32)) dX7_read_45 (by decide) ?_
  refine aw_callVT (mc1 := 0) (ms1 := 0) (mc := 0) (ms := 0) (st := []) (q := 0) (As := [.int (0 : Int32)]) lX7_38 insX7_take selX7_take ⟨TX7, 3, rfl⟩ (by omega) (kX7_take (d := 2) (by omega) h) (Nat.le_of_ble_eq_true rfl) rfl rfl rfl dX7_read_46 rfl (fun _ _ hh => ?_)
  obtain ⟨r4, τ5, rfl, rfl, h⟩ := hh
  refine aw_stk (st' := [.int r4]) rfl ?_
  refine aw_pop dX7_read_49 rfl ?_
  refine aw_aload_n 0 dX7_read_50 rfl rfl ?_
  refine aw_getf (v := .int τ5.1.1) fX7_19 0 rfl rfl dX7_read_51 ?_
  exact aw_iret rfl dX7_read_54 ⟨_, τ5, rfl, rfl, h⟩
def wb_X7_read_7  (post : Int32 → WSX7 → Prop) (rec_7 : WSX7 × Int32 → Prop) (σ : WSX7) (x1 : Int32) : Prop :=
  (((3000 : Int32) ≤ x1 → wp_X7_read_39  post σ) ∧ (¬ (3000 : Int32) ≤ x1 → ((¬ σ.1.1 = ((-1) : Int32) → wp_X7_read_39  post σ) ∧ (σ.1.1 = ((-1) : Int32) → wp_X7_atLevel σ  (fun r6 τ7 => ((r6 = 0 → wp_X7_read_39  post τ7) ∧ (¬ r6 = 0 → wp_X7_declaration τ7  (fun τ9 => rec_7 (τ9, (x1 + 1))))))))))
def wp_X7_read_7  (post : Int32 → WSX7 → Prop) (n : Nat) (σ : WSX7) (x1 : Int32) : Prop := aw_loop (fun r (a : WSX7 × Int32) => wb_X7_read_7  post r a.1 a.2) n (σ, x1)
theorem aw_X7_read_7 {G : aw_G} {d : Nat} (hd : 404 ≤ d) {post : Int32 → WSX7 → Prop}  : ∀ (n : Nat) (σ : WSX7) (x1 : Int32), wp_X7_read_7  post n σ x1 → AW G MX7_read d 0 0 17 (aw_pi (wX7 G) post) 7 [(0, .ref 0), (1, .int x1)] [] (wX7 G σ) := by
  intro n
  induction n with
  | zero => intro σ x1 h; exact h.elim
  | succ n ih =>
    intro σ x1 h
    have hrec_7 : ∀ a : WSX7 × Int32, aw_loop (fun r (a : WSX7 × Int32) => wb_X7_read_7  post r a.1 a.2) n a → AW G MX7_read d 0 0 17 (aw_pi (wX7 G) post) 7 [(0, .ref 0), (1, .int a.2)] [] (wX7 G a.1) := fun a h => ih a.1 a.2 h
    have h : wb_X7_read_7  post (aw_loop (fun r (a : WSX7 × Int32) => wb_X7_read_7  post r a.1 a.2) n) σ x1 := h
    unfold wb_X7_read_7 at h
    refine aw_iload_n 1 dX7_read_7 rfl rfl ?_
    refine aw_sipush (v := (3000 : Int32)) dX7_read_8 (by decide) ?_
    refine aw_icmp_ge 39 dX7_read_11 (by decide) (fun c12 => ?_) (fun c12 => ?_)
    · have h := h.1 c12
      refine aw_lvsub (lv' := [(0, .ref 0)]) [0] rfl ?_
      exact aw_X7_read_39 hd  h
    · have h := h.2 c12
      refine aw_aload_n 0 dX7_read_14 rfl rfl ?_
      refine aw_getf (v := .int σ.1.1) fX7_19 0 rfl rfl dX7_read_15 ?_
      refine aw_iconst (v := ((-1) : Int32)) dX7_read_18 (by decide) ?_
      refine aw_icmp_ne 39 dX7_read_19 (by decide) (fun c11 => ?_) (fun c11 => ?_)
      · have h := h.1 c11
        refine aw_lvsub (lv' := [(0, .ref 0)]) [0] rfl ?_
        exact aw_X7_read_39 hd  h
      · have h := h.2 c11
        refine aw_aload_n 0 dX7_read_22 rfl rfl ?_
        refine aw_callVT (mc1 := 0) (ms1 := 0) (mc := 0) (ms := 0) (st := []) (q := 0) (As := []) lX7_25 insX7_atLevel selX7_atLevel ⟨TX7, 3, rfl⟩ (by omega) (kX7_atLevel (d := 1) (by omega) h) (Nat.le_of_ble_eq_true rfl) rfl rfl rfl dX7_read_23 rfl (fun _ _ hh => ?_)
        obtain ⟨r6, τ7, rfl, rfl, h⟩ := hh
        refine aw_stk (st' := [.int r6]) rfl ?_
        refine aw_if_eq 39 dX7_read_26 (by decide) (fun c10 => ?_) (fun c10 => ?_)
        · have h := h.1 c10
          refine aw_lvsub (lv' := [(0, .ref 0)]) [0] rfl ?_
          exact aw_X7_read_39 hd  h
        · have h := h.2 c10
          refine aw_aload_n 0 dX7_read_29 rfl rfl ?_
          refine aw_callVT (mc1 := 0) (ms1 := 0) (mc := 0) (ms := 0) (st := []) (q := 0) (As := []) lX7_29 insX7_declaration selX7_declaration ⟨TX7, 3, rfl⟩ (by omega) (kX7_declaration (d := 3) (by omega) h) (Nat.le_of_ble_eq_true rfl) rfl rfl rfl dX7_read_30 rfl (fun _ _ hh => ?_)
          obtain ⟨τ9, rfl, rfl, h⟩ := hh
          refine aw_stk (st' := []) rfl ?_
          refine aw_iinc 1 (v := (x1 + 1)) (lv' := [(1, .int (x1 + 1)), (0, .ref 0)]) dX7_read_33 rfl rfl (by decide) rfl ?_
          refine aw_goto 7 dX7_read_36 (by decide) ?_
          refine aw_lvsub (lv' := [(0, .ref 0), (1, .int (x1 + 1))]) [1, 0] rfl ?_
          exact hrec_7 (τ9, (x1 + 1)) h
def wp_X7_read (σ : WSX7) (post : Int32 → WSX7 → Prop) : Prop :=
  (∃ n13, wp_X7_read_7  post n13 ((((-1) : Int32), σ.1.2), σ.2) (0 : Int32))
theorem kX7_read {G : aw_G} {d : Nat} (hd : 404 ≤ d) {σ : WSX7} {post : Int32 → WSX7 → Prop} (h : wp_X7_read σ post) : AC G MX7_read d 0 0 17 [.ref 0] (wX7 G σ) (aw_pi (wX7 G) post) := by
  refine AC.of (lv := [(0, .ref 0)]) (by decide) (Nat.le_of_ble_eq_true rfl) rfl ?_
  unfold wp_X7_read at h
  refine aw_aload_n 0 dX7_read_0 rfl rfl ?_
  refine aw_iconst (v := ((-1) : Int32)) dX7_read_1 (by decide) ?_
  refine aw_putf fX7_19 0 (w' := (wX7 G ((((-1) : Int32), σ.1.2), σ.2))) rfl (fun _ => ⟨rfl, rfl⟩) (Nat.le_of_ble_eq_true rfl) rfl dX7_read_2 ?_
  refine aw_iconst (v := (0 : Int32)) dX7_read_5 (by decide) ?_
  refine aw_istore_n (lv' := [(1, .int (0 : Int32)), (0, .ref 0)]) dX7_read_6 rfl (by decide) rfl ?_
  refine aw_lvsub (lv' := [(0, .ref 0), (1, .int (0 : Int32))]) [1, 0] rfl ?_
  obtain ⟨n13, h⟩ := h
  exact aw_X7_read_7 hd  n13 ((((-1) : Int32), σ.1.2), σ.2) (0 : Int32) h
end WalkX7
