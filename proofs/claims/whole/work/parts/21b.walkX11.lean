section WalkX11
def wp_X11_feed (σ : WSX11) (a1 : Int32) (a2 : Int32) (a3 : Int32) (a4 : Int32) (a5 : Int32) (post : Int32 → WSX11 → Prop) : Prop :=
  wp_X8_hasRoom σ.1.1.2.1  (fun r1 τ2 => ((¬ r1 = 0 → wp_X8_add τ2 a1 (fun τ4 => wp_X8_add τ4 a2 (fun τ6 => wp_X8_add τ6 a3 (fun τ8 => wp_X8_add τ8 a4 (fun τ10 => wp_X8_add τ10 a5 (fun τ12 => wp_X8_fed τ12  (fun r13 τ14 => post r13 (((σ.1.1.1, (τ14, σ.1.1.2.2)), σ.1.2), σ.2)))))))) ∧ (r1 = 0 → post ((-1) : Int32) (((σ.1.1.1, (τ2, σ.1.1.2.2)), σ.1.2), σ.2))))
theorem kX11_feed {G : aw_G} {d : Nat} (hd : 1 ≤ d) {σ : WSX11} {a1 : Int32} {a2 : Int32} {a3 : Int32} {a4 : Int32} {a5 : Int32} {post : Int32 → WSX11 → Prop} (h : wp_X11_feed σ a1 a2 a3 a4 a5 post) : AC G MX11_feed d 0 0 42 [.ref 0, .int a1, .int a2, .int a3, .int a4, .int a5] (wX11 G σ) (aw_pi (wX11 G) post) := by
  refine AC.of (lv := [(0, .ref 0), (1, .int a1), (2, .int a2), (3, .int a3), (4, .int a4), (5, .int a5)]) (by decide) (Nat.le_of_ble_eq_true rfl) rfl ?_
  unfold wp_X11_feed at h
  refine aw_aload_n 0 dX11_feed_0 rfl rfl ?_
  refine aw_getf (v := .ref 1) fX11_10 0 rfl rfl dX11_feed_1 ?_
  refine aw_callV (mc1 := 0) (ms1 := 0) (mc := 0) (ms := 0) (st := []) (q := 1) (As := []) (vsc := []) lX11_91 insX8_hasRoom selX8_hasRoom ⟨TX8, 2, rfl⟩ (by omega) (kX8_hasRoom (d := 0) (by omega) h) [1, 2] rfl rfl rfl rfl rfl dX11_feed_4 rfl rfl (fun _ _ hh => ?_)
  obtain ⟨r1, τ2, rfl, rfl, h⟩ := hh
  refine ⟨(wX11 G (((σ.1.1.1, (τ2, σ.1.1.2.2)), σ.1.2), σ.2)), [.int r1], rfl, rfl, rfl, ?_⟩
  refine aw_if_ne 12 dX11_feed_7 (by decide) (fun c15 => ?_) (fun c15 => ?_)
  · have h := h.1 c15
    refine aw_aload_n 0 dX11_feed_12 rfl rfl ?_
    refine aw_getf (v := .ref 1) fX11_10 0 rfl rfl dX11_feed_13 ?_
    refine aw_iload_n 1 dX11_feed_16 rfl rfl ?_
    refine aw_callV (mc1 := 0) (ms1 := 0) (mc := 0) (ms := 0) (st := []) (q := 1) (As := [.int a1]) (vsc := [.int a1]) lX11_95 insX8_add selX8_add ⟨TX8, 2, rfl⟩ (by omega) (kX8_add (d := 0) (by omega) h) [1, 2] rfl rfl rfl rfl rfl dX11_feed_17 rfl rfl (fun _ _ hh => ?_)
    obtain ⟨τ4, rfl, rfl, h⟩ := hh
    refine ⟨(wX11 G (((σ.1.1.1, (τ4, σ.1.1.2.2)), σ.1.2), σ.2)), [], rfl, rfl, rfl, ?_⟩
    refine aw_aload_n 0 dX11_feed_20 rfl rfl ?_
    refine aw_getf (v := .ref 1) fX11_10 0 rfl rfl dX11_feed_21 ?_
    refine aw_iload_n 2 dX11_feed_24 rfl rfl ?_
    refine aw_callV (mc1 := 0) (ms1 := 0) (mc := 0) (ms := 0) (st := []) (q := 1) (As := [.int a2]) (vsc := [.int a2]) lX11_95 insX8_add selX8_add ⟨TX8, 2, rfl⟩ (by omega) (kX8_add (d := 0) (by omega) h) [1, 2] rfl rfl rfl rfl rfl dX11_feed_25 rfl rfl (fun _ _ hh => ?_)
    obtain ⟨τ6, rfl, rfl, h⟩ := hh
    refine ⟨(wX11 G (((σ.1.1.1, (τ6, σ.1.1.2.2)), σ.1.2), σ.2)), [], rfl, rfl, rfl, ?_⟩
    refine aw_aload_n 0 dX11_feed_28 rfl rfl ?_
    refine aw_getf (v := .ref 1) fX11_10 0 rfl rfl dX11_feed_29 ?_
    refine aw_iload_n 3 dX11_feed_32 rfl rfl ?_
    refine aw_callV (mc1 := 0) (ms1 := 0) (mc := 0) (ms := 0) (st := []) (q := 1) (As := [.int a3]) (vsc := [.int a3]) lX11_95 insX8_add selX8_add ⟨TX8, 2, rfl⟩ (by omega) (kX8_add (d := 0) (by omega) h) [1, 2] rfl rfl rfl rfl rfl dX11_feed_33 rfl rfl (fun _ _ hh => ?_)
    obtain ⟨τ8, rfl, rfl, h⟩ := hh
    refine ⟨(wX11 G (((σ.1.1.1, (τ8, σ.1.1.2.2)), σ.1.2), σ.2)), [], rfl, rfl, rfl, ?_⟩
    refine aw_aload_n 0 dX11_feed_36 rfl rfl ?_
    refine aw_getf (v := .ref 1) fX11_10 0 rfl rfl dX11_feed_37 ?_
    refine aw_iload 4 dX11_feed_40 rfl ?_
    refine aw_callV (mc1 := 0) (ms1 := 0) (mc := 0) (ms := 0) (st := []) (q := 1) (As := [.int a4]) (vsc := [.int a4]) lX11_95 insX8_add selX8_add ⟨TX8, 2, rfl⟩ (by omega) (kX8_add (d := 0) (by omega) h) [1, 2] rfl rfl rfl rfl rfl dX11_feed_42 rfl rfl (fun _ _ hh => ?_)
    obtain ⟨τ10, rfl, rfl, h⟩ := hh
    refine ⟨(wX11 G (((σ.1.1.1, (τ10, σ.1.1.2.2)), σ.1.2), σ.2)), [], rfl, rfl, rfl, ?_⟩
    refine aw_aload_n 0 dX11_feed_45 rfl rfl ?_
    refine aw_getf (v := .ref 1) fX11_10 0 rfl rfl dX11_feed_46 ?_
    refine aw_iload 5 dX11_feed_49 rfl ?_
    refine aw_callV (mc1 := 0) (ms1 := 0) (mc := 0) (ms := 0) (st := []) (q := 1) (As := [.int a5]) (vsc := [.int a5]) lX11_95 insX8_add selX8_add ⟨TX8, 2, rfl⟩ (by omega) (kX8_add (d := 0) (by omega) h) [1, 2] rfl rfl rfl rfl rfl dX11_feed_51 rfl rfl (fun _ _ hh => ?_)
    obtain ⟨τ12, rfl, rfl, h⟩ := hh
    refine ⟨(wX11 G (((σ.1.1.1, (τ12, σ.1.1.2.2)), σ.1.2), σ.2)), [], rfl, rfl, rfl, ?_⟩
    refine aw_aload_n 0 dX11_feed_54 rfl rfl ?_
    refine aw_getf (v := .ref 1) fX11_10 0 rfl rfl dX11_feed_55 ?_
    refine aw_callV (mc1 := 0) (ms1 := 0) (mc := 0) (ms := 0) (st := []) (q := 1) (As := []) (vsc := []) lX11_99 insX8_fed selX8_fed ⟨TX8, 2, rfl⟩ (by omega) (kX8_fed (d := 0) (by omega) h) [1, 2] rfl rfl rfl rfl rfl dX11_feed_58 rfl rfl (fun _ _ hh => ?_)
    obtain ⟨r13, τ14, rfl, rfl, h⟩ := hh
    refine ⟨(wX11 G (((σ.1.1.1, (τ14, σ.1.1.2.2)), σ.1.2), σ.2)), [.int r13], rfl, rfl, rfl, ?_⟩
    exact aw_iret rfl dX11_feed_61 ⟨_, (((σ.1.1.1, (τ14, σ.1.1.2.2)), σ.1.2), σ.2), rfl, rfl, h⟩
  · have h := h.2 c15
    refine aw_iconst (v := ((-1) : Int32)) dX11_feed_10 (by decide) ?_
    exact aw_iret rfl dX11_feed_11 ⟨_, (((σ.1.1.1, (τ2, σ.1.1.2.2)), σ.1.2), σ.2), rfl, rfl, h⟩
def wp_X11_load_138  (post : Int32 → WSX11 → Prop) (σ : WSX11) (x2 : Int32) (s0 : Int32) : Prop :=
  ((σ.1.1.1.1 = 0 → ((¬ x2 = ((-1) : Int32) → post ((-2) : Int32) ((((σ.1.1.1.1, (σ.1.1.1.2.1, s0)), σ.1.1.2), σ.1.2), σ.2)) ∧ (x2 = ((-1) : Int32) → post ((-3) : Int32) ((((σ.1.1.1.1, (σ.1.1.1.2.1, s0)), σ.1.1.2), σ.1.2), σ.2)))) ∧ (¬ σ.1.1.1.1 = 0 → wp_X0_write ((σ.2.1.2.2, σ.1.2.2.1), (σ.1.2.2.2, (σ.1.1.2.1, σ.2.2.1.1)))  (fun τ21 => post (0 : Int32) ((((σ.1.1.1.1, (σ.1.1.1.2.1, s0)), (τ21.2.2.1, σ.1.1.2.2)), (σ.1.2.1, (τ21.1.2, τ21.2.1))), ((σ.2.1.1, (σ.2.1.2.1, τ21.1.1)), ((τ21.2.2.2, σ.2.2.1.2), σ.2.2.2))))))
theorem aw_X11_load_138 {G : aw_G} {d : Nat} (hd : 407 ≤ d) {post : Int32 → WSX11 → Prop}  {σ : WSX11} {x2 : Int32} {s0 : Int32} (h : wp_X11_load_138  post σ x2 s0) : AW G MX11_load d 0 0 26 (aw_pi (wX11 G) post) 138 [(0, .ref 0), (2, .int x2)] [.int s0, .ref 0] (wX11 G σ) := by
  unfold wp_X11_load_138 at h
  refine aw_putf fX11_88 0 (w' := (wX11 G ((((σ.1.1.1.1, (σ.1.1.1.2.1, s0)), σ.1.1.2), σ.1.2), σ.2))) rfl (fun _ => ⟨rfl, rfl⟩) (Nat.le_of_ble_eq_true rfl) rfl dX11_load_138 ?_
  refine aw_aload_n 0 dX11_load_141 rfl rfl ?_
  refine aw_getf (v := .int σ.1.1.1.1) fX11_80 0 rfl rfl dX11_load_142 ?_
  refine aw_if_eq 157 dX11_load_145 (by decide) (fun c22 => ?_) (fun c22 => ?_)
  · have h := h.1 c22
    refine aw_iload_n 1 dX11_load_157 rfl rfl ?_
    refine aw_iconst (v := ((-1) : Int32)) dX11_load_158 (by decide) ?_
    refine aw_icmp_ne 167 dX11_load_159 (by decide) (fun c19 => ?_) (fun c19 => ?_)
    · have h := h.1 c19
      refine aw_bipush (v := ((-2) : Int32)) dX11_load_167 (by decide) ?_
      exact aw_iret rfl dX11_load_169 ⟨_, ((((σ.1.1.1.1, (σ.1.1.1.2.1, s0)), σ.1.1.2), σ.1.2), σ.2), rfl, rfl, h⟩
    · have h := h.2 c19
      refine aw_bipush (v := ((-3) : Int32)) dX11_load_162 (by decide) ?_
      refine aw_goto 169 dX11_load_164 (by decide) ?_
      exact aw_iret rfl dX11_load_169 ⟨_, ((((σ.1.1.1.1, (σ.1.1.1.2.1, s0)), σ.1.1.2), σ.1.2), σ.2), rfl, rfl, h⟩
  · have h := h.2 c22
    refine aw_aload_n 0 dX11_load_148 rfl rfl ?_
    refine aw_getf (v := .ref 18) fX11_69 0 rfl rfl dX11_load_149 ?_
    refine aw_callV (mc1 := 0) (ms1 := 0) (mc := 0) (ms := 0) (st := []) (q := 18) (As := []) (vsc := []) lX11_126 insX0_write selX0_write ⟨TX0, 12, rfl⟩ (by omega) (kX0_write (d := 406) (by omega) h) [18, 19, 8, 9, 10, 11, 12, 13, 14, 15, 1, 2, 20, 21, 22, 23, 29, 30, 31, 32, 33, 34, 35, 36, 37] rfl rfl rfl rfl rfl dX11_load_152 rfl rfl (fun _ _ hh => ?_)
    obtain ⟨τ21, rfl, rfl, h⟩ := hh
    refine ⟨(wX11 G ((((σ.1.1.1.1, (σ.1.1.1.2.1, s0)), (τ21.2.2.1, σ.1.1.2.2)), (σ.1.2.1, (τ21.1.2, τ21.2.1))), ((σ.2.1.1, (σ.2.1.2.1, τ21.1.1)), ((τ21.2.2.2, σ.2.2.1.2), σ.2.2.2)))), [], rfl, rfl, rfl, ?_⟩
    refine aw_iconst (v := (0 : Int32)) dX11_load_155 (by decide) ?_
    exact aw_iret rfl dX11_load_156 ⟨_, ((((σ.1.1.1.1, (σ.1.1.1.2.1, s0)), (τ21.2.2.1, σ.1.1.2.2)), (σ.1.2.1, (τ21.1.2, τ21.2.1))), ((σ.2.1.1, (σ.2.1.2.1, τ21.1.1)), ((τ21.2.2.2, σ.2.2.1.2), σ.2.2.2))), rfl, rfl, h⟩
def wp_X11_load_122  (post : Int32 → WSX11 → Prop) (σ : WSX11) (x2 : Int32) (x3 : Int32) (s0 : Int32) : Prop :=
  ((σ.1.1.1.1 = 0 → wp_X11_load_138  post ((((σ.1.1.1.1, (s0, σ.1.1.1.2.2)), σ.1.1.2), σ.1.2), σ.2) x2 x3) ∧ (¬ σ.1.1.1.1 = 0 → wp_X11_load_138  post ((((σ.1.1.1.1, (s0, σ.1.1.1.2.2)), σ.1.1.2), σ.1.2), σ.2) x2 ((-1) : Int32)))
theorem aw_X11_load_122 {G : aw_G} {d : Nat} (hd : 407 ≤ d) {post : Int32 → WSX11 → Prop}  {σ : WSX11} {x2 : Int32} {x3 : Int32} {s0 : Int32} (h : wp_X11_load_122  post σ x2 x3 s0) : AW G MX11_load d 0 0 26 (aw_pi (wX11 G) post) 122 [(0, .ref 0), (2, .int x2), (3, .int x3)] [.int s0, .ref 0] (wX11 G σ) := by
  unfold wp_X11_load_122 at h
  refine aw_putf fX11_84 0 (w' := (wX11 G ((((σ.1.1.1.1, (s0, σ.1.1.1.2.2)), σ.1.1.2), σ.1.2), σ.2))) rfl (fun _ => ⟨rfl, rfl⟩) (Nat.le_of_ble_eq_true rfl) rfl dX11_load_122 ?_
  refine aw_aload_n 0 dX11_load_125 rfl rfl ?_
  refine aw_aload_n 0 dX11_load_126 rfl rfl ?_
  refine aw_getf (v := .int σ.1.1.1.1) fX11_80 0 rfl rfl dX11_load_127 ?_
  refine aw_if_eq 137 dX11_load_130 (by decide) (fun c23 => ?_) (fun c23 => ?_)
  · have h := h.1 c23
    refine aw_iload_n 2 dX11_load_137 rfl rfl ?_
    refine aw_lvsub (lv' := [(0, .ref 0), (2, .int x2)]) [0, 1] rfl ?_
    exact aw_X11_load_138 hd  h
  · have h := h.2 c23
    refine aw_iconst (v := ((-1) : Int32)) dX11_load_133 (by decide) ?_
    refine aw_goto 138 dX11_load_134 (by decide) ?_
    refine aw_lvsub (lv' := [(0, .ref 0), (2, .int x2)]) [0, 1] rfl ?_
    exact aw_X11_load_138 hd  h
def wp_X11_load_102  (post : Int32 → WSX11 → Prop) (σ : WSX11) (x2 : Int32) (x3 : Int32) (s0 : Int32) : Prop :=
  (aw_bz s0 ∧ ((¬ x2 = ((-1) : Int32) → wp_X11_load_122  post ((((s0, σ.1.1.1.2), σ.1.1.2), σ.1.2), σ.2) x2 x3 x2) ∧ (x2 = ((-1) : Int32) → wp_X1_wrongPlace ((σ.2.1.2.1, σ.1.2.2.1), (σ.1.2.2.2, σ.1.1.2.1))  (fun r24 τ25 => wp_X11_load_122  post ((((s0, σ.1.1.1.2), (τ25.2.2, σ.1.1.2.2)), (σ.1.2.1, (τ25.1.2, τ25.2.1))), ((σ.2.1.1, (τ25.1.1, σ.2.1.2.2)), σ.2.2)) x2 x3 r24))))
theorem aw_X11_load_102 {G : aw_G} {d : Nat} (hd : 407 ≤ d) {post : Int32 → WSX11 → Prop}  {σ : WSX11} {x2 : Int32} {x3 : Int32} {s0 : Int32} (h : wp_X11_load_102  post σ x2 x3 s0) : AW G MX11_load d 0 0 26 (aw_pi (wX11 G) post) 102 [(0, .ref 0), (2, .int x2), (3, .int x3)] [.int s0, .ref 0] (wX11 G σ) := by
  unfold wp_X11_load_102 at h
  refine aw_putf fX11_80 0 (w' := (wX11 G ((((s0, σ.1.1.1.2), σ.1.1.2), σ.1.2), σ.2))) rfl (fun _ => h.1) (Nat.le_of_ble_eq_true rfl) rfl dX11_load_102 ?_
  have h := h.2
  refine aw_aload_n 0 dX11_load_105 rfl rfl ?_
  refine aw_iload_n 1 dX11_load_106 rfl rfl ?_
  refine aw_iconst (v := ((-1) : Int32)) dX11_load_107 (by decide) ?_
  refine aw_icmp_ne 121 dX11_load_108 (by decide) (fun c26 => ?_) (fun c26 => ?_)
  · have h := h.1 c26
    refine aw_iload_n 1 dX11_load_121 rfl rfl ?_
    exact aw_X11_load_122 hd  h
  · have h := h.2 c26
    refine aw_aload_n 0 dX11_load_111 rfl rfl ?_
    refine aw_getf (v := .ref 17) fX11_60 0 rfl rfl dX11_load_112 ?_
    refine aw_callV (mc1 := 0) (ms1 := 0) (mc := 0) (ms := 0) (st := [.ref 0]) (q := 17) (As := []) (vsc := []) lX11_123 insX1_wrongPlace selX1_wrongPlace ⟨TX1, 4, rfl⟩ (by omega) (kX1_wrongPlace (d := 0) (by omega) h) [17, 8, 9, 10, 11, 12, 13, 14, 15, 1, 2, 29, 30, 31, 32, 33, 34, 35, 36, 37] rfl rfl rfl rfl rfl dX11_load_115 rfl rfl (fun _ _ hh => ?_)
    obtain ⟨r24, τ25, rfl, rfl, h⟩ := hh
    refine ⟨(wX11 G ((((s0, σ.1.1.1.2), (τ25.2.2, σ.1.1.2.2)), (σ.1.2.1, (τ25.1.2, τ25.2.1))), ((σ.2.1.1, (τ25.1.1, σ.2.1.2.2)), σ.2.2))), [.int r24, .ref 0], rfl, rfl, rfl, ?_⟩
    refine aw_goto 122 dX11_load_118 (by decide) ?_
    exact aw_X11_load_122 hd  h
def wp_X11_load_101  (post : Int32 → WSX11 → Prop) (σ : WSX11) (x2 : Int32) (x3 : Int32) : Prop :=
  wp_X11_load_102  post σ x2 x3 (0 : Int32)
theorem aw_X11_load_101 {G : aw_G} {d : Nat} (hd : 407 ≤ d) {post : Int32 → WSX11 → Prop}  {σ : WSX11} {x2 : Int32} {x3 : Int32} (h : wp_X11_load_101  post σ x2 x3) : AW G MX11_load d 0 0 26 (aw_pi (wX11 G) post) 101 [(0, .ref 0), (2, .int x2), (3, .int x3)] [.ref 0] (wX11 G σ) := by
  unfold wp_X11_load_101 at h
  refine aw_iconst (v := (0 : Int32)) dX11_load_101 (by decide) ?_
  exact aw_X11_load_102 hd  h
def wp_X11_load_79  (post : Int32 → WSX11 → Prop) (σ : WSX11) (x2 : Int32) (s0 : Int32) : Prop :=
  wp_X8_empty σ.1.1.2.1  (fun τ18 => ((¬ x2 = ((-1) : Int32) → wp_X11_load_101  post (((σ.1.1.1, (τ18, σ.1.1.2.2)), σ.1.2), σ.2) x2 s0) ∧ (x2 = ((-1) : Int32) → ((¬ s0 = 0 → wp_X11_load_101  post (((σ.1.1.1, (τ18, σ.1.1.2.2)), σ.1.2), σ.2) x2 s0) ∧ (s0 = 0 → wp_X11_load_102  post (((σ.1.1.1, (τ18, σ.1.1.2.2)), σ.1.2), σ.2) x2 s0 (1 : Int32))))))
theorem aw_X11_load_79 {G : aw_G} {d : Nat} (hd : 407 ≤ d) {post : Int32 → WSX11 → Prop}  {σ : WSX11} {x2 : Int32} {s0 : Int32} (h : wp_X11_load_79  post σ x2 s0) : AW G MX11_load d 0 0 26 (aw_pi (wX11 G) post) 79 [(0, .ref 0), (2, .int x2)] [.int s0] (wX11 G σ) := by
  unfold wp_X11_load_79 at h
  refine aw_istore_n (lv' := [(3, .int s0), (0, .ref 0), (2, .int x2)]) dX11_load_79 rfl (by decide) rfl ?_
  refine aw_aload_n 1 dX11_load_80 rfl rfl ?_
  refine aw_getf (v := .ref 1) fX11_10 0 rfl rfl dX11_load_81 ?_
  refine aw_callV (mc1 := 0) (ms1 := 0) (mc := 0) (ms := 0) (st := []) (q := 1) (As := []) (vsc := []) lX11_120 insX8_empty selX8_empty ⟨TX8, 2, rfl⟩ (by omega) (kX8_empty (d := 0) (by omega) h) [1, 2] rfl rfl rfl rfl rfl dX11_load_84 rfl rfl (fun _ _ hh => ?_)
  obtain ⟨τ18, rfl, rfl, h⟩ := hh
  refine ⟨(wX11 G (((σ.1.1.1, (τ18, σ.1.1.2.2)), σ.1.2), σ.2)), [], rfl, rfl, rfl, ?_⟩
  refine aw_aload_n 1 dX11_load_87 rfl rfl ?_
  refine aw_iload_n 2 dX11_load_88 rfl rfl ?_
  refine aw_iconst (v := ((-1) : Int32)) dX11_load_89 (by decide) ?_
  refine aw_icmp_ne 101 dX11_load_90 (by decide) (fun c28 => ?_) (fun c28 => ?_)
  · have h := h.1 c28
    refine aw_lvsub (lv' := [(0, .ref 0), (2, .int x2), (3, .int s0)]) [1, 2, 0] rfl ?_
    exact aw_X11_load_101 hd  h
  · have h := h.2 c28
    refine aw_iload_n 0 dX11_load_93 rfl rfl ?_
    refine aw_if_ne 101 dX11_load_94 (by decide) (fun c27 => ?_) (fun c27 => ?_)
    · have h := h.1 c27
      refine aw_lvsub (lv' := [(0, .ref 0), (2, .int x2), (3, .int s0)]) [1, 2, 0] rfl ?_
      exact aw_X11_load_101 hd  h
    · have h := h.2 c27
      refine aw_iconst (v := (1 : Int32)) dX11_load_97 (by decide) ?_
      refine aw_goto 102 dX11_load_98 (by decide) ?_
      refine aw_lvsub (lv' := [(0, .ref 0), (2, .int x2), (3, .int s0)]) [1, 2, 0] rfl ?_
      exact aw_X11_load_102 hd  h
def wp_X11_load (bs : Nat) (σ : WSX11) (a1 : Int32) (post : Int32 → WSX11 → Prop) : Prop :=
  ((a1 < 0 → post ((-1) : Int32) σ) ∧ (¬ a1 < 0 → wp_X8_fed σ.1.1.2.1  (fun r1 τ2 => ((a1 ≤ r1 → wp_X8_cut τ2 a1 (fun τ4 => ((9 * (a1).toNatClampNeg) ≤ bs ∧ wp_X4_clear (9 * (a1).toNatClampNeg) σ.1.2.2.1 a1 (fun τ7 => wp_X3_clear (σ.1.2.2.2, τ4)  (fun τ9 => wp_X10_clear ((σ.2.2.1.2, (τ7, τ9.1)), ((τ9.2, σ.2.2.1.1), σ.2.2.2))  (fun τ11 => ((3 * ((a1).toNatClampNeg + 1)) ≤ (bs - (9 * (a1).toNatClampNeg)) ∧ wp_X9_read (3 * ((a1).toNatClampNeg + 1)) (σ.1.1.2.2, τ11.2.1.1) a1 (fun τ14 => wp_X7_read ((σ.2.1.1, τ14.1), (τ14.2, τ11.1.2.1))  (fun r15 τ16 => ((¬ r15 = ((-1) : Int32) → wp_X11_load_79  post (((σ.1.1.1, (τ16.2.1, τ16.1.2)), (σ.1.2.1, (τ16.2.2, τ11.1.2.2))), ((τ16.1.1, σ.2.1.2), ((τ11.2.1.2, τ11.1.1), τ11.2.2))) r15 (0 : Int32)) ∧ (r15 = ((-1) : Int32) → wp_X1_firstWrong ((σ.2.1.2.1, τ16.2.2), (τ11.1.2.2, τ16.2.1))  (fun r29 τ30 => wp_X11_load_79  post (((σ.1.1.1, (τ30.2.2, τ16.1.2)), (σ.1.2.1, (τ30.1.2, τ30.2.1))), ((τ16.1.1, (τ30.1.1, σ.2.1.2.2)), ((τ11.2.1.2, τ11.1.1), τ11.2.2))) r15 r29)))))))))))) ∧ (¬ a1 ≤ r1 → post ((-1) : Int32) (((σ.1.1.1, (τ2, σ.1.1.2.2)), σ.1.2), σ.2))))))
theorem kX11_load {G : aw_G} {d : Nat} (hd : 407 ≤ d) {bs : Nat} {σ : WSX11} {a1 : Int32} {post : Int32 → WSX11 → Prop} (h : wp_X11_load bs σ a1 post) : AC G MX11_load d 12 bs 26 [.ref 0, .int a1] (wX11 G σ) (aw_pi (wX11 G) post) := by
  refine AC.of (lv := [(0, .ref 0), (1, .int a1)]) (by decide) (Nat.le_of_ble_eq_true rfl) rfl ?_
  unfold wp_X11_load at h
  refine aw_iload_n 1 dX11_load_0 rfl rfl ?_
  refine aw_if_lt 15 dX11_load_1 (by decide) (fun c33 => ?_) (fun c33 => ?_)
  · have h := h.1 c33
    refine aw_iconst (v := ((-1) : Int32)) dX11_load_15 (by decide) ?_
    refine aw_bud (mc := 0) (ms := 0) (Nat.zero_le _) (Nat.zero_le _) ?_
    exact aw_iret rfl dX11_load_16 ⟨_, σ, rfl, rfl, h⟩
  · have h := h.2 c33
    refine aw_iload_n 1 dX11_load_4 rfl rfl ?_
    refine aw_aload_n 0 dX11_load_5 rfl rfl ?_
    refine aw_getf (v := .ref 1) fX11_10 0 rfl rfl dX11_load_6 ?_
    refine aw_bud (mc := 0 + 12) (ms := 0 + bs) (by omega) (by omega) ?_
    refine aw_callV (mc1 := 0) (ms1 := 0) (mc := 12) (ms := bs) (st := [.int a1]) (q := 1) (As := []) (vsc := []) lX11_99 insX8_fed selX8_fed ⟨TX8, 2, rfl⟩ (by omega) (kX8_fed (d := 0) (by omega) h) [1, 2] rfl rfl rfl rfl rfl dX11_load_9 rfl rfl (fun _ _ hh => ?_)
    obtain ⟨r1, τ2, rfl, rfl, h⟩ := hh
    refine ⟨(wX11 G (((σ.1.1.1, (τ2, σ.1.1.2.2)), σ.1.2), σ.2)), [.int r1, .int a1], rfl, rfl, rfl, ?_⟩
    refine aw_icmp_le 17 dX11_load_12 (by decide) (fun c32 => ?_) (fun c32 => ?_)
    · have h := h.1 c32
      refine aw_aload_n 0 dX11_load_17 rfl rfl ?_
      refine aw_getf (v := .ref 1) fX11_10 0 rfl rfl dX11_load_18 ?_
      refine aw_iload_n 1 dX11_load_21 rfl rfl ?_
      refine aw_bud (mc := 0 + 12) (ms := 0 + bs) (by omega) (by omega) ?_
      refine aw_callV (mc1 := 0) (ms1 := 0) (mc := 12) (ms := bs) (st := []) (q := 1) (As := [.int a1]) (vsc := [.int a1]) lX11_103 insX8_cut selX8_cut ⟨TX8, 2, rfl⟩ (by omega) (kX8_cut (d := 1) (by omega) h) [1, 2] rfl rfl rfl rfl rfl dX11_load_22 rfl rfl (fun _ _ hh => ?_)
      obtain ⟨τ4, rfl, rfl, h⟩ := hh
      refine ⟨(wX11 G (((σ.1.1.1, (τ4, σ.1.1.2.2)), σ.1.2), σ.2)), [], rfl, rfl, rfl, ?_⟩
      refine aw_aload_n 0 dX11_load_25 rfl rfl ?_
      refine aw_getf (v := .ref 8) fX11_35 0 rfl rfl dX11_load_26 ?_
      refine aw_iload_n 1 dX11_load_29 rfl rfl ?_
      obtain ⟨hb5, h⟩ := h
      refine aw_bud (mc := 9 + 3) (ms := (9 * (a1).toNatClampNeg) + (bs - (9 * (a1).toNatClampNeg))) (by omega) (by omega) ?_
      refine aw_callV (mc1 := 9) (ms1 := (9 * (a1).toNatClampNeg)) (mc := 3) (ms := (bs - (9 * (a1).toNatClampNeg))) (st := []) (q := 8) (As := [.int a1]) (vsc := [.int a1]) lX11_106 insX4_clear selX4_clear ⟨TX4, 10, rfl⟩ (by omega) (kX4_clear (d := 0) (by omega) h) [8, 29, 30, 31, 32, 33, 34, 35, 36, 37] rfl rfl rfl rfl rfl dX11_load_30 rfl rfl (fun _ _ hh => ?_)
      obtain ⟨τ7, rfl, rfl, h⟩ := hh
      refine ⟨(wX11 G (((σ.1.1.1, (τ4, σ.1.1.2.2)), (σ.1.2.1, (τ7, σ.1.2.2.2))), σ.2)), [], rfl, rfl, rfl, ?_⟩
      refine aw_aload_n 0 dX11_load_33 rfl rfl ?_
      refine aw_getf (v := .ref 9) fX11_42 0 rfl rfl dX11_load_34 ?_
      refine aw_bud (mc := 0 + 3) (ms := 0 + (bs - (9 * (a1).toNatClampNeg))) (by omega) (by omega) ?_
      refine aw_callV (mc1 := 0) (ms1 := 0) (mc := 3) (ms := (bs - (9 * (a1).toNatClampNeg))) (st := []) (q := 9) (As := []) (vsc := []) lX11_109 insX3_clear selX3_clear ⟨TX3, 11, rfl⟩ (by omega) (kX3_clear (d := 0) (by omega) h) [9, 10, 11, 12, 13, 14, 15, 1, 2] rfl rfl rfl rfl rfl dX11_load_37 rfl rfl (fun _ _ hh => ?_)
      obtain ⟨τ9, rfl, rfl, h⟩ := hh
      refine ⟨(wX11 G (((σ.1.1.1, (τ9.2, σ.1.1.2.2)), (σ.1.2.1, (τ7, τ9.1))), σ.2)), [], rfl, rfl, rfl, ?_⟩
      refine aw_aload_n 0 dX11_load_40 rfl rfl ?_
      refine aw_getf (v := .ref 24) fX11_76 0 rfl rfl dX11_load_41 ?_
      refine aw_bud (mc := 0 + 3) (ms := 0 + (bs - (9 * (a1).toNatClampNeg))) (by omega) (by omega) ?_
      refine aw_callV (mc1 := 0) (ms1 := 0) (mc := 3) (ms := (bs - (9 * (a1).toNatClampNeg))) (st := []) (q := 24) (As := []) (vsc := []) lX11_111 insX10_clear selX10_clear ⟨TX10, 10, rfl⟩ (by omega) (kX10_clear (d := 1) (by omega) h) [24, 25, 8, 9, 10, 11, 12, 13, 14, 15, 1, 2, 20, 21, 22, 23, 29, 30, 31, 32, 33, 34, 35, 36, 37, 38, 39, 40, 41] rfl rfl rfl rfl rfl dX11_load_44 rfl rfl (fun _ _ hh => ?_)
      obtain ⟨τ11, rfl, rfl, h⟩ := hh
      refine ⟨(wX11 G (((σ.1.1.1, (τ11.2.1.1, σ.1.1.2.2)), (σ.1.2.1, τ11.1.2)), (σ.2.1, ((τ11.2.1.2, τ11.1.1), τ11.2.2)))), [], rfl, rfl, rfl, ?_⟩
      refine aw_aload_n 0 dX11_load_47 rfl rfl ?_
      refine aw_getf (v := .ref 3) fX11_21 0 rfl rfl dX11_load_48 ?_
      refine aw_iload_n 1 dX11_load_51 rfl rfl ?_
      obtain ⟨hb12, h⟩ := h
      refine aw_bud (mc := 3 + 0) (ms := (3 * ((a1).toNatClampNeg + 1)) + ((bs - (9 * (a1).toNatClampNeg)) - (3 * ((a1).toNatClampNeg + 1)))) (by omega) (by omega) ?_
      refine aw_callV (mc1 := 3) (ms1 := (3 * ((a1).toNatClampNeg + 1))) (mc := 0) (ms := ((bs - (9 * (a1).toNatClampNeg)) - (3 * ((a1).toNatClampNeg + 1)))) (st := []) (q := 3) (As := [.int a1]) (vsc := [.int a1]) lX11_112 insX9_read selX9_read ⟨TX9, 9, rfl⟩ (by omega) (kX9_read (d := 8) (by omega) h) [3, 1, 2, 26, 27, 28] rfl rfl rfl rfl rfl dX11_load_52 rfl rfl (fun _ _ hh => ?_)
      obtain ⟨τ14, rfl, rfl, h⟩ := hh
      refine ⟨(wX11 G (((σ.1.1.1, (τ14.2, τ14.1)), (σ.1.2.1, τ11.1.2)), (σ.2.1, ((τ11.2.1.2, τ11.1.1), τ11.2.2)))), [], rfl, rfl, rfl, ?_⟩
      refine aw_aload_n 0 dX11_load_55 rfl rfl ?_
      refine aw_getf (v := .ref 16) fX11_51 0 rfl rfl dX11_load_56 ?_
      refine aw_bud (mc := 0 + 0) (ms := 0 + ((bs - (9 * (a1).toNatClampNeg)) - (3 * ((a1).toNatClampNeg + 1)))) (by omega) (by omega) ?_
      refine aw_callV (mc1 := 0) (ms1 := 0) (mc := 0) (ms := ((bs - (9 * (a1).toNatClampNeg)) - (3 * ((a1).toNatClampNeg + 1)))) (st := []) (q := 16) (As := []) (vsc := []) lX11_115 insX7_read selX7_read ⟨TX7, 3, rfl⟩ (by omega) (kX7_read (d := 404) (by omega) h) [16, 3, 1, 2, 8, 26, 27, 28, 29, 30, 31, 32, 33, 34, 35, 36, 37] rfl rfl rfl rfl rfl dX11_load_59 rfl rfl (fun _ _ hh => ?_)
      obtain ⟨r15, τ16, rfl, rfl, h⟩ := hh
      refine ⟨(wX11 G (((σ.1.1.1, (τ16.2.1, τ16.1.2)), (σ.1.2.1, (τ16.2.2, τ11.1.2.2))), ((τ16.1.1, σ.2.1.2), ((τ11.2.1.2, τ11.1.1), τ11.2.2)))), [.int r15], rfl, rfl, rfl, ?_⟩
      refine aw_istore_n (lv' := [(2, .int r15), (0, .ref 0), (1, .int a1)]) dX11_load_62 rfl (by decide) rfl ?_
      refine aw_iload_n 0 dX11_load_63 rfl rfl ?_
      refine aw_iconst (v := ((-1) : Int32)) dX11_load_64 (by decide) ?_
      refine aw_icmp_ne 78 dX11_load_65 (by decide) (fun c31 => ?_) (fun c31 => ?_)
      · have h := h.1 c31
        refine aw_iconst (v := (0 : Int32)) dX11_load_78 (by decide) ?_
        refine aw_bud (mc := 0) (ms := 0) (Nat.zero_le _) (Nat.zero_le _) ?_
        refine aw_lvsub (lv' := [(0, .ref 0), (2, .int r15)]) [1, 0] rfl ?_
        exact aw_X11_load_79 hd  h
      · have h := h.2 c31
        refine aw_aload_n 1 dX11_load_68 rfl rfl ?_
        refine aw_getf (v := .ref 17) fX11_60 0 rfl rfl dX11_load_69 ?_
        refine aw_bud (mc := 0 + 0) (ms := 0 + ((bs - (9 * (a1).toNatClampNeg)) - (3 * ((a1).toNatClampNeg + 1)))) (by omega) (by omega) ?_
        refine aw_callV (mc1 := 0) (ms1 := 0) (mc := 0) (ms := ((bs - (9 * (a1).toNatClampNeg)) - (3 * ((a1).toNatClampNeg + 1)))) (st := []) (q := 17) (As := []) (vsc := []) lX11_117 insX1_firstWrong selX1_firstWrong ⟨TX1, 4, rfl⟩ (by omega) (kX1_firstWrong (d := 6) (by omega) h) [17, 8, 9, 10, 11, 12, 13, 14, 15, 1, 2, 29, 30, 31, 32, 33, 34, 35, 36, 37] rfl rfl rfl rfl rfl dX11_load_72 rfl rfl (fun _ _ hh => ?_)
        obtain ⟨r29, τ30, rfl, rfl, h⟩ := hh
        refine ⟨(wX11 G (((σ.1.1.1, (τ30.2.2, τ16.1.2)), (σ.1.2.1, (τ30.1.2, τ30.2.1))), ((τ16.1.1, (τ30.1.1, σ.2.1.2.2)), ((τ11.2.1.2, τ11.1.1), τ11.2.2)))), [.int r29], rfl, rfl, rfl, ?_⟩
        refine aw_goto 79 dX11_load_75 (by decide) ?_
        refine aw_bud (mc := 0) (ms := 0) (Nat.zero_le _) (Nat.zero_le _) ?_
        refine aw_lvsub (lv' := [(0, .ref 0), (2, .int r15)]) [1, 0] rfl ?_
        exact aw_X11_load_79 hd  h
    · have h := h.2 c32
      refine aw_iconst (v := ((-1) : Int32)) dX11_load_15 (by decide) ?_
      refine aw_bud (mc := 0) (ms := 0) (Nat.zero_le _) (Nat.zero_le _) ?_
      exact aw_iret rfl dX11_load_16 ⟨_, (((σ.1.1.1, (τ2, σ.1.1.2.2)), σ.1.2), σ.2), rfl, rfl, h⟩
def wp_X11_told (σ : WSX11) (a1 : Int32) (post : Int32 → WSX11 → Prop) : Prop :=
  ((¬ a1 = 0 → ((¬ a1 = (1 : Int32) → post ((-1) : Int32) σ) ∧ (a1 = (1 : Int32) → post σ.1.1.1.2.2 σ))) ∧ (a1 = 0 → post σ.1.1.1.2.1 σ))
theorem kX11_told {G : aw_G} {d : Nat} (hd : 0 ≤ d) {σ : WSX11} {a1 : Int32} {post : Int32 → WSX11 → Prop} (h : wp_X11_told σ a1 post) : AC G MX11_told d 0 0 42 [.ref 0, .int a1] (wX11 G σ) (aw_pi (wX11 G) post) := by
  refine AC.of (lv := [(0, .ref 0), (1, .int a1)]) (by decide) (Nat.le_of_ble_eq_true rfl) rfl ?_
  unfold wp_X11_told at h
  refine aw_iload_n 1 dX11_told_0 rfl rfl ?_
  refine aw_if_ne 9 dX11_told_1 (by decide) (fun c2 => ?_) (fun c2 => ?_)
  · have h := h.1 c2
    refine aw_iload_n 1 dX11_told_9 rfl rfl ?_
    refine aw_iconst (v := (1 : Int32)) dX11_told_10 (by decide) ?_
    refine aw_icmp_ne 21 dX11_told_11 (by decide) (fun c1 => ?_) (fun c1 => ?_)
    · have h := h.1 c1
      refine aw_iconst (v := ((-1) : Int32)) dX11_told_21 (by decide) ?_
      exact aw_iret rfl dX11_told_22 ⟨_, σ, rfl, rfl, h⟩
    · have h := h.2 c1
      refine aw_aload_n 0 dX11_told_14 rfl rfl ?_
      refine aw_getf (v := .int σ.1.1.1.2.2) fX11_88 0 rfl rfl dX11_told_15 ?_
      refine aw_goto 22 dX11_told_18 (by decide) ?_
      exact aw_iret rfl dX11_told_22 ⟨_, σ, rfl, rfl, h⟩
  · have h := h.2 c2
    refine aw_aload_n 0 dX11_told_4 rfl rfl ?_
    refine aw_getf (v := .int σ.1.1.1.2.1) fX11_84 0 rfl rfl dX11_told_5 ?_
    exact aw_iret rfl dX11_told_8 ⟨_, σ, rfl, rfl, h⟩
def wp_X11_count (σ : WSX11) (a1 : Int32) (post : Int32 → WSX11 → Prop) : Prop :=
  ((¬ σ.1.1.1.1 = 0 → ((a1 = (0 : Int32) → wp_X3_words (σ.1.2.2.2, σ.1.1.2.1)  (fun r2 τ3 => post r2 (((σ.1.1.1, (τ3.2, σ.1.1.2.2)), (σ.1.2.1, (σ.1.2.2.1, τ3.1))), σ.2))) ∧ (¬ a1 = (0 : Int32) → ((a1 = (1 : Int32) → wp_X3_inputs (σ.1.2.2.2, σ.1.1.2.1)  (fun r5 τ6 => post r5 (((σ.1.1.1, (τ6.2, σ.1.1.2.2)), (σ.1.2.1, (σ.1.2.2.1, τ6.1))), σ.2))) ∧ (¬ a1 = (1 : Int32) → ((a1 = (2 : Int32) → wp_X3_publicInputs (σ.1.2.2.2, σ.1.1.2.1)  (fun r8 τ9 => post r8 (((σ.1.1.1, (τ9.2, σ.1.1.2.2)), (σ.1.2.1, (σ.1.2.2.1, τ9.1))), σ.2))) ∧ (¬ a1 = (2 : Int32) → post ((-1) : Int32) σ))))))) ∧ (σ.1.1.1.1 = 0 → post ((-1) : Int32) σ))
theorem kX11_count {G : aw_G} {d : Nat} (hd : 1 ≤ d) {σ : WSX11} {a1 : Int32} {post : Int32 → WSX11 → Prop} (h : wp_X11_count σ a1 post) : AC G MX11_count d 0 0 42 [.ref 0, .int a1] (wX11 G σ) (aw_pi (wX11 G) post) := by
  refine AC.of (lv := [(0, .ref 0), (1, .int a1)]) (by decide) (Nat.le_of_ble_eq_true rfl) rfl ?_
  unfold wp_X11_count at h
  refine aw_aload_n 0 dX11_count_0 rfl rfl ?_
  refine aw_getf (v := .int σ.1.1.1.1) fX11_80 0 rfl rfl dX11_count_1 ?_
  refine aw_if_ne 9 dX11_count_4 (by decide) (fun c10 => ?_) (fun c10 => ?_)
  · have h := h.1 c10
    refine aw_iload_n 1 dX11_count_9 rfl rfl ?_
    by_cases c1 : a1 = (0 : Int32)
    · refine aw_tableIn 36 (off := 26) dX11_count_10 (by rw [c1]; decide) (by rw [c1]; decide) (by rw [c1]; rfl) (by decide) ?_
      have h := h.1 c1
      refine aw_aload_n 0 dX11_count_36 rfl rfl ?_
      refine aw_getf (v := .ref 9) fX11_42 0 rfl rfl dX11_count_37 ?_
      refine aw_callV (mc1 := 0) (ms1 := 0) (mc := 0) (ms := 0) (st := []) (q := 9) (As := []) (vsc := []) lX11_129 insX3_words selX3_words ⟨TX3, 11, rfl⟩ (by omega) (kX3_words (d := 0) (by omega) h) [9, 10, 11, 12, 13, 14, 15, 1, 2] rfl rfl rfl rfl rfl dX11_count_40 rfl rfl (fun _ _ hh => ?_)
      obtain ⟨r2, τ3, rfl, rfl, h⟩ := hh
      refine ⟨(wX11 G (((σ.1.1.1, (τ3.2, σ.1.1.2.2)), (σ.1.2.1, (σ.1.2.2.1, τ3.1))), σ.2)), [.int r2], rfl, rfl, rfl, ?_⟩
      exact aw_iret rfl dX11_count_43 ⟨_, (((σ.1.1.1, (τ3.2, σ.1.1.2.2)), (σ.1.2.1, (σ.1.2.2.1, τ3.1))), σ.2), rfl, rfl, h⟩
    have h := h.2 c1
    by_cases c4 : a1 = (1 : Int32)
    · refine aw_tableIn 44 (off := 34) dX11_count_10 (by rw [c4]; decide) (by rw [c4]; decide) (by rw [c4]; rfl) (by decide) ?_
      have h := h.1 c4
      refine aw_aload_n 0 dX11_count_44 rfl rfl ?_
      refine aw_getf (v := .ref 9) fX11_42 0 rfl rfl dX11_count_45 ?_
      refine aw_callV (mc1 := 0) (ms1 := 0) (mc := 0) (ms := 0) (st := []) (q := 9) (As := []) (vsc := []) lX11_132 insX3_inputs selX3_inputs ⟨TX3, 11, rfl⟩ (by omega) (kX3_inputs (d := 0) (by omega) h) [9, 10, 11, 12, 13, 14, 15, 1, 2] rfl rfl rfl rfl rfl dX11_count_48 rfl rfl (fun _ _ hh => ?_)
      obtain ⟨r5, τ6, rfl, rfl, h⟩ := hh
      refine ⟨(wX11 G (((σ.1.1.1, (τ6.2, σ.1.1.2.2)), (σ.1.2.1, (σ.1.2.2.1, τ6.1))), σ.2)), [.int r5], rfl, rfl, rfl, ?_⟩
      exact aw_iret rfl dX11_count_51 ⟨_, (((σ.1.1.1, (τ6.2, σ.1.1.2.2)), (σ.1.2.1, (σ.1.2.2.1, τ6.1))), σ.2), rfl, rfl, h⟩
    have h := h.2 c4
    by_cases c7 : a1 = (2 : Int32)
    · refine aw_tableIn 52 (off := 42) dX11_count_10 (by rw [c7]; decide) (by rw [c7]; decide) (by rw [c7]; rfl) (by decide) ?_
      have h := h.1 c7
      refine aw_aload_n 0 dX11_count_52 rfl rfl ?_
      refine aw_getf (v := .ref 9) fX11_42 0 rfl rfl dX11_count_53 ?_
      refine aw_callV (mc1 := 0) (ms1 := 0) (mc := 0) (ms := 0) (st := []) (q := 9) (As := []) (vsc := []) lX11_135 insX3_publicInputs selX3_publicInputs ⟨TX3, 11, rfl⟩ (by omega) (kX3_publicInputs (d := 0) (by omega) h) [9, 10, 11, 12, 13, 14, 15, 1, 2] rfl rfl rfl rfl rfl dX11_count_56 rfl rfl (fun _ _ hh => ?_)
      obtain ⟨r8, τ9, rfl, rfl, h⟩ := hh
      refine ⟨(wX11 G (((σ.1.1.1, (τ9.2, σ.1.1.2.2)), (σ.1.2.1, (σ.1.2.2.1, τ9.1))), σ.2)), [.int r8], rfl, rfl, rfl, ?_⟩
      exact aw_iret rfl dX11_count_59 ⟨_, (((σ.1.1.1, (τ9.2, σ.1.1.2.2)), (σ.1.2.1, (σ.1.2.2.1, τ9.1))), σ.2), rfl, rfl, h⟩
    have h := h.2 c7
    refine aw_tableOut 60 dX11_count_10 (by have := lv_neT (a := 0) c1 rfl; have := lv_neT (a := 1) c4 rfl; have := lv_neT (a := 2) c7 rfl; omega) (by decide) ?_
    refine aw_iconst (v := ((-1) : Int32)) dX11_count_60 (by decide) ?_
    exact aw_iret rfl dX11_count_61 ⟨_, σ, rfl, rfl, h⟩
  · have h := h.2 c10
    refine aw_iconst (v := ((-1) : Int32)) dX11_count_7 (by decide) ?_
    exact aw_iret rfl dX11_count_8 ⟨_, σ, rfl, rfl, h⟩
def wp_X11_input (σ : WSX11) (a1 : Int32) (a2 : Int32) (post : Int32 → WSX11 → Prop) : Prop :=
  ((σ.1.1.1.1 = 0 → post (0 : Int32) σ) ∧ (¬ σ.1.1.1.1 = 0 → wp_X10_give ((σ.2.2.1.2, σ.1.2.2), ((σ.1.1.2.1, σ.2.2.1.1), σ.2.2.2)) a1 a2 (fun r1 τ2 => ((r1 = 0 → post (0 : Int32) (((σ.1.1.1, (τ2.2.1.1, σ.1.1.2.2)), (σ.1.2.1, τ2.1.2)), (σ.2.1, ((τ2.2.1.2, τ2.1.1), τ2.2.2)))) ∧ (¬ r1 = 0 → post (1 : Int32) (((σ.1.1.1, (τ2.2.1.1, σ.1.1.2.2)), (σ.1.2.1, τ2.1.2)), (σ.2.1, ((τ2.2.1.2, τ2.1.1), τ2.2.2))))))))
theorem kX11_input {G : aw_G} {d : Nat} (hd : 2 ≤ d) {σ : WSX11} {a1 : Int32} {a2 : Int32} {post : Int32 → WSX11 → Prop} (h : wp_X11_input σ a1 a2 post) : AC G MX11_input d 0 0 42 [.ref 0, .int a1, .int a2] (wX11 G σ) (aw_pi (wX11 G) post) := by
  refine AC.of (lv := [(0, .ref 0), (1, .int a1), (2, .int a2)]) (by decide) (Nat.le_of_ble_eq_true rfl) rfl ?_
  unfold wp_X11_input at h
  refine aw_aload_n 0 dX11_input_0 rfl rfl ?_
  refine aw_getf (v := .int σ.1.1.1.1) fX11_80 0 rfl rfl dX11_input_1 ?_
  refine aw_if_eq 23 dX11_input_4 (by decide) (fun c4 => ?_) (fun c4 => ?_)
  · have h := h.1 c4
    refine aw_iconst (v := (0 : Int32)) dX11_input_23 (by decide) ?_
    exact aw_zret rfl rfl dX11_input_24 ⟨_, σ, rfl, rfl, h⟩
  · have h := h.2 c4
    refine aw_aload_n 0 dX11_input_7 rfl rfl ?_
    refine aw_getf (v := .ref 24) fX11_76 0 rfl rfl dX11_input_8 ?_
    refine aw_iload_n 1 dX11_input_11 rfl rfl ?_
    refine aw_iload_n 2 dX11_input_12 rfl rfl ?_
    refine aw_callV (mc1 := 0) (ms1 := 0) (mc := 0) (ms := 0) (st := []) (q := 24) (As := [.int a1, .int a2]) (vsc := [.int a1, .int a2]) lX11_138 insX10_give selX10_give ⟨TX10, 10, rfl⟩ (by omega) (kX10_give (d := 1) (by omega) h) [24, 25, 8, 9, 10, 11, 12, 13, 14, 15, 1, 2, 20, 21, 22, 23, 29, 30, 31, 32, 33, 34, 35, 36, 37, 38, 39, 40, 41] rfl rfl rfl rfl rfl dX11_input_13 rfl rfl (fun _ _ hh => ?_)
    obtain ⟨r1, τ2, rfl, rfl, h⟩ := hh
    refine ⟨(wX11 G (((σ.1.1.1, (τ2.2.1.1, σ.1.1.2.2)), (σ.1.2.1, τ2.1.2)), (σ.2.1, ((τ2.2.1.2, τ2.1.1), τ2.2.2)))), [.int r1], rfl, rfl, rfl, ?_⟩
    refine aw_if_eq 23 dX11_input_16 (by decide) (fun c3 => ?_) (fun c3 => ?_)
    · have h := h.1 c3
      refine aw_iconst (v := (0 : Int32)) dX11_input_23 (by decide) ?_
      exact aw_zret rfl rfl dX11_input_24 ⟨_, (((σ.1.1.1, (τ2.2.1.1, σ.1.1.2.2)), (σ.1.2.1, τ2.1.2)), (σ.2.1, ((τ2.2.1.2, τ2.1.1), τ2.2.2))), rfl, rfl, h⟩
    · have h := h.2 c3
      refine aw_iconst (v := (1 : Int32)) dX11_input_19 (by decide) ?_
      refine aw_goto 24 dX11_input_20 (by decide) ?_
      exact aw_zret rfl rfl dX11_input_24 ⟨_, (((σ.1.1.1, (τ2.2.1.1, σ.1.1.2.2)), (σ.1.2.1, τ2.1.2)), (σ.2.1, ((τ2.2.1.2, τ2.1.1), τ2.2.2))), rfl, rfl, h⟩
def wp_X11_run (σ : WSX11) (a1 : Int32) (post : Int32 → WSX11 → Prop) : Prop :=
  ((σ.1.1.1.1 = 0 → post ((-1) : Int32) σ) ∧ (¬ σ.1.1.1.1 = 0 → ((a1 < 0 → post ((-1) : Int32) σ) ∧ (¬ a1 < 0 → ((a1 ≤ (2000 : Int32) → wp_X10_perform ((σ.2.2.1.2, σ.1.2.2), ((σ.1.1.2.1, σ.2.2.1.1), σ.2.2.2)) a1 (fun r1 τ2 => post r1 (((σ.1.1.1, (τ2.2.1.1, σ.1.1.2.2)), (σ.1.2.1, τ2.1.2)), (σ.2.1, ((τ2.2.1.2, τ2.1.1), τ2.2.2))))) ∧ (¬ a1 ≤ (2000 : Int32) → post ((-1) : Int32) σ))))))
theorem kX11_run {G : aw_G} {d : Nat} (hd : 7 ≤ d) {σ : WSX11} {a1 : Int32} {post : Int32 → WSX11 → Prop} (h : wp_X11_run σ a1 post) : AC G MX11_run d 0 0 26 [.ref 0, .int a1] (wX11 G σ) (aw_pi (wX11 G) post) := by
  refine AC.of (lv := [(0, .ref 0), (1, .int a1)]) (by decide) (Nat.le_of_ble_eq_true rfl) rfl ?_
  unfold wp_X11_run at h
  refine aw_aload_n 0 dX11_run_0 rfl rfl ?_
  refine aw_getf (v := .int σ.1.1.1.1) fX11_80 0 rfl rfl dX11_run_1 ?_
  refine aw_if_eq 18 dX11_run_4 (by decide) (fun c5 => ?_) (fun c5 => ?_)
  · have h := h.1 c5
    refine aw_iconst (v := ((-1) : Int32)) dX11_run_18 (by decide) ?_
    exact aw_iret rfl dX11_run_19 ⟨_, σ, rfl, rfl, h⟩
  · have h := h.2 c5
    refine aw_iload_n 1 dX11_run_7 rfl rfl ?_
    refine aw_if_lt 18 dX11_run_8 (by decide) (fun c4 => ?_) (fun c4 => ?_)
    · have h := h.1 c4
      refine aw_iconst (v := ((-1) : Int32)) dX11_run_18 (by decide) ?_
      exact aw_iret rfl dX11_run_19 ⟨_, σ, rfl, rfl, h⟩
    · have h := h.2 c4
      refine aw_iload_n 1 dX11_run_11 rfl rfl ?_
      refine aw_sipush (v := (2000 : Int32)) dX11_run_12 (by decide) ?_
      refine aw_icmp_le 20 dX11_run_15 (by decide) (fun c3 => ?_) (fun c3 => ?_)
      · have h := h.1 c3
        refine aw_aload_n 0 dX11_run_20 rfl rfl ?_
        refine aw_getf (v := .ref 24) fX11_76 0 rfl rfl dX11_run_21 ?_
        refine aw_iload_n 1 dX11_run_24 rfl rfl ?_
        refine aw_callV (mc1 := 0) (ms1 := 0) (mc := 0) (ms := 0) (st := []) (q := 24) (As := [.int a1]) (vsc := [.int a1]) lX11_142 insX10_perform selX10_perform ⟨TX10, 10, rfl⟩ (by omega) (kX10_perform (d := 6) (by omega) h) [24, 25, 8, 9, 10, 11, 12, 13, 14, 15, 1, 2, 20, 21, 22, 23, 29, 30, 31, 32, 33, 34, 35, 36, 37, 38, 39, 40, 41] rfl rfl rfl rfl rfl dX11_run_25 rfl rfl (fun _ _ hh => ?_)
        obtain ⟨r1, τ2, rfl, rfl, h⟩ := hh
        refine ⟨(wX11 G (((σ.1.1.1, (τ2.2.1.1, σ.1.1.2.2)), (σ.1.2.1, τ2.1.2)), (σ.2.1, ((τ2.2.1.2, τ2.1.1), τ2.2.2)))), [.int r1], rfl, rfl, rfl, ?_⟩
        exact aw_iret rfl dX11_run_28 ⟨_, (((σ.1.1.1, (τ2.2.1.1, σ.1.1.2.2)), (σ.1.2.1, τ2.1.2)), (σ.2.1, ((τ2.2.1.2, τ2.1.1), τ2.2.2))), rfl, rfl, h⟩
      · have h := h.2 c3
        refine aw_iconst (v := ((-1) : Int32)) dX11_run_18 (by decide) ?_
        exact aw_iret rfl dX11_run_19 ⟨_, σ, rfl, rfl, h⟩
def wp_X11_ran (σ : WSX11) (a1 : Int32) (post : Int32 → WSX11 → Prop) : Prop :=
  wp_X10_hasRun ((σ.2.2.1.2, σ.1.2.2), ((σ.1.1.2.1, σ.2.2.1.1), σ.2.2.2))  (fun r1 τ2 => ((¬ r1 = 0 → ((a1 = (0 : Int32) → wp_X10_endPlace τ2  (fun r4 τ5 => post r4 (((σ.1.1.1, (τ5.2.1.1, σ.1.1.2.2)), (σ.1.2.1, τ5.1.2)), (σ.2.1, ((τ5.2.1.2, τ5.1.1), τ5.2.2))))) ∧ (¬ a1 = (0 : Int32) → ((a1 = (1 : Int32) → wp_X10_stepsDone τ2  (fun r7 τ8 => post r7 (((σ.1.1.1, (τ8.2.1.1, σ.1.1.2.2)), (σ.1.2.1, τ8.1.2)), (σ.2.1, ((τ8.2.1.2, τ8.1.1), τ8.2.2))))) ∧ (¬ a1 = (1 : Int32) → ((a1 = (2 : Int32) → wp_X10_tellings τ2  (fun r10 τ11 => post r10 (((σ.1.1.1, (τ11.2.1.1, σ.1.1.2.2)), (σ.1.2.1, τ11.1.2)), (σ.2.1, ((τ11.2.1.2, τ11.1.1), τ11.2.2))))) ∧ (¬ a1 = (2 : Int32) → post ((-1) : Int32) (((σ.1.1.1, (τ2.2.1.1, σ.1.1.2.2)), (σ.1.2.1, τ2.1.2)), (σ.2.1, ((τ2.2.1.2, τ2.1.1), τ2.2.2)))))))))) ∧ (r1 = 0 → post ((-1) : Int32) (((σ.1.1.1, (τ2.2.1.1, σ.1.1.2.2)), (σ.1.2.1, τ2.1.2)), (σ.2.1, ((τ2.2.1.2, τ2.1.1), τ2.2.2))))))
theorem kX11_ran {G : aw_G} {d : Nat} (hd : 1 ≤ d) {σ : WSX11} {a1 : Int32} {post : Int32 → WSX11 → Prop} (h : wp_X11_ran σ a1 post) : AC G MX11_ran d 0 0 42 [.ref 0, .int a1] (wX11 G σ) (aw_pi (wX11 G) post) := by
  refine AC.of (lv := [(0, .ref 0), (1, .int a1)]) (by decide) (Nat.le_of_ble_eq_true rfl) rfl ?_
  unfold wp_X11_ran at h
  refine aw_aload_n 0 dX11_ran_0 rfl rfl ?_
  refine aw_getf (v := .ref 24) fX11_76 0 rfl rfl dX11_ran_1 ?_
  refine aw_callV (mc1 := 0) (ms1 := 0) (mc := 0) (ms := 0) (st := []) (q := 24) (As := []) (vsc := []) lX11_146 insX10_hasRun selX10_hasRun ⟨TX10, 10, rfl⟩ (by omega) (kX10_hasRun (d := 0) (by omega) h) [24, 25, 8, 9, 10, 11, 12, 13, 14, 15, 1, 2, 20, 21, 22, 23, 29, 30, 31, 32, 33, 34, 35, 36, 37, 38, 39, 40, 41] rfl rfl rfl rfl rfl dX11_ran_4 rfl rfl (fun _ _ hh => ?_)
  obtain ⟨r1, τ2, rfl, rfl, h⟩ := hh
  refine ⟨(wX11 G (((σ.1.1.1, (τ2.2.1.1, σ.1.1.2.2)), (σ.1.2.1, τ2.1.2)), (σ.2.1, ((τ2.2.1.2, τ2.1.1), τ2.2.2)))), [.int r1], rfl, rfl, rfl, ?_⟩
  refine aw_if_ne 12 dX11_ran_7 (by decide) (fun c12 => ?_) (fun c12 => ?_)
  · have h := h.1 c12
    refine aw_iload_n 1 dX11_ran_12 rfl rfl ?_
    by_cases c3 : a1 = (0 : Int32)
    · refine aw_tableIn 40 (off := 27) dX11_ran_13 (by rw [c3]; decide) (by rw [c3]; decide) (by rw [c3]; rfl) (by decide) ?_
      have h := h.1 c3
      refine aw_aload_n 0 dX11_ran_40 rfl rfl ?_
      refine aw_getf (v := .ref 24) fX11_76 0 rfl rfl dX11_ran_41 ?_
      refine aw_callV (mc1 := 0) (ms1 := 0) (mc := 0) (ms := 0) (st := []) (q := 24) (As := []) (vsc := []) lX11_149 insX10_endPlace selX10_endPlace ⟨TX10, 10, rfl⟩ (by omega) (kX10_endPlace (d := 0) (by omega) h) [24, 25, 8, 9, 10, 11, 12, 13, 14, 15, 1, 2, 20, 21, 22, 23, 29, 30, 31, 32, 33, 34, 35, 36, 37, 38, 39, 40, 41] rfl rfl rfl rfl rfl dX11_ran_44 rfl rfl (fun _ _ hh => ?_)
      obtain ⟨r4, τ5, rfl, rfl, h⟩ := hh
      refine ⟨(wX11 G (((σ.1.1.1, (τ5.2.1.1, σ.1.1.2.2)), (σ.1.2.1, τ5.1.2)), (σ.2.1, ((τ5.2.1.2, τ5.1.1), τ5.2.2)))), [.int r4], rfl, rfl, rfl, ?_⟩
      exact aw_iret rfl dX11_ran_47 ⟨_, (((σ.1.1.1, (τ5.2.1.1, σ.1.1.2.2)), (σ.1.2.1, τ5.1.2)), (σ.2.1, ((τ5.2.1.2, τ5.1.1), τ5.2.2))), rfl, rfl, h⟩
    have h := h.2 c3
    by_cases c6 : a1 = (1 : Int32)
    · refine aw_tableIn 48 (off := 35) dX11_ran_13 (by rw [c6]; decide) (by rw [c6]; decide) (by rw [c6]; rfl) (by decide) ?_
      have h := h.1 c6
      refine aw_aload_n 0 dX11_ran_48 rfl rfl ?_
      refine aw_getf (v := .ref 24) fX11_76 0 rfl rfl dX11_ran_49 ?_
      refine aw_callV (mc1 := 0) (ms1 := 0) (mc := 0) (ms := 0) (st := []) (q := 24) (As := []) (vsc := []) lX11_152 insX10_stepsDone selX10_stepsDone ⟨TX10, 10, rfl⟩ (by omega) (kX10_stepsDone (d := 0) (by omega) h) [24, 25, 8, 9, 10, 11, 12, 13, 14, 15, 1, 2, 20, 21, 22, 23, 29, 30, 31, 32, 33, 34, 35, 36, 37, 38, 39, 40, 41] rfl rfl rfl rfl rfl dX11_ran_52 rfl rfl (fun _ _ hh => ?_)
      obtain ⟨r7, τ8, rfl, rfl, h⟩ := hh
      refine ⟨(wX11 G (((σ.1.1.1, (τ8.2.1.1, σ.1.1.2.2)), (σ.1.2.1, τ8.1.2)), (σ.2.1, ((τ8.2.1.2, τ8.1.1), τ8.2.2)))), [.int r7], rfl, rfl, rfl, ?_⟩
      exact aw_iret rfl dX11_ran_55 ⟨_, (((σ.1.1.1, (τ8.2.1.1, σ.1.1.2.2)), (σ.1.2.1, τ8.1.2)), (σ.2.1, ((τ8.2.1.2, τ8.1.1), τ8.2.2))), rfl, rfl, h⟩
    have h := h.2 c6
    by_cases c9 : a1 = (2 : Int32)
    · refine aw_tableIn 56 (off := 43) dX11_ran_13 (by rw [c9]; decide) (by rw [c9]; decide) (by rw [c9]; rfl) (by decide) ?_
      have h := h.1 c9
      refine aw_aload_n 0 dX11_ran_56 rfl rfl ?_
      refine aw_getf (v := .ref 24) fX11_76 0 rfl rfl dX11_ran_57 ?_
      refine aw_callV (mc1 := 0) (ms1 := 0) (mc := 0) (ms := 0) (st := []) (q := 24) (As := []) (vsc := []) lX11_155 insX10_tellings selX10_tellings ⟨TX10, 10, rfl⟩ (by omega) (kX10_tellings (d := 0) (by omega) h) [24, 25, 8, 9, 10, 11, 12, 13, 14, 15, 1, 2, 20, 21, 22, 23, 29, 30, 31, 32, 33, 34, 35, 36, 37, 38, 39, 40, 41] rfl rfl rfl rfl rfl dX11_ran_60 rfl rfl (fun _ _ hh => ?_)
      obtain ⟨r10, τ11, rfl, rfl, h⟩ := hh
      refine ⟨(wX11 G (((σ.1.1.1, (τ11.2.1.1, σ.1.1.2.2)), (σ.1.2.1, τ11.1.2)), (σ.2.1, ((τ11.2.1.2, τ11.1.1), τ11.2.2)))), [.int r10], rfl, rfl, rfl, ?_⟩
      exact aw_iret rfl dX11_ran_63 ⟨_, (((σ.1.1.1, (τ11.2.1.1, σ.1.1.2.2)), (σ.1.2.1, τ11.1.2)), (σ.2.1, ((τ11.2.1.2, τ11.1.1), τ11.2.2))), rfl, rfl, h⟩
    have h := h.2 c9
    refine aw_tableOut 64 dX11_ran_13 (by have := lv_neT (a := 0) c3 rfl; have := lv_neT (a := 1) c6 rfl; have := lv_neT (a := 2) c9 rfl; omega) (by decide) ?_
    refine aw_iconst (v := ((-1) : Int32)) dX11_ran_64 (by decide) ?_
    exact aw_iret rfl dX11_ran_65 ⟨_, (((σ.1.1.1, (τ2.2.1.1, σ.1.1.2.2)), (σ.1.2.1, τ2.1.2)), (σ.2.1, ((τ2.2.1.2, τ2.1.1), τ2.2.2))), rfl, rfl, h⟩
  · have h := h.2 c12
    refine aw_iconst (v := ((-1) : Int32)) dX11_ran_10 (by decide) ?_
    exact aw_iret rfl dX11_ran_11 ⟨_, (((σ.1.1.1, (τ2.2.1.1, σ.1.1.2.2)), (σ.1.2.1, τ2.1.2)), (σ.2.1, ((τ2.2.1.2, τ2.1.1), τ2.2.2))), rfl, rfl, h⟩
def wp_X11_out (σ : WSX11) (a1 : Int32) (post : Int32 → WSX11 → Prop) : Prop :=
  wp_X10_telling ((σ.2.2.1.2, σ.1.2.2), ((σ.1.1.2.1, σ.2.2.1.1), σ.2.2.2)) a1 (fun r1 τ2 => post r1 (((σ.1.1.1, (τ2.2.1.1, σ.1.1.2.2)), (σ.1.2.1, τ2.1.2)), (σ.2.1, ((τ2.2.1.2, τ2.1.1), τ2.2.2))))
theorem kX11_out {G : aw_G} {d : Nat} (hd : 3 ≤ d) {σ : WSX11} {a1 : Int32} {post : Int32 → WSX11 → Prop} (h : wp_X11_out σ a1 post) : AC G MX11_out d 0 0 42 [.ref 0, .int a1] (wX11 G σ) (aw_pi (wX11 G) post) := by
  refine AC.of (lv := [(0, .ref 0), (1, .int a1)]) (by decide) (Nat.le_of_ble_eq_true rfl) rfl ?_
  unfold wp_X11_out at h
  refine aw_aload_n 0 dX11_out_0 rfl rfl ?_
  refine aw_getf (v := .ref 24) fX11_76 0 rfl rfl dX11_out_1 ?_
  refine aw_iload_n 1 dX11_out_4 rfl rfl ?_
  refine aw_callV (mc1 := 0) (ms1 := 0) (mc := 0) (ms := 0) (st := []) (q := 24) (As := [.int a1]) (vsc := [.int a1]) lX11_158 insX10_telling selX10_telling ⟨TX10, 10, rfl⟩ (by omega) (kX10_telling (d := 2) (by omega) h) [24, 25, 8, 9, 10, 11, 12, 13, 14, 15, 1, 2, 20, 21, 22, 23, 29, 30, 31, 32, 33, 34, 35, 36, 37, 38, 39, 40, 41] rfl rfl rfl rfl rfl dX11_out_5 rfl rfl (fun _ _ hh => ?_)
  obtain ⟨r1, τ2, rfl, rfl, h⟩ := hh
  refine ⟨(wX11 G (((σ.1.1.1, (τ2.2.1.1, σ.1.1.2.2)), (σ.1.2.1, τ2.1.2)), (σ.2.1, ((τ2.2.1.2, τ2.1.1), τ2.2.2)))), [.int r1], rfl, rfl, rfl, ?_⟩
  exact aw_iret rfl dX11_out_8 ⟨_, (((σ.1.1.1, (τ2.2.1.1, σ.1.1.2.2)), (σ.1.2.1, τ2.1.2)), (σ.2.1, ((τ2.2.1.2, τ2.1.1), τ2.2.2))), rfl, rfl, h⟩
def wp_X11_word (σ : WSX11) (a1 : Int32) (post : Int32 → WSX11 → Prop) : Prop :=
  wp_X10_wordLeft ((σ.2.2.1.2, σ.1.2.2), ((σ.1.1.2.1, σ.2.2.1.1), σ.2.2.2)) a1 (fun r1 τ2 => post r1 (((σ.1.1.1, (τ2.2.1.1, σ.1.1.2.2)), (σ.1.2.1, τ2.1.2)), (σ.2.1, ((τ2.2.1.2, τ2.1.1), τ2.2.2))))
theorem kX11_word {G : aw_G} {d : Nat} (hd : 3 ≤ d) {σ : WSX11} {a1 : Int32} {post : Int32 → WSX11 → Prop} (h : wp_X11_word σ a1 post) : AC G MX11_word d 0 0 42 [.ref 0, .int a1] (wX11 G σ) (aw_pi (wX11 G) post) := by
  refine AC.of (lv := [(0, .ref 0), (1, .int a1)]) (by decide) (Nat.le_of_ble_eq_true rfl) rfl ?_
  unfold wp_X11_word at h
  refine aw_aload_n 0 dX11_word_0 rfl rfl ?_
  refine aw_getf (v := .ref 24) fX11_76 0 rfl rfl dX11_word_1 ?_
  refine aw_iload_n 1 dX11_word_4 rfl rfl ?_
  refine aw_callV (mc1 := 0) (ms1 := 0) (mc := 0) (ms := 0) (st := []) (q := 24) (As := [.int a1]) (vsc := [.int a1]) lX11_161 insX10_wordLeft selX10_wordLeft ⟨TX10, 10, rfl⟩ (by omega) (kX10_wordLeft (d := 2) (by omega) h) [24, 25, 8, 9, 10, 11, 12, 13, 14, 15, 1, 2, 20, 21, 22, 23, 29, 30, 31, 32, 33, 34, 35, 36, 37, 38, 39, 40, 41] rfl rfl rfl rfl rfl dX11_word_5 rfl rfl (fun _ _ hh => ?_)
  obtain ⟨r1, τ2, rfl, rfl, h⟩ := hh
  refine ⟨(wX11 G (((σ.1.1.1, (τ2.2.1.1, σ.1.1.2.2)), (σ.1.2.1, τ2.1.2)), (σ.2.1, ((τ2.2.1.2, τ2.1.1), τ2.2.2)))), [.int r1], rfl, rfl, rfl, ?_⟩
  exact aw_iret rfl dX11_word_8 ⟨_, (((σ.1.1.1, (τ2.2.1.1, σ.1.1.2.2)), (σ.1.2.1, τ2.1.2)), (σ.2.1, ((τ2.2.1.2, τ2.1.1), τ2.2.2))), rfl, rfl, h⟩
def wp_X11_quiet (σ : WSX11) (post : Int32 → WSX11 → Prop) : Prop :=
  wp_X10_lastTwoAlike ((σ.2.2.1.2, σ.1.2.2), ((σ.1.1.2.1, σ.2.2.1.1), σ.2.2.2))  (fun r1 τ2 => (aw_bz r1 ∧ post r1 (((σ.1.1.1, (τ2.2.1.1, σ.1.1.2.2)), (σ.1.2.1, τ2.1.2)), (σ.2.1, ((τ2.2.1.2, τ2.1.1), τ2.2.2)))))
theorem kX11_quiet {G : aw_G} {d : Nat} (hd : 2 ≤ d) {σ : WSX11} {post : Int32 → WSX11 → Prop} (h : wp_X11_quiet σ post) : AC G MX11_quiet d 0 0 42 [.ref 0] (wX11 G σ) (aw_pi (wX11 G) post) := by
  refine AC.of (lv := [(0, .ref 0)]) (by decide) (Nat.le_of_ble_eq_true rfl) rfl ?_
  unfold wp_X11_quiet at h
  refine aw_aload_n 0 dX11_quiet_0 rfl rfl ?_
  refine aw_getf (v := .ref 24) fX11_76 0 rfl rfl dX11_quiet_1 ?_
  refine aw_callV (mc1 := 0) (ms1 := 0) (mc := 0) (ms := 0) (st := []) (q := 24) (As := []) (vsc := []) lX11_164 insX10_lastTwoAlike selX10_lastTwoAlike ⟨TX10, 10, rfl⟩ (by omega) (kX10_lastTwoAlike (d := 1) (by omega) h) [24, 25, 8, 9, 10, 11, 12, 13, 14, 15, 1, 2, 20, 21, 22, 23, 29, 30, 31, 32, 33, 34, 35, 36, 37, 38, 39, 40, 41] rfl rfl rfl rfl rfl dX11_quiet_4 rfl rfl (fun _ _ hh => ?_)
  obtain ⟨r1, τ2, rfl, rfl, h⟩ := hh
  refine ⟨(wX11 G (((σ.1.1.1, (τ2.2.1.1, σ.1.1.2.2)), (σ.1.2.1, τ2.1.2)), (σ.2.1, ((τ2.2.1.2, τ2.1.1), τ2.2.2)))), [.int r1], rfl, rfl, rfl, ?_⟩
  exact aw_zret rfl h.1.1 dX11_quiet_7 ⟨_, (((σ.1.1.1, (τ2.2.1.1, σ.1.1.2.2)), (σ.1.2.1, τ2.1.2)), (σ.2.1, ((τ2.2.1.2, τ2.1.1), τ2.2.2))), rfl, rfl, h.2⟩
def wp_X11_poke (σ : WSX11) (a1 : Int32) (a2 : Int32) (post : Int32 → WSX11 → Prop) : Prop :=
  wp_X2_store σ.1.2.1 a1 a2 (fun r1 τ2 => (aw_bz r1 ∧ post r1 ((σ.1.1, (τ2, σ.1.2.2)), σ.2)))
theorem kX11_poke {G : aw_G} {d : Nat} (hd : 2 ≤ d) {σ : WSX11} {a1 : Int32} {a2 : Int32} {post : Int32 → WSX11 → Prop} (h : wp_X11_poke σ a1 a2 post) : AC G MX11_poke d 0 0 42 [.ref 0, .int a1, .int a2] (wX11 G σ) (aw_pi (wX11 G) post) := by
  refine AC.of (lv := [(0, .ref 0), (1, .int a1), (2, .int a2)]) (by decide) (Nat.le_of_ble_eq_true rfl) rfl ?_
  unfold wp_X11_poke at h
  refine aw_aload_n 0 dX11_poke_0 rfl rfl ?_
  refine aw_getf (v := .ref 4) fX11_28 0 rfl rfl dX11_poke_1 ?_
  refine aw_iload_n 1 dX11_poke_4 rfl rfl ?_
  refine aw_iload_n 2 dX11_poke_5 rfl rfl ?_
  refine aw_callV (mc1 := 0) (ms1 := 0) (mc := 0) (ms := 0) (st := []) (q := 4) (As := [.int a1, .int a2]) (vsc := [.int a1, .int a2]) lX11_167 insX2_store selX2_store ⟨TX2, 8, rfl⟩ (by omega) (kX2_store (d := 1) (by omega) h) [4, 5, 6, 7] rfl rfl rfl rfl rfl dX11_poke_6 rfl rfl (fun _ _ hh => ?_)
  obtain ⟨r1, τ2, rfl, rfl, h⟩ := hh
  refine ⟨(wX11 G ((σ.1.1, (τ2, σ.1.2.2)), σ.2)), [.int r1], rfl, rfl, rfl, ?_⟩
  exact aw_zret rfl h.1.1 dX11_poke_9 ⟨_, ((σ.1.1, (τ2, σ.1.2.2)), σ.2), rfl, rfl, h.2⟩
def wp_X11_peek (σ : WSX11) (a1 : Int32) (post : Int32 → WSX11 → Prop) : Prop :=
  wp_X2_fetch σ.1.2.1 a1 (fun r1 τ2 => post r1 ((σ.1.1, (τ2, σ.1.2.2)), σ.2))
theorem kX11_peek {G : aw_G} {d : Nat} (hd : 2 ≤ d) {σ : WSX11} {a1 : Int32} {post : Int32 → WSX11 → Prop} (h : wp_X11_peek σ a1 post) : AC G MX11_peek d 0 0 42 [.ref 0, .int a1] (wX11 G σ) (aw_pi (wX11 G) post) := by
  refine AC.of (lv := [(0, .ref 0), (1, .int a1)]) (by decide) (Nat.le_of_ble_eq_true rfl) rfl ?_
  unfold wp_X11_peek at h
  refine aw_aload_n 0 dX11_peek_0 rfl rfl ?_
  refine aw_getf (v := .ref 4) fX11_28 0 rfl rfl dX11_peek_1 ?_
  refine aw_iload_n 1 dX11_peek_4 rfl rfl ?_
  refine aw_callV (mc1 := 0) (ms1 := 0) (mc := 0) (ms := 0) (st := []) (q := 4) (As := [.int a1]) (vsc := [.int a1]) lX11_170 insX2_fetch selX2_fetch ⟨TX2, 8, rfl⟩ (by omega) (kX2_fetch (d := 1) (by omega) h) [4, 5, 6, 7] rfl rfl rfl rfl rfl dX11_peek_5 rfl rfl (fun _ _ hh => ?_)
  obtain ⟨r1, τ2, rfl, rfl, h⟩ := hh
  refine ⟨(wX11 G ((σ.1.1, (τ2, σ.1.2.2)), σ.2)), [.int r1], rfl, rfl, rfl, ?_⟩
  exact aw_iret rfl dX11_peek_8 ⟨_, ((σ.1.1, (τ2, σ.1.2.2)), σ.2), rfl, rfl, h⟩
def wp_X11_set (σ : WSX11) (a1 : Int32) (a2 : Int32) (post : Int32 → WSX11 → Prop) : Prop :=
  wp_X2_fill σ.1.2.1 a1 a2 (fun r1 τ2 => (aw_bz r1 ∧ post r1 ((σ.1.1, (τ2, σ.1.2.2)), σ.2)))
theorem kX11_set {G : aw_G} {d : Nat} (hd : 1 ≤ d) {σ : WSX11} {a1 : Int32} {a2 : Int32} {post : Int32 → WSX11 → Prop} (h : wp_X11_set σ a1 a2 post) : AC G MX11_set d 0 0 42 [.ref 0, .int a1, .int a2] (wX11 G σ) (aw_pi (wX11 G) post) := by
  refine AC.of (lv := [(0, .ref 0), (1, .int a1), (2, .int a2)]) (by decide) (Nat.le_of_ble_eq_true rfl) rfl ?_
  unfold wp_X11_set at h
  refine aw_aload_n 0 dX11_set_0 rfl rfl ?_
  refine aw_getf (v := .ref 4) fX11_28 0 rfl rfl dX11_set_1 ?_
  refine aw_iload_n 1 dX11_set_4 rfl rfl ?_
  refine aw_iload_n 2 dX11_set_5 rfl rfl ?_
  refine aw_callV (mc1 := 0) (ms1 := 0) (mc := 0) (ms := 0) (st := []) (q := 4) (As := [.int a1, .int a2]) (vsc := [.int a1, .int a2]) lX11_173 insX2_fill selX2_fill ⟨TX2, 8, rfl⟩ (by omega) (kX2_fill (d := 0) (by omega) h) [4, 5, 6, 7] rfl rfl rfl rfl rfl dX11_set_6 rfl rfl (fun _ _ hh => ?_)
  obtain ⟨r1, τ2, rfl, rfl, h⟩ := hh
  refine ⟨(wX11 G ((σ.1.1, (τ2, σ.1.2.2)), σ.2)), [.int r1], rfl, rfl, rfl, ?_⟩
  exact aw_zret rfl h.1.1 dX11_set_9 ⟨_, ((σ.1.1, (τ2, σ.1.2.2)), σ.2), rfl, rfl, h.2⟩
def wp_X11_get (σ : WSX11) (a1 : Int32) (post : Int32 → WSX11 → Prop) : Prop :=
  wp_X2_register σ.1.2.1 a1 (fun r1 τ2 => post r1 ((σ.1.1, (τ2, σ.1.2.2)), σ.2))
theorem kX11_get {G : aw_G} {d : Nat} (hd : 1 ≤ d) {σ : WSX11} {a1 : Int32} {post : Int32 → WSX11 → Prop} (h : wp_X11_get σ a1 post) : AC G MX11_get d 0 0 42 [.ref 0, .int a1] (wX11 G σ) (aw_pi (wX11 G) post) := by
  refine AC.of (lv := [(0, .ref 0), (1, .int a1)]) (by decide) (Nat.le_of_ble_eq_true rfl) rfl ?_
  unfold wp_X11_get at h
  refine aw_aload_n 0 dX11_get_0 rfl rfl ?_
  refine aw_getf (v := .ref 4) fX11_28 0 rfl rfl dX11_get_1 ?_
  refine aw_iload_n 1 dX11_get_4 rfl rfl ?_
  refine aw_callV (mc1 := 0) (ms1 := 0) (mc := 0) (ms := 0) (st := []) (q := 4) (As := [.int a1]) (vsc := [.int a1]) lX11_176 insX2_register selX2_register ⟨TX2, 8, rfl⟩ (by omega) (kX2_register (d := 0) (by omega) h) [4, 5, 6, 7] rfl rfl rfl rfl rfl dX11_get_5 rfl rfl (fun _ _ hh => ?_)
  obtain ⟨r1, τ2, rfl, rfl, h⟩ := hh
  refine ⟨(wX11 G ((σ.1.1, (τ2, σ.1.2.2)), σ.2)), [.int r1], rfl, rfl, rfl, ?_⟩
  exact aw_iret rfl dX11_get_8 ⟨_, ((σ.1.1, (τ2, σ.1.2.2)), σ.2), rfl, rfl, h⟩
def wp_X11_start (σ : WSX11) (a1 : Int32) (post : Int32 → WSX11 → Prop) : Prop :=
  wp_X2_beginAt σ.1.2.1 a1 (fun r1 τ2 => (aw_bz r1 ∧ post r1 ((σ.1.1, (τ2, σ.1.2.2)), σ.2)))
theorem kX11_start {G : aw_G} {d : Nat} (hd : 2 ≤ d) {σ : WSX11} {a1 : Int32} {post : Int32 → WSX11 → Prop} (h : wp_X11_start σ a1 post) : AC G MX11_start d 0 0 42 [.ref 0, .int a1] (wX11 G σ) (aw_pi (wX11 G) post) := by
  refine AC.of (lv := [(0, .ref 0), (1, .int a1)]) (by decide) (Nat.le_of_ble_eq_true rfl) rfl ?_
  unfold wp_X11_start at h
  refine aw_aload_n 0 dX11_start_0 rfl rfl ?_
  refine aw_getf (v := .ref 4) fX11_28 0 rfl rfl dX11_start_1 ?_
  refine aw_iload_n 1 dX11_start_4 rfl rfl ?_
  refine aw_callV (mc1 := 0) (ms1 := 0) (mc := 0) (ms := 0) (st := []) (q := 4) (As := [.int a1]) (vsc := [.int a1]) lX11_179 insX2_beginAt selX2_beginAt ⟨TX2, 8, rfl⟩ (by omega) (kX2_beginAt (d := 1) (by omega) h) [4, 5, 6, 7] rfl rfl rfl rfl rfl dX11_start_5 rfl rfl (fun _ _ hh => ?_)
  obtain ⟨r1, τ2, rfl, rfl, h⟩ := hh
  refine ⟨(wX11 G ((σ.1.1, (τ2, σ.1.2.2)), σ.2)), [.int r1], rfl, rfl, rfl, ?_⟩
  exact aw_zret rfl h.1.1 dX11_start_8 ⟨_, ((σ.1.1, (τ2, σ.1.2.2)), σ.2), rfl, rfl, h.2⟩
def wp_X11_go (σ : WSX11) (a1 : Int32) (post : Int32 → WSX11 → Prop) : Prop :=
  ((a1 < 0 → post ((-1) : Int32) σ) ∧ (¬ a1 < 0 → ((a1 ≤ (2000 : Int32) → wp_X2_work σ.1.2.1 a1 (fun r1 τ2 => post r1 ((σ.1.1, (τ2, σ.1.2.2)), σ.2))) ∧ (¬ a1 ≤ (2000 : Int32) → post ((-1) : Int32) σ))))
theorem kX11_go {G : aw_G} {d : Nat} (hd : 6 ≤ d) {σ : WSX11} {a1 : Int32} {post : Int32 → WSX11 → Prop} (h : wp_X11_go σ a1 post) : AC G MX11_go d 0 0 42 [.ref 0, .int a1] (wX11 G σ) (aw_pi (wX11 G) post) := by
  refine AC.of (lv := [(0, .ref 0), (1, .int a1)]) (by decide) (Nat.le_of_ble_eq_true rfl) rfl ?_
  unfold wp_X11_go at h
  refine aw_iload_n 1 dX11_go_0 rfl rfl ?_
  refine aw_if_lt 11 dX11_go_1 (by decide) (fun c4 => ?_) (fun c4 => ?_)
  · have h := h.1 c4
    refine aw_iconst (v := ((-1) : Int32)) dX11_go_11 (by decide) ?_
    exact aw_iret rfl dX11_go_12 ⟨_, σ, rfl, rfl, h⟩
  · have h := h.2 c4
    refine aw_iload_n 1 dX11_go_4 rfl rfl ?_
    refine aw_sipush (v := (2000 : Int32)) dX11_go_5 (by decide) ?_
    refine aw_icmp_le 13 dX11_go_8 (by decide) (fun c3 => ?_) (fun c3 => ?_)
    · have h := h.1 c3
      refine aw_aload_n 0 dX11_go_13 rfl rfl ?_
      refine aw_getf (v := .ref 4) fX11_28 0 rfl rfl dX11_go_14 ?_
      refine aw_iload_n 1 dX11_go_17 rfl rfl ?_
      refine aw_callV (mc1 := 0) (ms1 := 0) (mc := 0) (ms := 0) (st := []) (q := 4) (As := [.int a1]) (vsc := [.int a1]) lX11_183 insX2_work selX2_work ⟨TX2, 8, rfl⟩ (by omega) (kX2_work (d := 5) (by omega) h) [4, 5, 6, 7] rfl rfl rfl rfl rfl dX11_go_18 rfl rfl (fun _ _ hh => ?_)
      obtain ⟨r1, τ2, rfl, rfl, h⟩ := hh
      refine ⟨(wX11 G ((σ.1.1, (τ2, σ.1.2.2)), σ.2)), [.int r1], rfl, rfl, rfl, ?_⟩
      exact aw_iret rfl dX11_go_21 ⟨_, ((σ.1.1, (τ2, σ.1.2.2)), σ.2), rfl, rfl, h⟩
    · have h := h.2 c3
      refine aw_iconst (v := ((-1) : Int32)) dX11_go_11 (by decide) ?_
      exact aw_iret rfl dX11_go_12 ⟨_, σ, rfl, rfl, h⟩
def wp_X11_state (σ : WSX11) (a1 : Int32) (post : Int32 → WSX11 → Prop) : Prop :=
  ((a1 = (0 : Int32) → wp_X2_place σ.1.2.1  (fun r2 τ3 => post r2 ((σ.1.1, (τ3, σ.1.2.2)), σ.2))) ∧ (¬ a1 = (0 : Int32) → ((a1 = (1 : Int32) → wp_X2_ordersDone σ.1.2.1  (fun r5 τ6 => post r5 ((σ.1.1, (τ6, σ.1.2.2)), σ.2))) ∧ (¬ a1 = (1 : Int32) → ((a1 = (2 : Int32) → wp_X2_cycles σ.1.2.1  (fun r8 τ9 => post (r8).toInt32 ((σ.1.1, (τ9, σ.1.2.2)), σ.2))) ∧ (¬ a1 = (2 : Int32) → ((a1 = (3 : Int32) → wp_X2_misses σ.1.2.1  (fun r11 τ12 => post r11 ((σ.1.1, (τ12, σ.1.2.2)), σ.2))) ∧ (¬ a1 = (3 : Int32) → post ((-1) : Int32) σ))))))))
theorem kX11_state {G : aw_G} {d : Nat} (hd : 1 ≤ d) {σ : WSX11} {a1 : Int32} {post : Int32 → WSX11 → Prop} (h : wp_X11_state σ a1 post) : AC G MX11_state d 0 0 42 [.ref 0, .int a1] (wX11 G σ) (aw_pi (wX11 G) post) := by
  refine AC.of (lv := [(0, .ref 0), (1, .int a1)]) (by decide) (Nat.le_of_ble_eq_true rfl) rfl ?_
  unfold wp_X11_state at h
  refine aw_iload_n 1 dX11_state_0 rfl rfl ?_
  by_cases c1 : a1 = (0 : Int32)
  · refine aw_tableIn 32 (off := 31) dX11_state_1 (by rw [c1]; decide) (by rw [c1]; decide) (by rw [c1]; rfl) (by decide) ?_
    have h := h.1 c1
    refine aw_aload_n 0 dX11_state_32 rfl rfl ?_
    refine aw_getf (v := .ref 4) fX11_28 0 rfl rfl dX11_state_33 ?_
    refine aw_callV (mc1 := 0) (ms1 := 0) (mc := 0) (ms := 0) (st := []) (q := 4) (As := []) (vsc := []) lX11_185 insX2_place selX2_place ⟨TX2, 8, rfl⟩ (by omega) (kX2_place (d := 0) (by omega) h) [4, 5, 6, 7] rfl rfl rfl rfl rfl dX11_state_36 rfl rfl (fun _ _ hh => ?_)
    obtain ⟨r2, τ3, rfl, rfl, h⟩ := hh
    refine ⟨(wX11 G ((σ.1.1, (τ3, σ.1.2.2)), σ.2)), [.int r2], rfl, rfl, rfl, ?_⟩
    exact aw_iret rfl dX11_state_39 ⟨_, ((σ.1.1, (τ3, σ.1.2.2)), σ.2), rfl, rfl, h⟩
  have h := h.2 c1
  by_cases c4 : a1 = (1 : Int32)
  · refine aw_tableIn 40 (off := 39) dX11_state_1 (by rw [c4]; decide) (by rw [c4]; decide) (by rw [c4]; rfl) (by decide) ?_
    have h := h.1 c4
    refine aw_aload_n 0 dX11_state_40 rfl rfl ?_
    refine aw_getf (v := .ref 4) fX11_28 0 rfl rfl dX11_state_41 ?_
    refine aw_callV (mc1 := 0) (ms1 := 0) (mc := 0) (ms := 0) (st := []) (q := 4) (As := []) (vsc := []) lX11_188 insX2_ordersDone selX2_ordersDone ⟨TX2, 8, rfl⟩ (by omega) (kX2_ordersDone (d := 0) (by omega) h) [4, 5, 6, 7] rfl rfl rfl rfl rfl dX11_state_44 rfl rfl (fun _ _ hh => ?_)
    obtain ⟨r5, τ6, rfl, rfl, h⟩ := hh
    refine ⟨(wX11 G ((σ.1.1, (τ6, σ.1.2.2)), σ.2)), [.int r5], rfl, rfl, rfl, ?_⟩
    exact aw_iret rfl dX11_state_47 ⟨_, ((σ.1.1, (τ6, σ.1.2.2)), σ.2), rfl, rfl, h⟩
  have h := h.2 c4
  by_cases c7 : a1 = (2 : Int32)
  · refine aw_tableIn 48 (off := 47) dX11_state_1 (by rw [c7]; decide) (by rw [c7]; decide) (by rw [c7]; rfl) (by decide) ?_
    have h := h.1 c7
    refine aw_aload_n 0 dX11_state_48 rfl rfl ?_
    refine aw_getf (v := .ref 4) fX11_28 0 rfl rfl dX11_state_49 ?_
    refine aw_callV (mc1 := 0) (ms1 := 0) (mc := 0) (ms := 0) (st := []) (q := 4) (As := []) (vsc := []) lX11_191 insX2_cycles selX2_cycles ⟨TX2, 8, rfl⟩ (by omega) (kX2_cycles (d := 0) (by omega) h) [4, 5, 6, 7] rfl rfl rfl rfl rfl dX11_state_52 rfl rfl (fun _ _ hh => ?_)
    obtain ⟨r8, τ9, rfl, rfl, h⟩ := hh
    refine ⟨(wX11 G ((σ.1.1, (τ9, σ.1.2.2)), σ.2)), [.long r8], rfl, rfl, rfl, ?_⟩
    refine aw_l2i dX11_state_55 ?_
    exact aw_iret rfl dX11_state_56 ⟨_, ((σ.1.1, (τ9, σ.1.2.2)), σ.2), rfl, rfl, h⟩
  have h := h.2 c7
  by_cases c10 : a1 = (3 : Int32)
  · refine aw_tableIn 57 (off := 56) dX11_state_1 (by rw [c10]; decide) (by rw [c10]; decide) (by rw [c10]; rfl) (by decide) ?_
    have h := h.1 c10
    refine aw_aload_n 0 dX11_state_57 rfl rfl ?_
    refine aw_getf (v := .ref 4) fX11_28 0 rfl rfl dX11_state_58 ?_
    refine aw_callV (mc1 := 0) (ms1 := 0) (mc := 0) (ms := 0) (st := []) (q := 4) (As := []) (vsc := []) lX11_195 insX2_misses selX2_misses ⟨TX2, 8, rfl⟩ (by omega) (kX2_misses (d := 0) (by omega) h) [4, 5, 6, 7] rfl rfl rfl rfl rfl dX11_state_61 rfl rfl (fun _ _ hh => ?_)
    obtain ⟨r11, τ12, rfl, rfl, h⟩ := hh
    refine ⟨(wX11 G ((σ.1.1, (τ12, σ.1.2.2)), σ.2)), [.int r11], rfl, rfl, rfl, ?_⟩
    exact aw_iret rfl dX11_state_64 ⟨_, ((σ.1.1, (τ12, σ.1.2.2)), σ.2), rfl, rfl, h⟩
  have h := h.2 c10
  refine aw_tableOut 65 dX11_state_1 (by have := lv_neT (a := 0) c1 rfl; have := lv_neT (a := 1) c4 rfl; have := lv_neT (a := 2) c7 rfl; have := lv_neT (a := 3) c10 rfl; omega) (by decide) ?_
  refine aw_iconst (v := ((-1) : Int32)) dX11_state_65 (by decide) ?_
  exact aw_iret rfl dX11_state_66 ⟨_, σ, rfl, rfl, h⟩
def wp_X11_trail (σ : WSX11) (post : Int64 → WSX11 → Prop) : Prop :=
  wp_X2_events σ.1.2.1  (fun r1 τ2 => post r1 ((σ.1.1, (τ2, σ.1.2.2)), σ.2))
theorem kX11_trail {G : aw_G} {d : Nat} (hd : 1 ≤ d) {σ : WSX11} {post : Int64 → WSX11 → Prop} (h : wp_X11_trail σ post) : AC G MX11_trail d 0 0 42 [.ref 0] (wX11 G σ) (aw_pl (wX11 G) post) := by
  refine AC.of (lv := [(0, .ref 0)]) (by decide) (Nat.le_of_ble_eq_true rfl) rfl ?_
  unfold wp_X11_trail at h
  refine aw_aload_n 0 dX11_trail_0 rfl rfl ?_
  refine aw_getf (v := .ref 4) fX11_28 0 rfl rfl dX11_trail_1 ?_
  refine aw_callV (mc1 := 0) (ms1 := 0) (mc := 0) (ms := 0) (st := []) (q := 4) (As := []) (vsc := []) lX11_198 insX2_events selX2_events ⟨TX2, 8, rfl⟩ (by omega) (kX2_events (d := 0) (by omega) h) [4, 5, 6, 7] rfl rfl rfl rfl rfl dX11_trail_4 rfl rfl (fun _ _ hh => ?_)
  obtain ⟨r1, τ2, rfl, rfl, h⟩ := hh
  refine ⟨(wX11 G ((σ.1.1, (τ2, σ.1.2.2)), σ.2)), [.long r1], rfl, rfl, rfl, ?_⟩
  exact aw_lret rfl dX11_trail_7 ⟨_, ((σ.1.1, (τ2, σ.1.2.2)), σ.2), rfl, rfl, h⟩
end WalkX11
