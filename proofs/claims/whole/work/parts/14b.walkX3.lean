section WalkX3
def wp_X3_clear (σ : WSX3) (post : WSX3 → Prop) : Prop :=
  post ((σ.1.1, ((σ.1.2.1.1, (0 : Int32)), ((0 : Int32), ((0 : Int32), (0 : Int32))))), σ.2)
theorem kX3_clear {G : aw_G} {d : Nat} (hd : 0 ≤ d) {σ : WSX3} {post : WSX3 → Prop} (h : wp_X3_clear σ post) : AC G MX3_clear d 0 0 9 [.ref 0] (wX3 G σ) (aw_pv (wX3 G) post) := by
  refine AC.of (lv := [(0, .ref 0)]) (by decide) (Nat.le_of_ble_eq_true rfl) rfl ?_
  unfold wp_X3_clear at h
  refine aw_aload_n 0 dX3_clear_0 rfl rfl ?_
  refine aw_iconst (v := (0 : Int32)) dX3_clear_1 (by decide) ?_
  refine aw_putf fX3_35 0 (w' := (wX3 G ((σ.1.1, ((σ.1.2.1.1, (0 : Int32)), σ.1.2.2)), σ.2))) rfl (fun _ => ⟨rfl, rfl⟩) (Nat.le_of_ble_eq_true rfl) rfl dX3_clear_2 ?_
  refine aw_aload_n 0 dX3_clear_5 rfl rfl ?_
  refine aw_iconst (v := (0 : Int32)) dX3_clear_6 (by decide) ?_
  refine aw_putf fX3_39 0 (w' := (wX3 G ((σ.1.1, ((σ.1.2.1.1, (0 : Int32)), ((0 : Int32), σ.1.2.2.2))), σ.2))) rfl (fun _ => ⟨rfl, rfl⟩) (Nat.le_of_ble_eq_true rfl) rfl dX3_clear_7 ?_
  refine aw_aload_n 0 dX3_clear_10 rfl rfl ?_
  refine aw_iconst (v := (0 : Int32)) dX3_clear_11 (by decide) ?_
  refine aw_putf fX3_42 0 (w' := (wX3 G ((σ.1.1, ((σ.1.2.1.1, (0 : Int32)), ((0 : Int32), ((0 : Int32), σ.1.2.2.2.2)))), σ.2))) rfl (fun _ => ⟨rfl, rfl⟩) (Nat.le_of_ble_eq_true rfl) rfl dX3_clear_12 ?_
  refine aw_aload_n 0 dX3_clear_15 rfl rfl ?_
  refine aw_iconst (v := (0 : Int32)) dX3_clear_16 (by decide) ?_
  refine aw_putf fX3_45 0 (w' := (wX3 G ((σ.1.1, ((σ.1.2.1.1, (0 : Int32)), ((0 : Int32), ((0 : Int32), (0 : Int32))))), σ.2))) rfl (fun _ => ⟨rfl, rfl⟩) (Nat.le_of_ble_eq_true rfl) rfl dX3_clear_17 ?_
  exact aw_vret rfl dX3_clear_20 ⟨((σ.1.1, ((σ.1.2.1.1, (0 : Int32)), ((0 : Int32), ((0 : Int32), (0 : Int32))))), σ.2), rfl, rfl, h⟩
def wp_X3_size (σ : WSX3) (post : Int32 → WSX3 → Prop) : Prop :=
  post σ.1.2.1.2 σ
theorem kX3_size {G : aw_G} {d : Nat} (hd : 0 ≤ d) {σ : WSX3} {post : Int32 → WSX3 → Prop} (h : wp_X3_size σ post) : AC G MX3_size d 0 0 9 [.ref 0] (wX3 G σ) (aw_pi (wX3 G) post) := by
  refine AC.of (lv := [(0, .ref 0)]) (by decide) (Nat.le_of_ble_eq_true rfl) rfl ?_
  unfold wp_X3_size at h
  refine aw_aload_n 0 dX3_size_0 rfl rfl ?_
  refine aw_getf (v := .int σ.1.2.1.2) fX3_35 0 rfl rfl dX3_size_1 ?_
  exact aw_iret rfl dX3_size_4 ⟨_, σ, rfl, rfl, h⟩
def wp_X3_words (σ : WSX3) (post : Int32 → WSX3 → Prop) : Prop :=
  post σ.1.2.2.1 σ
theorem kX3_words {G : aw_G} {d : Nat} (hd : 0 ≤ d) {σ : WSX3} {post : Int32 → WSX3 → Prop} (h : wp_X3_words σ post) : AC G MX3_words d 0 0 9 [.ref 0] (wX3 G σ) (aw_pi (wX3 G) post) := by
  refine AC.of (lv := [(0, .ref 0)]) (by decide) (Nat.le_of_ble_eq_true rfl) rfl ?_
  unfold wp_X3_words at h
  refine aw_aload_n 0 dX3_words_0 rfl rfl ?_
  refine aw_getf (v := .int σ.1.2.2.1) fX3_39 0 rfl rfl dX3_words_1 ?_
  exact aw_iret rfl dX3_words_4 ⟨_, σ, rfl, rfl, h⟩
def wp_X3_inputs (σ : WSX3) (post : Int32 → WSX3 → Prop) : Prop :=
  post σ.1.2.2.2.1 σ
theorem kX3_inputs {G : aw_G} {d : Nat} (hd : 0 ≤ d) {σ : WSX3} {post : Int32 → WSX3 → Prop} (h : wp_X3_inputs σ post) : AC G MX3_inputs d 0 0 9 [.ref 0] (wX3 G σ) (aw_pi (wX3 G) post) := by
  refine AC.of (lv := [(0, .ref 0)]) (by decide) (Nat.le_of_ble_eq_true rfl) rfl ?_
  unfold wp_X3_inputs at h
  refine aw_aload_n 0 dX3_inputs_0 rfl rfl ?_
  refine aw_getf (v := .int σ.1.2.2.2.1) fX3_42 0 rfl rfl dX3_inputs_1 ?_
  exact aw_iret rfl dX3_inputs_4 ⟨_, σ, rfl, rfl, h⟩
def wp_X3_publicInputs (σ : WSX3) (post : Int32 → WSX3 → Prop) : Prop :=
  post σ.1.2.2.2.2 σ
theorem kX3_publicInputs {G : aw_G} {d : Nat} (hd : 0 ≤ d) {σ : WSX3} {post : Int32 → WSX3 → Prop} (h : wp_X3_publicInputs σ post) : AC G MX3_publicInputs d 0 0 9 [.ref 0] (wX3 G σ) (aw_pi (wX3 G) post) := by
  refine AC.of (lv := [(0, .ref 0)]) (by decide) (Nat.le_of_ble_eq_true rfl) rfl ?_
  unfold wp_X3_publicInputs at h
  refine aw_aload_n 0 dX3_publicInputs_0 rfl rfl ?_
  refine aw_getf (v := .int σ.1.2.2.2.2) fX3_45 0 rfl rfl dX3_publicInputs_1 ?_
  exact aw_iret rfl dX3_publicInputs_4 ⟨_, σ, rfl, rfl, h⟩
def wb_X3_find_2  (post : Int32 → WSX3 → Prop) (rec_2 : WSX3 × Int32 × Int32 → Prop) (σ : WSX3) (x1 : Int32) (x2 : Int32) : Prop :=
  ((σ.1.2.1.2 ≤ x2 → post ((-1) : Int32) σ) ∧ (¬ σ.1.2.1.2 ≤ x2 → (((200 : Int32) ≤ x2 → post ((-1) : Int32) σ) ∧ (¬ (200 : Int32) ≤ x2 → (vp_in x2 200 ∧ wp_X8_sameName σ.2 (σ.1.1.1.1 (x2).toNatClampNeg) x1 (fun r1 τ2 => ((r1 = 0 → rec_2 ((σ.1, τ2), x1, (x2 + 1))) ∧ (¬ r1 = 0 → post x2 (σ.1, τ2)))))))))
def wp_X3_find_2  (post : Int32 → WSX3 → Prop) (n : Nat) (σ : WSX3) (x1 : Int32) (x2 : Int32) : Prop := aw_loop (fun r (a : WSX3 × Int32 × Int32) => wb_X3_find_2  post r a.1 a.2.1 a.2.2) n (σ, x1, x2)
theorem aw_X3_find_2 {G : aw_G} {d : Nat} (hd : 3 ≤ d) {post : Int32 → WSX3 → Prop}  : ∀ (n : Nat) (σ : WSX3) (x1 : Int32) (x2 : Int32), wp_X3_find_2  post n σ x1 x2 → AW G MX3_find d 0 0 9 (aw_pi (wX3 G) post) 2 [(0, .ref 0), (1, .int x1), (2, .int x2)] [] (wX3 G σ) := by
  intro n
  induction n with
  | zero => intro σ x1 x2 h; exact h.elim
  | succ n ih =>
    intro σ x1 x2 h
    have hrec_2 : ∀ a : WSX3 × Int32 × Int32, aw_loop (fun r (a : WSX3 × Int32 × Int32) => wb_X3_find_2  post r a.1 a.2.1 a.2.2) n a → AW G MX3_find d 0 0 9 (aw_pi (wX3 G) post) 2 [(0, .ref 0), (1, .int a.2.1), (2, .int a.2.2)] [] (wX3 G a.1) := fun a h => ih a.1 a.2.1 a.2.2 h
    have h : wb_X3_find_2  post (aw_loop (fun r (a : WSX3 × Int32 × Int32) => wb_X3_find_2  post r a.1 a.2.1 a.2.2) n) σ x1 x2 := h
    unfold wb_X3_find_2 at h
    refine aw_iload_n 2 dX3_find_2 rfl rfl ?_
    refine aw_aload_n 0 dX3_find_3 rfl rfl ?_
    refine aw_getf (v := .int σ.1.2.1.2) fX3_35 0 rfl rfl dX3_find_4 ?_
    refine aw_icmp_ge 42 dX3_find_7 (by decide) (fun c5 => ?_) (fun c5 => ?_)
    · have h := h.1 c5
      refine aw_iconst (v := ((-1) : Int32)) dX3_find_42 (by decide) ?_
      exact aw_iret rfl dX3_find_43 ⟨_, σ, rfl, rfl, h⟩
    · have h := h.2 c5
      refine aw_iload_n 2 dX3_find_10 rfl rfl ?_
      refine aw_sipush (v := (200 : Int32)) dX3_find_11 (by decide) ?_
      refine aw_icmp_ge 42 dX3_find_14 (by decide) (fun c4 => ?_) (fun c4 => ?_)
      · have h := h.1 c4
        refine aw_iconst (v := ((-1) : Int32)) dX3_find_42 (by decide) ?_
        exact aw_iret rfl dX3_find_43 ⟨_, σ, rfl, rfl, h⟩
      · have h := h.2 c4
        refine aw_aload_n 0 dX3_find_17 rfl rfl ?_
        refine aw_getf (v := .ref 7) fX3_31 0 rfl rfl dX3_find_18 ?_
        refine aw_aload_n 0 dX3_find_21 rfl rfl ?_
        refine aw_getf (v := .ref 1) fX3_11 0 rfl rfl dX3_find_22 ?_
        refine aw_iload_n 2 dX3_find_25 rfl rfl ?_
        refine aw_iald 1 (n := 200) (f := σ.1.1.1.1) rfl h.1 dX3_find_26 ?_
        have h := h.2
        refine aw_iload_n 1 dX3_find_27 rfl rfl ?_
        refine aw_callV (mc1 := 0) (ms1 := 0) (mc := 0) (ms := 0) (st := []) (q := 7) (As := [.int (σ.1.1.1.1 (x2).toNatClampNeg), .int x1]) (vsc := [.int (σ.1.1.1.1 (x2).toNatClampNeg), .int x1]) lX3_48 insX8_sameName selX8_sameName ⟨TX8, 2, rfl⟩ (by omega) (kX8_sameName (d := 2) (by omega) h) [7, 8] rfl rfl rfl rfl rfl dX3_find_28 rfl rfl (fun _ _ hh => ?_)
        obtain ⟨r1, τ2, rfl, rfl, h⟩ := hh
        refine ⟨(wX3 G (σ.1, τ2)), [.int r1], rfl, rfl, rfl, ?_⟩
        refine aw_if_eq 36 dX3_find_31 (by decide) (fun c3 => ?_) (fun c3 => ?_)
        · have h := h.1 c3
          refine aw_iinc 2 (v := (x2 + 1)) (lv' := [(2, .int (x2 + 1)), (0, .ref 0), (1, .int x1)]) dX3_find_36 rfl rfl (by decide) rfl ?_
          refine aw_goto 2 dX3_find_39 (by decide) ?_
          refine aw_lvsub (lv' := [(0, .ref 0), (1, .int x1), (2, .int (x2 + 1))]) [1, 2, 0] rfl ?_
          exact hrec_2 ((σ.1, τ2), x1, (x2 + 1)) h
        · have h := h.2 c3
          refine aw_iload_n 2 dX3_find_34 rfl rfl ?_
          exact aw_iret rfl dX3_find_35 ⟨_, (σ.1, τ2), rfl, rfl, h⟩
def wp_X3_find (σ : WSX3) (a1 : Int32) (post : Int32 → WSX3 → Prop) : Prop :=
  (∃ n6, wp_X3_find_2  post n6 σ a1 (0 : Int32))
theorem kX3_find {G : aw_G} {d : Nat} (hd : 3 ≤ d) {σ : WSX3} {a1 : Int32} {post : Int32 → WSX3 → Prop} (h : wp_X3_find σ a1 post) : AC G MX3_find d 0 0 9 [.ref 0, .int a1] (wX3 G σ) (aw_pi (wX3 G) post) := by
  refine AC.of (lv := [(0, .ref 0), (1, .int a1)]) (by decide) (Nat.le_of_ble_eq_true rfl) rfl ?_
  unfold wp_X3_find at h
  refine aw_iconst (v := (0 : Int32)) dX3_find_0 (by decide) ?_
  refine aw_istore_n (lv' := [(2, .int (0 : Int32)), (0, .ref 0), (1, .int a1)]) dX3_find_1 rfl (by decide) rfl ?_
  refine aw_lvsub (lv' := [(0, .ref 0), (1, .int a1), (2, .int (0 : Int32))]) [1, 2, 0] rfl ?_
  obtain ⟨n6, h⟩ := h
  exact aw_X3_find_2 hd  n6 σ a1 (0 : Int32) h
def wp_X3_addInputs_66 (rec_3 : WSX3 × Int32 × Int32 × Int32 × Int32 → Prop) (post : WSX3 → Prop) (σ : WSX3) (x1 : Int32) (x2 : Int32) (x3 : Int32) (x4 : Int32) (s0 : Int32) (s1 : Int32) : Prop :=
  (∀ y4 : Int32, y4 = (s1 + s0) → rec_3 (((σ.1.1, (σ.1.2.1, (σ.1.2.2.1, (σ.1.2.2.2.1, y4)))), σ.2), x1, x2, x3, (x4 + 1)))
theorem aw_X3_addInputs_66 {G : aw_G} {d : Nat} (hd : 0 ≤ d) {rec_3 : WSX3 × Int32 × Int32 × Int32 × Int32 → Prop} {post : WSX3 → Prop} (hrec_3 : ∀ a : WSX3 × Int32 × Int32 × Int32 × Int32, rec_3 a → AW G MX3_addInputs d 0 0 9 (aw_pv (wX3 G) post) 3 [(0, .ref 0), (1, .int a.2.1), (2, .int a.2.2.1), (3, .int a.2.2.2.1), (4, .int a.2.2.2.2)] [] (wX3 G a.1)) {σ : WSX3} {x1 : Int32} {x2 : Int32} {x3 : Int32} {x4 : Int32} {s0 : Int32} {s1 : Int32} (h : wp_X3_addInputs_66 rec_3 post σ x1 x2 x3 x4 s0 s1) : AW G MX3_addInputs d 0 0 9 (aw_pv (wX3 G) post) 66 [(0, .ref 0), (1, .int x1), (2, .int x2), (3, .int x3), (4, .int x4)] [.int s0, .int s1, .ref 0] (wX3 G σ) := by
  unfold wp_X3_addInputs_66 at h
  refine aw_iadd dX3_addInputs_66 ?_
  refine aw_topi (fun y4 ey4 => ?_)
  have h := h y4 ey4
  refine aw_putf fX3_45 0 (w' := (wX3 G ((σ.1.1, (σ.1.2.1, (σ.1.2.2.1, (σ.1.2.2.2.1, y4)))), σ.2))) rfl (fun _ => ⟨rfl, rfl⟩) (Nat.le_of_ble_eq_true rfl) rfl dX3_addInputs_67 ?_
  refine aw_iinc 4 (v := (x4 + 1)) (lv' := [(4, .int (x4 + 1)), (0, .ref 0), (1, .int x1), (2, .int x2), (3, .int x3)]) dX3_addInputs_70 rfl rfl (by decide) rfl ?_
  refine aw_goto 3 dX3_addInputs_73 (by decide) ?_
  refine aw_lvsub (lv' := [(0, .ref 0), (1, .int x1), (2, .int x2), (3, .int x3), (4, .int (x4 + 1))]) [1, 2, 3, 4, 0] rfl ?_
  exact hrec_3 (((σ.1.1, (σ.1.2.1, (σ.1.2.2.1, (σ.1.2.2.2.1, y4)))), σ.2), x1, x2, x3, (x4 + 1)) h
def wb_X3_addInputs_3  (post : WSX3 → Prop) (rec_3 : WSX3 × Int32 × Int32 × Int32 × Int32 → Prop) (σ : WSX3) (x1 : Int32) (x2 : Int32) (x3 : Int32) (x4 : Int32) : Prop :=
  ((x2 ≤ x4 → post σ) ∧ (¬ x2 ≤ x4 → (((200 : Int32) ≤ σ.1.2.2.2.1 → post σ) ∧ (¬ (200 : Int32) ≤ σ.1.2.2.2.1 → (vp_in σ.1.2.2.2.1 200 ∧ ∀ y1 : Nat → Int32, y1 = upd σ.1.1.2.2.2 (σ.1.2.2.2.1).toNatClampNeg (x1 + x4) → (vp_in σ.1.2.2.2.1 200 ∧ ∀ y2 : Nat → Int32, y2 = upd σ.1.2.1.1 (σ.1.2.2.2.1).toNatClampNeg (vp_nar .boolean x3) → (∀ y3 : Int32, y3 = (σ.1.2.2.2.1 + (1 : Int32)) → ((x3 = 0 → wp_X3_addInputs_66 rec_3 post (((σ.1.1.1, (σ.1.1.2.1, (σ.1.1.2.2.1, y1))), ((y2, σ.1.2.1.2), (σ.1.2.2.1, (y3, σ.1.2.2.2.2)))), σ.2) x1 x2 x3 x4 (1 : Int32) σ.1.2.2.2.2) ∧ (¬ x3 = 0 → wp_X3_addInputs_66 rec_3 post (((σ.1.1.1, (σ.1.1.2.1, (σ.1.1.2.2.1, y1))), ((y2, σ.1.2.1.2), (σ.1.2.2.1, (y3, σ.1.2.2.2.2)))), σ.2) x1 x2 x3 x4 (0 : Int32) σ.1.2.2.2.2)))))))))
def wp_X3_addInputs_3  (post : WSX3 → Prop) (n : Nat) (σ : WSX3) (x1 : Int32) (x2 : Int32) (x3 : Int32) (x4 : Int32) : Prop := aw_loop (fun r (a : WSX3 × Int32 × Int32 × Int32 × Int32) => wb_X3_addInputs_3  post r a.1 a.2.1 a.2.2.1 a.2.2.2.1 a.2.2.2.2) n (σ, x1, x2, x3, x4)
theorem aw_X3_addInputs_3 {G : aw_G} {d : Nat} (hd : 0 ≤ d) {post : WSX3 → Prop}  : ∀ (n : Nat) (σ : WSX3) (x1 : Int32) (x2 : Int32) (x3 : Int32) (x4 : Int32), wp_X3_addInputs_3  post n σ x1 x2 x3 x4 → AW G MX3_addInputs d 0 0 9 (aw_pv (wX3 G) post) 3 [(0, .ref 0), (1, .int x1), (2, .int x2), (3, .int x3), (4, .int x4)] [] (wX3 G σ) := by
  intro n
  induction n with
  | zero => intro σ x1 x2 x3 x4 h; exact h.elim
  | succ n ih =>
    intro σ x1 x2 x3 x4 h
    have hrec_3 : ∀ a : WSX3 × Int32 × Int32 × Int32 × Int32, aw_loop (fun r (a : WSX3 × Int32 × Int32 × Int32 × Int32) => wb_X3_addInputs_3  post r a.1 a.2.1 a.2.2.1 a.2.2.2.1 a.2.2.2.2) n a → AW G MX3_addInputs d 0 0 9 (aw_pv (wX3 G) post) 3 [(0, .ref 0), (1, .int a.2.1), (2, .int a.2.2.1), (3, .int a.2.2.2.1), (4, .int a.2.2.2.2)] [] (wX3 G a.1) := fun a h => ih a.1 a.2.1 a.2.2.1 a.2.2.2.1 a.2.2.2.2 h
    have h : wb_X3_addInputs_3  post (aw_loop (fun r (a : WSX3 × Int32 × Int32 × Int32 × Int32) => wb_X3_addInputs_3  post r a.1 a.2.1 a.2.2.1 a.2.2.2.1 a.2.2.2.2) n) σ x1 x2 x3 x4 := h
    unfold wb_X3_addInputs_3 at h
    refine aw_iload 4 dX3_addInputs_3 rfl ?_
    refine aw_iload_n 2 dX3_addInputs_5 rfl rfl ?_
    refine aw_icmp_ge 76 dX3_addInputs_6 (by decide) (fun c7 => ?_) (fun c7 => ?_)
    · have h := h.1 c7
      exact aw_vret rfl dX3_addInputs_76 ⟨σ, rfl, rfl, h⟩
    · have h := h.2 c7
      refine aw_aload_n 0 dX3_addInputs_9 rfl rfl ?_
      refine aw_getf (v := .int σ.1.2.2.2.1) fX3_42 0 rfl rfl dX3_addInputs_10 ?_
      refine aw_sipush (v := (200 : Int32)) dX3_addInputs_13 (by decide) ?_
      refine aw_icmp_ge 76 dX3_addInputs_16 (by decide) (fun c6 => ?_) (fun c6 => ?_)
      · have h := h.1 c6
        exact aw_vret rfl dX3_addInputs_76 ⟨σ, rfl, rfl, h⟩
      · have h := h.2 c6
        refine aw_aload_n 0 dX3_addInputs_19 rfl rfl ?_
        refine aw_getf (v := .ref 5) fX3_24 0 rfl rfl dX3_addInputs_20 ?_
        refine aw_aload_n 0 dX3_addInputs_23 rfl rfl ?_
        refine aw_getf (v := .int σ.1.2.2.2.1) fX3_42 0 rfl rfl dX3_addInputs_24 ?_
        refine aw_iload_n 1 dX3_addInputs_27 rfl rfl ?_
        refine aw_iload 4 dX3_addInputs_28 rfl ?_
        refine aw_iadd dX3_addInputs_30 ?_
        refine aw_iast 5 (n := 200) (f := σ.1.1.2.2.2) (w' := fun y1 => (wX3 G (((σ.1.1.1, (σ.1.1.2.1, (σ.1.1.2.2.1, y1))), σ.1.2), σ.2))) rfl h.1 (fun _ => rfl) dX3_addInputs_31 (fun y1 ey1 => ?_)
        have h := h.2 y1 ey1
        refine aw_aload_n 0 dX3_addInputs_32 rfl rfl ?_
        refine aw_getf (v := .ref 6) fX3_27 0 rfl rfl dX3_addInputs_33 ?_
        refine aw_aload_n 0 dX3_addInputs_36 rfl rfl ?_
        refine aw_getf (v := .int σ.1.2.2.2.1) fX3_42 0 rfl rfl dX3_addInputs_37 ?_
        refine aw_iload_n 3 dX3_addInputs_40 rfl rfl ?_
        refine aw_zast 6 (n := 200) (f := σ.1.2.1.1) (w' := fun y2 => (wX3 G (((σ.1.1.1, (σ.1.1.2.1, (σ.1.1.2.2.1, y1))), ((y2, σ.1.2.1.2), σ.1.2.2)), σ.2))) rfl h.1 (fun _ => rfl) dX3_addInputs_41 (fun y2 ey2 => ?_)
        have h := h.2 y2 ey2
        refine aw_aload_n 0 dX3_addInputs_42 rfl rfl ?_
        refine aw_dup dX3_addInputs_43 rfl ?_
        refine aw_getf (v := .int σ.1.2.2.2.1) fX3_42 0 rfl rfl dX3_addInputs_44 ?_
        refine aw_iconst (v := (1 : Int32)) dX3_addInputs_47 (by decide) ?_
        refine aw_iadd dX3_addInputs_48 ?_
        refine aw_topi (fun y3 ey3 => ?_)
        have h := h y3 ey3
        refine aw_putf fX3_42 0 (w' := (wX3 G (((σ.1.1.1, (σ.1.1.2.1, (σ.1.1.2.2.1, y1))), ((y2, σ.1.2.1.2), (σ.1.2.2.1, (y3, σ.1.2.2.2.2)))), σ.2))) rfl (fun _ => ⟨rfl, rfl⟩) (Nat.le_of_ble_eq_true rfl) rfl dX3_addInputs_49 ?_
        refine aw_aload_n 0 dX3_addInputs_52 rfl rfl ?_
        refine aw_dup dX3_addInputs_53 rfl ?_
        refine aw_getf (v := .int σ.1.2.2.2.2) fX3_45 0 rfl rfl dX3_addInputs_54 ?_
        refine aw_iload_n 3 dX3_addInputs_57 rfl rfl ?_
        refine aw_if_eq 65 dX3_addInputs_58 (by decide) (fun c5 => ?_) (fun c5 => ?_)
        · have h := h.1 c5
          refine aw_iconst (v := (1 : Int32)) dX3_addInputs_65 (by decide) ?_
          exact aw_X3_addInputs_66 hd hrec_3 h
        · have h := h.2 c5
          refine aw_iconst (v := (0 : Int32)) dX3_addInputs_61 (by decide) ?_
          refine aw_goto 66 dX3_addInputs_62 (by decide) ?_
          exact aw_X3_addInputs_66 hd hrec_3 h
def wp_X3_addInputs (σ : WSX3) (a1 : Int32) (a2 : Int32) (a3 : Int32) (post : WSX3 → Prop) : Prop :=
  (∃ n8, wp_X3_addInputs_3  post n8 σ a1 a2 a3 (0 : Int32))
theorem kX3_addInputs {G : aw_G} {d : Nat} (hd : 0 ≤ d) {σ : WSX3} {a1 : Int32} {a2 : Int32} {a3 : Int32} {post : WSX3 → Prop} (h : wp_X3_addInputs σ a1 a2 a3 post) : AC G MX3_addInputs d 0 0 9 [.ref 0, .int a1, .int a2, .int a3] (wX3 G σ) (aw_pv (wX3 G) post) := by
  refine AC.of (lv := [(0, .ref 0), (1, .int a1), (2, .int a2), (3, .int a3)]) (by decide) (Nat.le_of_ble_eq_true rfl) rfl ?_
  unfold wp_X3_addInputs at h
  refine aw_iconst (v := (0 : Int32)) dX3_addInputs_0 (by decide) ?_
  refine aw_istore (lv' := [(4, .int (0 : Int32)), (0, .ref 0), (1, .int a1), (2, .int a2), (3, .int a3)]) dX3_addInputs_1 (by decide) rfl ?_
  refine aw_lvsub (lv' := [(0, .ref 0), (1, .int a1), (2, .int a2), (3, .int a3), (4, .int (0 : Int32))]) [1, 2, 3, 4, 0] rfl ?_
  obtain ⟨n8, h⟩ := h
  exact aw_X3_addInputs_3 hd  n8 σ a1 a2 a3 (0 : Int32) h
def wp_X3_declare_112  (post : Int32 → WSX3 → Prop) (σ : WSX3) (x4 : Int32) : Prop :=
  (∀ y7 : Int32, y7 = (σ.1.2.2.1 + x4) → post (1 : Int32) ((σ.1.1, (σ.1.2.1, (y7, σ.1.2.2.2))), σ.2))
theorem aw_X3_declare_112 {G : aw_G} {d : Nat} (hd : 1 ≤ d) {post : Int32 → WSX3 → Prop}  {σ : WSX3} {x4 : Int32} (h : wp_X3_declare_112  post σ x4) : AW G MX3_declare d 0 0 9 (aw_pi (wX3 G) post) 112 [(0, .ref 0), (4, .int x4)] [] (wX3 G σ) := by
  unfold wp_X3_declare_112 at h
  refine aw_aload_n 0 dX3_declare_112 rfl rfl ?_
  refine aw_dup dX3_declare_113 rfl ?_
  refine aw_getf (v := .int σ.1.2.2.1) fX3_39 0 rfl rfl dX3_declare_114 ?_
  refine aw_iload 1 dX3_declare_117 rfl ?_
  refine aw_iadd dX3_declare_119 ?_
  refine aw_topi (fun y7 ey7 => ?_)
  have h := h y7 ey7
  refine aw_putf fX3_39 0 (w' := (wX3 G ((σ.1.1, (σ.1.2.1, (y7, σ.1.2.2.2))), σ.2))) rfl (fun _ => ⟨rfl, rfl⟩) (Nat.le_of_ble_eq_true rfl) rfl dX3_declare_120 ?_
  refine aw_iconst (v := (1 : Int32)) dX3_declare_123 (by decide) ?_
  exact aw_zret rfl rfl dX3_declare_124 ⟨_, ((σ.1.1, (σ.1.2.1, (y7, σ.1.2.2.2))), σ.2), rfl, rfl, h⟩
def wp_X3_declare_109  (post : Int32 → WSX3 → Prop) (σ : WSX3) (x4 : Int32) (s0 : Int32) (s1 : Int32) (s2 : Int32) : Prop :=
  wp_X3_addInputs σ s2 s1 s0 (fun τ9 => wp_X3_declare_112  post τ9 x4)
theorem aw_X3_declare_109 {G : aw_G} {d : Nat} (hd : 1 ≤ d) {post : Int32 → WSX3 → Prop}  {σ : WSX3} {x4 : Int32} {s0 : Int32} {s1 : Int32} {s2 : Int32} (h : wp_X3_declare_109  post σ x4 s0 s1 s2) : AW G MX3_declare d 0 0 9 (aw_pi (wX3 G) post) 109 [(0, .ref 0), (4, .int x4)] [.int s0, .int s1, .int s2, .ref 0] (wX3 G σ) := by
  unfold wp_X3_declare_109 at h
  refine aw_callVT (mc1 := 0) (ms1 := 0) (mc := 0) (ms := 0) (st := []) (q := 0) (As := [.int s2, .int s1, .int s0]) lX3_60 insX3_addInputs selX3_addInputs ⟨TX3, 11, rfl⟩ (by omega) (kX3_addInputs (d := 0) (by omega) h) (Nat.le_of_ble_eq_true rfl) rfl rfl rfl dX3_declare_109 rfl (fun _ _ hh => ?_)
  obtain ⟨τ9, rfl, rfl, h⟩ := hh
  refine aw_stk (st' := []) rfl ?_
  exact aw_X3_declare_112 hd  h
def wp_X3_declare (σ : WSX3) (a1 : Int32) (a2 : Int32) (a3 : Int32) (post : Int32 → WSX3 → Prop) : Prop :=
  (∀ y1 : Int32, y1 = (if (1 : Int32) < a2 then a2 else (1 : Int32)) → (((200 : Int32) < (σ.1.2.2.1 + y1) → post (0 : Int32) σ) ∧ (¬ (200 : Int32) < (σ.1.2.2.1 + y1) → ((σ.1.2.1.2 < (200 : Int32) → (vp_in σ.1.2.1.2 200 ∧ ∀ y2 : Nat → Int32, y2 = upd σ.1.1.1.1 (σ.1.2.1.2).toNatClampNeg a1 → (vp_in σ.1.2.1.2 200 ∧ ∀ y3 : Nat → Int32, y3 = upd σ.1.1.1.2 (σ.1.2.1.2).toNatClampNeg σ.1.2.2.1 → (vp_in σ.1.2.1.2 200 ∧ ∀ y4 : Nat → Int32, y4 = upd σ.1.1.2.1 (σ.1.2.1.2).toNatClampNeg a2 → (vp_in σ.1.2.1.2 200 ∧ ∀ y5 : Nat → Int32, y5 = upd σ.1.1.2.2.1 (σ.1.2.1.2).toNatClampNeg a3 → (∀ y6 : Int32, y6 = (σ.1.2.1.2 + (1 : Int32)) → (((a3 &&& (2 : Int32)) = 0 → wp_X3_declare_112  post ((((y2, y3), (y4, (y5, σ.1.1.2.2.2))), ((σ.1.2.1.1, y6), σ.1.2.2)), σ.2) y1) ∧ (¬ (a3 &&& (2 : Int32)) = 0 → (((a3 &&& (1 : Int32)) = 0 → wp_X3_declare_109  post ((((y2, y3), (y4, (y5, σ.1.1.2.2.2))), ((σ.1.2.1.1, y6), σ.1.2.2)), σ.2) y1 (0 : Int32) y1 σ.1.2.2.1) ∧ (¬ (a3 &&& (1 : Int32)) = 0 → wp_X3_declare_109  post ((((y2, y3), (y4, (y5, σ.1.1.2.2.2))), ((σ.1.2.1.1, y6), σ.1.2.2)), σ.2) y1 (1 : Int32) y1 σ.1.2.2.1)))))))))) ∧ (¬ σ.1.2.1.2 < (200 : Int32) → post (0 : Int32) σ)))))
theorem kX3_declare {G : aw_G} {d : Nat} (hd : 1 ≤ d) {σ : WSX3} {a1 : Int32} {a2 : Int32} {a3 : Int32} {post : Int32 → WSX3 → Prop} (h : wp_X3_declare σ a1 a2 a3 post) : AC G MX3_declare d 0 0 9 [.ref 0, .int a1, .int a2, .int a3] (wX3 G σ) (aw_pi (wX3 G) post) := by
  refine AC.of (lv := [(0, .ref 0), (1, .int a1), (2, .int a2), (3, .int a3)]) (by decide) (Nat.le_of_ble_eq_true rfl) rfl ?_
  unfold wp_X3_declare at h
  refine aw_iconst (v := (1 : Int32)) dX3_declare_0 (by decide) ?_
  refine aw_iload_n 2 dX3_declare_1 rfl rfl ?_
  refine aw_mmax qX3_54 mathS_max iniJ9 mathK_max (by omega) (Nat.le_of_ble_eq_true rfl) dX3_declare_2 ?_
  refine aw_topi (fun y1 ey1 => ?_)
  have h := h y1 ey1
  refine aw_istore (lv' := [(4, .int y1), (0, .ref 0), (1, .int a1), (2, .int a2), (3, .int a3)]) dX3_declare_5 (by decide) rfl ?_
  refine aw_aload_n 1 dX3_declare_7 rfl rfl ?_
  refine aw_getf (v := .int σ.1.2.2.1) fX3_39 0 rfl rfl dX3_declare_8 ?_
  refine aw_iload 0 dX3_declare_11 rfl ?_
  refine aw_iadd dX3_declare_13 ?_
  refine aw_sipush (v := (200 : Int32)) dX3_declare_14 (by decide) ?_
  refine aw_icmp_gt 30 dX3_declare_17 (by decide) (fun c13 => ?_) (fun c13 => ?_)
  · have h := h.1 c13
    refine aw_iconst (v := (0 : Int32)) dX3_declare_30 (by decide) ?_
    exact aw_zret rfl rfl dX3_declare_31 ⟨_, σ, rfl, rfl, h⟩
  · have h := h.2 c13
    refine aw_aload_n 1 dX3_declare_20 rfl rfl ?_
    refine aw_getf (v := .int σ.1.2.1.2) fX3_35 0 rfl rfl dX3_declare_21 ?_
    refine aw_sipush (v := (200 : Int32)) dX3_declare_24 (by decide) ?_
    refine aw_icmp_lt 32 dX3_declare_27 (by decide) (fun c12 => ?_) (fun c12 => ?_)
    · have h := h.1 c12
      refine aw_aload_n 1 dX3_declare_32 rfl rfl ?_
      refine aw_getf (v := .ref 1) fX3_11 0 rfl rfl dX3_declare_33 ?_
      refine aw_aload_n 1 dX3_declare_36 rfl rfl ?_
      refine aw_getf (v := .int σ.1.2.1.2) fX3_35 0 rfl rfl dX3_declare_37 ?_
      refine aw_iload_n 2 dX3_declare_40 rfl rfl ?_
      refine aw_iast 1 (n := 200) (f := σ.1.1.1.1) (w' := fun y2 => (wX3 G ((((y2, σ.1.1.1.2), σ.1.1.2), σ.1.2), σ.2))) rfl h.1 (fun _ => rfl) dX3_declare_41 (fun y2 ey2 => ?_)
      have h := h.2 y2 ey2
      refine aw_aload_n 1 dX3_declare_42 rfl rfl ?_
      refine aw_getf (v := .ref 2) fX3_15 0 rfl rfl dX3_declare_43 ?_
      refine aw_aload_n 1 dX3_declare_46 rfl rfl ?_
      refine aw_getf (v := .int σ.1.2.1.2) fX3_35 0 rfl rfl dX3_declare_47 ?_
      refine aw_aload_n 1 dX3_declare_50 rfl rfl ?_
      refine aw_getf (v := .int σ.1.2.2.1) fX3_39 0 rfl rfl dX3_declare_51 ?_
      refine aw_iast 2 (n := 200) (f := σ.1.1.1.2) (w' := fun y3 => (wX3 G ((((y2, y3), σ.1.1.2), σ.1.2), σ.2))) rfl h.1 (fun _ => rfl) dX3_declare_54 (fun y3 ey3 => ?_)
      have h := h.2 y3 ey3
      refine aw_aload_n 1 dX3_declare_55 rfl rfl ?_
      refine aw_getf (v := .ref 3) fX3_18 0 rfl rfl dX3_declare_56 ?_
      refine aw_aload_n 1 dX3_declare_59 rfl rfl ?_
      refine aw_getf (v := .int σ.1.2.1.2) fX3_35 0 rfl rfl dX3_declare_60 ?_
      refine aw_iload_n 3 dX3_declare_63 rfl rfl ?_
      refine aw_iast 3 (n := 200) (f := σ.1.1.2.1) (w' := fun y4 => (wX3 G ((((y2, y3), (y4, σ.1.1.2.2)), σ.1.2), σ.2))) rfl h.1 (fun _ => rfl) dX3_declare_64 (fun y4 ey4 => ?_)
      have h := h.2 y4 ey4
      refine aw_aload_n 1 dX3_declare_65 rfl rfl ?_
      refine aw_getf (v := .ref 4) fX3_21 0 rfl rfl dX3_declare_66 ?_
      refine aw_aload_n 1 dX3_declare_69 rfl rfl ?_
      refine aw_getf (v := .int σ.1.2.1.2) fX3_35 0 rfl rfl dX3_declare_70 ?_
      refine aw_iload_n 4 dX3_declare_73 rfl rfl ?_
      refine aw_iast 4 (n := 200) (f := σ.1.1.2.2.1) (w' := fun y5 => (wX3 G ((((y2, y3), (y4, (y5, σ.1.1.2.2.2))), σ.1.2), σ.2))) rfl h.1 (fun _ => rfl) dX3_declare_74 (fun y5 ey5 => ?_)
      have h := h.2 y5 ey5
      refine aw_aload_n 1 dX3_declare_75 rfl rfl ?_
      refine aw_dup dX3_declare_76 rfl ?_
      refine aw_getf (v := .int σ.1.2.1.2) fX3_35 0 rfl rfl dX3_declare_77 ?_
      refine aw_iconst (v := (1 : Int32)) dX3_declare_80 (by decide) ?_
      refine aw_iadd dX3_declare_81 ?_
      refine aw_topi (fun y6 ey6 => ?_)
      have h := h y6 ey6
      refine aw_putf fX3_35 0 (w' := (wX3 G ((((y2, y3), (y4, (y5, σ.1.1.2.2.2))), ((σ.1.2.1.1, y6), σ.1.2.2)), σ.2))) rfl (fun _ => ⟨rfl, rfl⟩) (Nat.le_of_ble_eq_true rfl) rfl dX3_declare_82 ?_
      refine aw_iload_n 4 dX3_declare_85 rfl rfl ?_
      refine aw_iconst (v := (2 : Int32)) dX3_declare_86 (by decide) ?_
      refine aw_iand dX3_declare_87 ?_
      refine aw_if_eq 112 dX3_declare_88 (by decide) (fun c11 => ?_) (fun c11 => ?_)
      · have h := h.1 c11
        refine aw_lvsub (lv' := [(0, .ref 0), (4, .int y1)]) [1, 0] rfl ?_
        exact aw_X3_declare_112 hd  h
      · have h := h.2 c11
        refine aw_aload_n 1 dX3_declare_91 rfl rfl ?_
        refine aw_aload_n 1 dX3_declare_92 rfl rfl ?_
        refine aw_getf (v := .int σ.1.2.2.1) fX3_39 0 rfl rfl dX3_declare_93 ?_
        refine aw_iload 0 dX3_declare_96 rfl ?_
        refine aw_iload_n 4 dX3_declare_98 rfl rfl ?_
        refine aw_iconst (v := (1 : Int32)) dX3_declare_99 (by decide) ?_
        refine aw_iand dX3_declare_100 ?_
        refine aw_if_eq 108 dX3_declare_101 (by decide) (fun c10 => ?_) (fun c10 => ?_)
        · have h := h.1 c10
          refine aw_iconst (v := (0 : Int32)) dX3_declare_108 (by decide) ?_
          refine aw_lvsub (lv' := [(0, .ref 0), (4, .int y1)]) [1, 0] rfl ?_
          exact aw_X3_declare_109 hd  h
        · have h := h.2 c10
          refine aw_iconst (v := (1 : Int32)) dX3_declare_104 (by decide) ?_
          refine aw_goto 109 dX3_declare_105 (by decide) ?_
          refine aw_lvsub (lv' := [(0, .ref 0), (4, .int y1)]) [1, 0] rfl ?_
          exact aw_X3_declare_109 hd  h
    · have h := h.2 c12
      refine aw_iconst (v := (0 : Int32)) dX3_declare_30 (by decide) ?_
      exact aw_zret rfl rfl dX3_declare_31 ⟨_, σ, rfl, rfl, h⟩
def wp_X3_has (σ : WSX3) (a1 : Int32) (post : Int32 → WSX3 → Prop) : Prop :=
  ((a1 < 0 → post (0 : Int32) σ) ∧ (¬ a1 < 0 → ((σ.1.2.1.2 ≤ a1 → post (0 : Int32) σ) ∧ (¬ σ.1.2.1.2 ≤ a1 → (((200 : Int32) ≤ a1 → post (0 : Int32) σ) ∧ (¬ (200 : Int32) ≤ a1 → post (1 : Int32) σ))))))
theorem kX3_has {G : aw_G} {d : Nat} (hd : 0 ≤ d) {σ : WSX3} {a1 : Int32} {post : Int32 → WSX3 → Prop} (h : wp_X3_has σ a1 post) : AC G MX3_has d 0 0 9 [.ref 0, .int a1] (wX3 G σ) (aw_pi (wX3 G) post) := by
  refine AC.of (lv := [(0, .ref 0), (1, .int a1)]) (by decide) (Nat.le_of_ble_eq_true rfl) rfl ?_
  unfold wp_X3_has at h
  refine aw_iload_n 1 dX3_has_0 rfl rfl ?_
  refine aw_if_lt 23 dX3_has_1 (by decide) (fun c3 => ?_) (fun c3 => ?_)
  · have h := h.1 c3
    refine aw_iconst (v := (0 : Int32)) dX3_has_23 (by decide) ?_
    exact aw_zret rfl rfl dX3_has_24 ⟨_, σ, rfl, rfl, h⟩
  · have h := h.2 c3
    refine aw_iload_n 1 dX3_has_4 rfl rfl ?_
    refine aw_aload_n 0 dX3_has_5 rfl rfl ?_
    refine aw_getf (v := .int σ.1.2.1.2) fX3_35 0 rfl rfl dX3_has_6 ?_
    refine aw_icmp_ge 23 dX3_has_9 (by decide) (fun c2 => ?_) (fun c2 => ?_)
    · have h := h.1 c2
      refine aw_iconst (v := (0 : Int32)) dX3_has_23 (by decide) ?_
      exact aw_zret rfl rfl dX3_has_24 ⟨_, σ, rfl, rfl, h⟩
    · have h := h.2 c2
      refine aw_iload_n 1 dX3_has_12 rfl rfl ?_
      refine aw_sipush (v := (200 : Int32)) dX3_has_13 (by decide) ?_
      refine aw_icmp_ge 23 dX3_has_16 (by decide) (fun c1 => ?_) (fun c1 => ?_)
      · have h := h.1 c1
        refine aw_iconst (v := (0 : Int32)) dX3_has_23 (by decide) ?_
        exact aw_zret rfl rfl dX3_has_24 ⟨_, σ, rfl, rfl, h⟩
      · have h := h.2 c1
        refine aw_iconst (v := (1 : Int32)) dX3_has_19 (by decide) ?_
        refine aw_goto 24 dX3_has_20 (by decide) ?_
        exact aw_zret rfl rfl dX3_has_24 ⟨_, σ, rfl, rfl, h⟩
def wp_X3_secret (σ : WSX3) (a1 : Int32) (post : Int32 → WSX3 → Prop) : Prop :=
  wp_X3_has σ a1 (fun r1 τ2 => ((r1 = 0 → post (0 : Int32) τ2) ∧ (¬ r1 = 0 → (vp_in a1 200 ∧ ((((τ2.1.1.2.2.1 (a1).toNatClampNeg) &&& (1 : Int32)) = 0 → post (0 : Int32) τ2) ∧ (¬ ((τ2.1.1.2.2.1 (a1).toNatClampNeg) &&& (1 : Int32)) = 0 → post (1 : Int32) τ2))))))
theorem kX3_secret {G : aw_G} {d : Nat} (hd : 1 ≤ d) {σ : WSX3} {a1 : Int32} {post : Int32 → WSX3 → Prop} (h : wp_X3_secret σ a1 post) : AC G MX3_secret d 0 0 9 [.ref 0, .int a1] (wX3 G σ) (aw_pi (wX3 G) post) := by
  refine AC.of (lv := [(0, .ref 0), (1, .int a1)]) (by decide) (Nat.le_of_ble_eq_true rfl) rfl ?_
  unfold wp_X3_secret at h
  refine aw_aload_n 0 dX3_secret_0 rfl rfl ?_
  refine aw_iload_n 1 dX3_secret_1 rfl rfl ?_
  refine aw_callVT (mc1 := 0) (ms1 := 0) (mc := 0) (ms := 0) (st := []) (q := 0) (As := [.int a1]) lX3_64 insX3_has selX3_has ⟨TX3, 11, rfl⟩ (by omega) (kX3_has (d := 0) (by omega) h) (Nat.le_of_ble_eq_true rfl) rfl rfl rfl dX3_secret_2 rfl (fun _ _ hh => ?_)
  obtain ⟨r1, τ2, rfl, rfl, h⟩ := hh
  refine aw_stk (st' := [.int r1]) rfl ?_
  refine aw_if_eq 23 dX3_secret_5 (by decide) (fun c4 => ?_) (fun c4 => ?_)
  · have h := h.1 c4
    refine aw_iconst (v := (0 : Int32)) dX3_secret_23 (by decide) ?_
    exact aw_zret rfl rfl dX3_secret_24 ⟨_, τ2, rfl, rfl, h⟩
  · have h := h.2 c4
    refine aw_aload_n 0 dX3_secret_8 rfl rfl ?_
    refine aw_getf (v := .ref 4) fX3_21 0 rfl rfl dX3_secret_9 ?_
    refine aw_iload_n 1 dX3_secret_12 rfl rfl ?_
    refine aw_iald 4 (n := 200) (f := τ2.1.1.2.2.1) rfl h.1 dX3_secret_13 ?_
    have h := h.2
    refine aw_iconst (v := (1 : Int32)) dX3_secret_14 (by decide) ?_
    refine aw_iand dX3_secret_15 ?_
    refine aw_if_eq 23 dX3_secret_16 (by decide) (fun c3 => ?_) (fun c3 => ?_)
    · have h := h.1 c3
      refine aw_iconst (v := (0 : Int32)) dX3_secret_23 (by decide) ?_
      exact aw_zret rfl rfl dX3_secret_24 ⟨_, τ2, rfl, rfl, h⟩
    · have h := h.2 c3
      refine aw_iconst (v := (1 : Int32)) dX3_secret_19 (by decide) ?_
      refine aw_goto 24 dX3_secret_20 (by decide) ?_
      exact aw_zret rfl rfl dX3_secret_24 ⟨_, τ2, rfl, rfl, h⟩
def wp_X3_length (σ : WSX3) (a1 : Int32) (post : Int32 → WSX3 → Prop) : Prop :=
  wp_X3_has σ a1 (fun r1 τ2 => ((r1 = 0 → post (0 : Int32) τ2) ∧ (¬ r1 = 0 → (vp_in a1 200 ∧ post (τ2.1.1.2.1 (a1).toNatClampNeg) τ2))))
theorem kX3_length {G : aw_G} {d : Nat} (hd : 1 ≤ d) {σ : WSX3} {a1 : Int32} {post : Int32 → WSX3 → Prop} (h : wp_X3_length σ a1 post) : AC G MX3_length d 0 0 9 [.ref 0, .int a1] (wX3 G σ) (aw_pi (wX3 G) post) := by
  refine AC.of (lv := [(0, .ref 0), (1, .int a1)]) (by decide) (Nat.le_of_ble_eq_true rfl) rfl ?_
  unfold wp_X3_length at h
  refine aw_aload_n 0 dX3_length_0 rfl rfl ?_
  refine aw_iload_n 1 dX3_length_1 rfl rfl ?_
  refine aw_callVT (mc1 := 0) (ms1 := 0) (mc := 0) (ms := 0) (st := []) (q := 0) (As := [.int a1]) lX3_64 insX3_has selX3_has ⟨TX3, 11, rfl⟩ (by omega) (kX3_has (d := 0) (by omega) h) (Nat.le_of_ble_eq_true rfl) rfl rfl rfl dX3_length_2 rfl (fun _ _ hh => ?_)
  obtain ⟨r1, τ2, rfl, rfl, h⟩ := hh
  refine aw_stk (st' := [.int r1]) rfl ?_
  refine aw_if_eq 17 dX3_length_5 (by decide) (fun c3 => ?_) (fun c3 => ?_)
  · have h := h.1 c3
    refine aw_iconst (v := (0 : Int32)) dX3_length_17 (by decide) ?_
    exact aw_iret rfl dX3_length_18 ⟨_, τ2, rfl, rfl, h⟩
  · have h := h.2 c3
    refine aw_aload_n 0 dX3_length_8 rfl rfl ?_
    refine aw_getf (v := .ref 3) fX3_18 0 rfl rfl dX3_length_9 ?_
    refine aw_iload_n 1 dX3_length_12 rfl rfl ?_
    refine aw_iald 3 (n := 200) (f := τ2.1.1.2.1) rfl h.1 dX3_length_13 ?_
    have h := h.2
    refine aw_goto 18 dX3_length_14 (by decide) ?_
    exact aw_iret rfl dX3_length_18 ⟨_, τ2, rfl, rfl, h⟩
def wp_X3_isRow (σ : WSX3) (a1 : Int32) (post : Int32 → WSX3 → Prop) : Prop :=
  wp_X3_length σ a1 (fun r1 τ2 => ((r1 ≤ 0 → post (0 : Int32) τ2) ∧ (¬ r1 ≤ 0 → post (1 : Int32) τ2)))
theorem kX3_isRow {G : aw_G} {d : Nat} (hd : 2 ≤ d) {σ : WSX3} {a1 : Int32} {post : Int32 → WSX3 → Prop} (h : wp_X3_isRow σ a1 post) : AC G MX3_isRow d 0 0 9 [.ref 0, .int a1] (wX3 G σ) (aw_pi (wX3 G) post) := by
  refine AC.of (lv := [(0, .ref 0), (1, .int a1)]) (by decide) (Nat.le_of_ble_eq_true rfl) rfl ?_
  unfold wp_X3_isRow at h
  refine aw_aload_n 0 dX3_isRow_0 rfl rfl ?_
  refine aw_iload_n 1 dX3_isRow_1 rfl rfl ?_
  refine aw_callVT (mc1 := 0) (ms1 := 0) (mc := 0) (ms := 0) (st := []) (q := 0) (As := [.int a1]) lX3_68 insX3_length selX3_length ⟨TX3, 11, rfl⟩ (by omega) (kX3_length (d := 1) (by omega) h) (Nat.le_of_ble_eq_true rfl) rfl rfl rfl dX3_isRow_2 rfl (fun _ _ hh => ?_)
  obtain ⟨r1, τ2, rfl, rfl, h⟩ := hh
  refine aw_stk (st' := [.int r1]) rfl ?_
  refine aw_if_le 12 dX3_isRow_5 (by decide) (fun c3 => ?_) (fun c3 => ?_)
  · have h := h.1 c3
    refine aw_iconst (v := (0 : Int32)) dX3_isRow_12 (by decide) ?_
    exact aw_zret rfl rfl dX3_isRow_13 ⟨_, τ2, rfl, rfl, h⟩
  · have h := h.2 c3
    refine aw_iconst (v := (1 : Int32)) dX3_isRow_8 (by decide) ?_
    refine aw_goto 13 dX3_isRow_9 (by decide) ?_
    exact aw_zret rfl rfl dX3_isRow_13 ⟨_, τ2, rfl, rfl, h⟩
def wp_X3_firstWord (σ : WSX3) (a1 : Int32) (post : Int32 → WSX3 → Prop) : Prop :=
  wp_X3_has σ a1 (fun r1 τ2 => ((r1 = 0 → post (0 : Int32) τ2) ∧ (¬ r1 = 0 → (vp_in a1 200 ∧ post (τ2.1.1.1.2 (a1).toNatClampNeg) τ2))))
theorem kX3_firstWord {G : aw_G} {d : Nat} (hd : 1 ≤ d) {σ : WSX3} {a1 : Int32} {post : Int32 → WSX3 → Prop} (h : wp_X3_firstWord σ a1 post) : AC G MX3_firstWord d 0 0 9 [.ref 0, .int a1] (wX3 G σ) (aw_pi (wX3 G) post) := by
  refine AC.of (lv := [(0, .ref 0), (1, .int a1)]) (by decide) (Nat.le_of_ble_eq_true rfl) rfl ?_
  unfold wp_X3_firstWord at h
  refine aw_aload_n 0 dX3_firstWord_0 rfl rfl ?_
  refine aw_iload_n 1 dX3_firstWord_1 rfl rfl ?_
  refine aw_callVT (mc1 := 0) (ms1 := 0) (mc := 0) (ms := 0) (st := []) (q := 0) (As := [.int a1]) lX3_64 insX3_has selX3_has ⟨TX3, 11, rfl⟩ (by omega) (kX3_has (d := 0) (by omega) h) (Nat.le_of_ble_eq_true rfl) rfl rfl rfl dX3_firstWord_2 rfl (fun _ _ hh => ?_)
  obtain ⟨r1, τ2, rfl, rfl, h⟩ := hh
  refine aw_stk (st' := [.int r1]) rfl ?_
  refine aw_if_eq 17 dX3_firstWord_5 (by decide) (fun c3 => ?_) (fun c3 => ?_)
  · have h := h.1 c3
    refine aw_iconst (v := (0 : Int32)) dX3_firstWord_17 (by decide) ?_
    exact aw_iret rfl dX3_firstWord_18 ⟨_, τ2, rfl, rfl, h⟩
  · have h := h.2 c3
    refine aw_aload_n 0 dX3_firstWord_8 rfl rfl ?_
    refine aw_getf (v := .ref 2) fX3_15 0 rfl rfl dX3_firstWord_9 ?_
    refine aw_iload_n 1 dX3_firstWord_12 rfl rfl ?_
    refine aw_iald 2 (n := 200) (f := τ2.1.1.1.2) rfl h.1 dX3_firstWord_13 ?_
    have h := h.2
    refine aw_goto 18 dX3_firstWord_14 (by decide) ?_
    exact aw_iret rfl dX3_firstWord_18 ⟨_, τ2, rfl, rfl, h⟩
def wp_X3_hasInput (σ : WSX3) (a1 : Int32) (post : Int32 → WSX3 → Prop) : Prop :=
  ((a1 < 0 → post (0 : Int32) σ) ∧ (¬ a1 < 0 → ((σ.1.2.2.2.1 ≤ a1 → post (0 : Int32) σ) ∧ (¬ σ.1.2.2.2.1 ≤ a1 → (((200 : Int32) ≤ a1 → post (0 : Int32) σ) ∧ (¬ (200 : Int32) ≤ a1 → post (1 : Int32) σ))))))
theorem kX3_hasInput {G : aw_G} {d : Nat} (hd : 0 ≤ d) {σ : WSX3} {a1 : Int32} {post : Int32 → WSX3 → Prop} (h : wp_X3_hasInput σ a1 post) : AC G MX3_hasInput d 0 0 9 [.ref 0, .int a1] (wX3 G σ) (aw_pi (wX3 G) post) := by
  refine AC.of (lv := [(0, .ref 0), (1, .int a1)]) (by decide) (Nat.le_of_ble_eq_true rfl) rfl ?_
  unfold wp_X3_hasInput at h
  refine aw_iload_n 1 dX3_hasInput_0 rfl rfl ?_
  refine aw_if_lt 23 dX3_hasInput_1 (by decide) (fun c3 => ?_) (fun c3 => ?_)
  · have h := h.1 c3
    refine aw_iconst (v := (0 : Int32)) dX3_hasInput_23 (by decide) ?_
    exact aw_zret rfl rfl dX3_hasInput_24 ⟨_, σ, rfl, rfl, h⟩
  · have h := h.2 c3
    refine aw_iload_n 1 dX3_hasInput_4 rfl rfl ?_
    refine aw_aload_n 0 dX3_hasInput_5 rfl rfl ?_
    refine aw_getf (v := .int σ.1.2.2.2.1) fX3_42 0 rfl rfl dX3_hasInput_6 ?_
    refine aw_icmp_ge 23 dX3_hasInput_9 (by decide) (fun c2 => ?_) (fun c2 => ?_)
    · have h := h.1 c2
      refine aw_iconst (v := (0 : Int32)) dX3_hasInput_23 (by decide) ?_
      exact aw_zret rfl rfl dX3_hasInput_24 ⟨_, σ, rfl, rfl, h⟩
    · have h := h.2 c2
      refine aw_iload_n 1 dX3_hasInput_12 rfl rfl ?_
      refine aw_sipush (v := (200 : Int32)) dX3_hasInput_13 (by decide) ?_
      refine aw_icmp_ge 23 dX3_hasInput_16 (by decide) (fun c1 => ?_) (fun c1 => ?_)
      · have h := h.1 c1
        refine aw_iconst (v := (0 : Int32)) dX3_hasInput_23 (by decide) ?_
        exact aw_zret rfl rfl dX3_hasInput_24 ⟨_, σ, rfl, rfl, h⟩
      · have h := h.2 c1
        refine aw_iconst (v := (1 : Int32)) dX3_hasInput_19 (by decide) ?_
        refine aw_goto 24 dX3_hasInput_20 (by decide) ?_
        exact aw_zret rfl rfl dX3_hasInput_24 ⟨_, σ, rfl, rfl, h⟩
def wp_X3_inputWord (σ : WSX3) (a1 : Int32) (post : Int32 → WSX3 → Prop) : Prop :=
  wp_X3_hasInput σ a1 (fun r1 τ2 => ((r1 = 0 → post (0 : Int32) τ2) ∧ (¬ r1 = 0 → (vp_in a1 200 ∧ post (τ2.1.1.2.2.2 (a1).toNatClampNeg) τ2))))
theorem kX3_inputWord {G : aw_G} {d : Nat} (hd : 1 ≤ d) {σ : WSX3} {a1 : Int32} {post : Int32 → WSX3 → Prop} (h : wp_X3_inputWord σ a1 post) : AC G MX3_inputWord d 0 0 9 [.ref 0, .int a1] (wX3 G σ) (aw_pi (wX3 G) post) := by
  refine AC.of (lv := [(0, .ref 0), (1, .int a1)]) (by decide) (Nat.le_of_ble_eq_true rfl) rfl ?_
  unfold wp_X3_inputWord at h
  refine aw_aload_n 0 dX3_inputWord_0 rfl rfl ?_
  refine aw_iload_n 1 dX3_inputWord_1 rfl rfl ?_
  refine aw_callVT (mc1 := 0) (ms1 := 0) (mc := 0) (ms := 0) (st := []) (q := 0) (As := [.int a1]) lX3_72 insX3_hasInput selX3_hasInput ⟨TX3, 11, rfl⟩ (by omega) (kX3_hasInput (d := 0) (by omega) h) (Nat.le_of_ble_eq_true rfl) rfl rfl rfl dX3_inputWord_2 rfl (fun _ _ hh => ?_)
  obtain ⟨r1, τ2, rfl, rfl, h⟩ := hh
  refine aw_stk (st' := [.int r1]) rfl ?_
  refine aw_if_eq 17 dX3_inputWord_5 (by decide) (fun c3 => ?_) (fun c3 => ?_)
  · have h := h.1 c3
    refine aw_iconst (v := (0 : Int32)) dX3_inputWord_17 (by decide) ?_
    exact aw_iret rfl dX3_inputWord_18 ⟨_, τ2, rfl, rfl, h⟩
  · have h := h.2 c3
    refine aw_aload_n 0 dX3_inputWord_8 rfl rfl ?_
    refine aw_getf (v := .ref 5) fX3_24 0 rfl rfl dX3_inputWord_9 ?_
    refine aw_iload_n 1 dX3_inputWord_12 rfl rfl ?_
    refine aw_iald 5 (n := 200) (f := τ2.1.1.2.2.2) rfl h.1 dX3_inputWord_13 ?_
    have h := h.2
    refine aw_goto 18 dX3_inputWord_14 (by decide) ?_
    exact aw_iret rfl dX3_inputWord_18 ⟨_, τ2, rfl, rfl, h⟩
def wp_X3_inputSecret (σ : WSX3) (a1 : Int32) (post : Int32 → WSX3 → Prop) : Prop :=
  wp_X3_hasInput σ a1 (fun r1 τ2 => ((r1 = 0 → post (0 : Int32) τ2) ∧ (¬ r1 = 0 → (vp_in a1 200 ∧ (((τ2.1.2.1.1 (a1).toNatClampNeg) = 0 → post (0 : Int32) τ2) ∧ (¬ (τ2.1.2.1.1 (a1).toNatClampNeg) = 0 → post (1 : Int32) τ2))))))
theorem kX3_inputSecret {G : aw_G} {d : Nat} (hd : 1 ≤ d) {σ : WSX3} {a1 : Int32} {post : Int32 → WSX3 → Prop} (h : wp_X3_inputSecret σ a1 post) : AC G MX3_inputSecret d 0 0 9 [.ref 0, .int a1] (wX3 G σ) (aw_pi (wX3 G) post) := by
  refine AC.of (lv := [(0, .ref 0), (1, .int a1)]) (by decide) (Nat.le_of_ble_eq_true rfl) rfl ?_
  unfold wp_X3_inputSecret at h
  refine aw_aload_n 0 dX3_inputSecret_0 rfl rfl ?_
  refine aw_iload_n 1 dX3_inputSecret_1 rfl rfl ?_
  refine aw_callVT (mc1 := 0) (ms1 := 0) (mc := 0) (ms := 0) (st := []) (q := 0) (As := [.int a1]) lX3_72 insX3_hasInput selX3_hasInput ⟨TX3, 11, rfl⟩ (by omega) (kX3_hasInput (d := 0) (by omega) h) (Nat.le_of_ble_eq_true rfl) rfl rfl rfl dX3_inputSecret_2 rfl (fun _ _ hh => ?_)
  obtain ⟨r1, τ2, rfl, rfl, h⟩ := hh
  refine aw_stk (st' := [.int r1]) rfl ?_
  refine aw_if_eq 21 dX3_inputSecret_5 (by decide) (fun c4 => ?_) (fun c4 => ?_)
  · have h := h.1 c4
    refine aw_iconst (v := (0 : Int32)) dX3_inputSecret_21 (by decide) ?_
    exact aw_zret rfl rfl dX3_inputSecret_22 ⟨_, τ2, rfl, rfl, h⟩
  · have h := h.2 c4
    refine aw_aload_n 0 dX3_inputSecret_8 rfl rfl ?_
    refine aw_getf (v := .ref 6) fX3_27 0 rfl rfl dX3_inputSecret_9 ?_
    refine aw_iload_n 1 dX3_inputSecret_12 rfl rfl ?_
    refine aw_zald 6 (n := 200) (f := τ2.1.2.1.1) rfl h.1 dX3_inputSecret_13 ?_
    have h := h.2
    refine aw_if_eq 21 dX3_inputSecret_14 (by decide) (fun c3 => ?_) (fun c3 => ?_)
    · have h := h.1 c3
      refine aw_iconst (v := (0 : Int32)) dX3_inputSecret_21 (by decide) ?_
      exact aw_zret rfl rfl dX3_inputSecret_22 ⟨_, τ2, rfl, rfl, h⟩
    · have h := h.2 c3
      refine aw_iconst (v := (1 : Int32)) dX3_inputSecret_17 (by decide) ?_
      refine aw_goto 22 dX3_inputSecret_18 (by decide) ?_
      exact aw_zret rfl rfl dX3_inputSecret_22 ⟨_, τ2, rfl, rfl, h⟩
end WalkX3
