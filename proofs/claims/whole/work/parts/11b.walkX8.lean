section WalkX8
def wp_X8_hasRoom (σ : WSX8) (post : Int32 → WSX8 → Prop) : Prop :=
  (((2980 : Int32) < σ.2 → post (0 : Int32) σ) ∧ (¬ (2980 : Int32) < σ.2 → post (1 : Int32) σ))
theorem kX8_hasRoom {G : aw_G} {d : Nat} (hd : 0 ≤ d) {σ : WSX8} {post : Int32 → WSX8 → Prop} (h : wp_X8_hasRoom σ post) : AC G MX8_hasRoom d 0 0 2 [.ref 0] (wX8 G σ) (aw_pi (wX8 G) post) := by
  refine AC.of (lv := [(0, .ref 0)]) (by decide) (Nat.le_of_ble_eq_true rfl) rfl ?_
  unfold wp_X8_hasRoom at h
  refine aw_aload_n 0 dX8_hasRoom_0 rfl rfl ?_
  refine aw_getf (v := .int σ.2) fX8_15 0 rfl rfl dX8_hasRoom_1 ?_
  refine aw_sipush (v := (2980 : Int32)) dX8_hasRoom_4 (by decide) ?_
  refine aw_icmp_gt 14 dX8_hasRoom_7 (by decide) (fun c1 => ?_) (fun c1 => ?_)
  · have h := h.1 c1
    refine aw_iconst (v := (0 : Int32)) dX8_hasRoom_14 (by decide) ?_
    exact aw_zret rfl rfl dX8_hasRoom_15 ⟨_, σ, rfl, rfl, h⟩
  · have h := h.2 c1
    refine aw_iconst (v := (1 : Int32)) dX8_hasRoom_10 (by decide) ?_
    refine aw_goto 15 dX8_hasRoom_11 (by decide) ?_
    exact aw_zret rfl rfl dX8_hasRoom_15 ⟨_, σ, rfl, rfl, h⟩
def wp_X8_add_47 (rec_3 : WSX8 × Int32 × Int32 → Prop) (post : WSX8 → Prop) (σ : WSX8) (x1 : Int32) (x2 : Int32) : Prop :=
  rec_3 (σ, x1, (x2 + (-8)))
theorem aw_X8_add_47 {G : aw_G} {d : Nat} (hd : 0 ≤ d) {rec_3 : WSX8 × Int32 × Int32 → Prop} {post : WSX8 → Prop} (hrec_3 : ∀ a : WSX8 × Int32 × Int32, rec_3 a → AW G MX8_add d 0 0 2 (aw_pv (wX8 G) post) 3 [(0, .ref 0), (1, .int a.2.1), (2, .int a.2.2)] [] (wX8 G a.1)) {σ : WSX8} {x1 : Int32} {x2 : Int32} (h : wp_X8_add_47 rec_3 post σ x1 x2) : AW G MX8_add d 0 0 2 (aw_pv (wX8 G) post) 47 [(0, .ref 0), (1, .int x1), (2, .int x2)] [] (wX8 G σ) := by
  unfold wp_X8_add_47 at h
  refine aw_iinc 2 (v := (x2 + (-8))) (lv' := [(2, .int (x2 + (-8))), (0, .ref 0), (1, .int x1)]) dX8_add_47 rfl rfl (by decide) rfl ?_
  refine aw_goto 3 dX8_add_50 (by decide) ?_
  refine aw_lvsub (lv' := [(0, .ref 0), (1, .int x1), (2, .int (x2 + (-8)))]) [1, 2, 0] rfl ?_
  exact hrec_3 (σ, x1, (x2 + (-8))) h
def wb_X8_add_3  (post : WSX8 → Prop) (rec_3 : WSX8 × Int32 × Int32 → Prop) (σ : WSX8) (x1 : Int32) (x2 : Int32) : Prop :=
  ((x2 < 0 → post σ) ∧ (¬ x2 < 0 → ((σ.2 < 0 → wp_X8_add_47 rec_3 post σ x1 x2) ∧ (¬ σ.2 < 0 → (((3000 : Int32) ≤ σ.2 → wp_X8_add_47 rec_3 post σ x1 x2) ∧ (¬ (3000 : Int32) ≤ σ.2 → (vp_in σ.2 3000 ∧ ∀ y1 : Nat → Int32, y1 = upd σ.1 (σ.2).toNatClampNeg (vp_nar .byte ((x1 >>> (x2 &&& 31))).toInt8.toInt32) → (∀ y2 : Int32, y2 = (σ.2 + (1 : Int32)) → wp_X8_add_47 rec_3 post (y1, y2) x1 x2))))))))
def wp_X8_add_3  (post : WSX8 → Prop) (n : Nat) (σ : WSX8) (x1 : Int32) (x2 : Int32) : Prop := aw_loop (fun r (a : WSX8 × Int32 × Int32) => wb_X8_add_3  post r a.1 a.2.1 a.2.2) n (σ, x1, x2)
theorem aw_X8_add_3 {G : aw_G} {d : Nat} (hd : 0 ≤ d) {post : WSX8 → Prop}  : ∀ (n : Nat) (σ : WSX8) (x1 : Int32) (x2 : Int32), wp_X8_add_3  post n σ x1 x2 → AW G MX8_add d 0 0 2 (aw_pv (wX8 G) post) 3 [(0, .ref 0), (1, .int x1), (2, .int x2)] [] (wX8 G σ) := by
  intro n
  induction n with
  | zero => intro σ x1 x2 h; exact h.elim
  | succ n ih =>
    intro σ x1 x2 h
    have hrec_3 : ∀ a : WSX8 × Int32 × Int32, aw_loop (fun r (a : WSX8 × Int32 × Int32) => wb_X8_add_3  post r a.1 a.2.1 a.2.2) n a → AW G MX8_add d 0 0 2 (aw_pv (wX8 G) post) 3 [(0, .ref 0), (1, .int a.2.1), (2, .int a.2.2)] [] (wX8 G a.1) := fun a h => ih a.1 a.2.1 a.2.2 h
    have h : wb_X8_add_3  post (aw_loop (fun r (a : WSX8 × Int32 × Int32) => wb_X8_add_3  post r a.1 a.2.1 a.2.2) n) σ x1 x2 := h
    unfold wb_X8_add_3 at h
    refine aw_iload_n 2 dX8_add_3 rfl rfl ?_
    refine aw_if_lt 53 dX8_add_4 (by decide) (fun c5 => ?_) (fun c5 => ?_)
    · have h := h.1 c5
      exact aw_vret rfl dX8_add_53 ⟨σ, rfl, rfl, h⟩
    · have h := h.2 c5
      refine aw_aload_n 0 dX8_add_7 rfl rfl ?_
      refine aw_getf (v := .int σ.2) fX8_15 0 rfl rfl dX8_add_8 ?_
      refine aw_if_lt 47 dX8_add_11 (by decide) (fun c4 => ?_) (fun c4 => ?_)
      · have h := h.1 c4
        exact aw_X8_add_47 hd hrec_3 h
      · have h := h.2 c4
        refine aw_aload_n 0 dX8_add_14 rfl rfl ?_
        refine aw_getf (v := .int σ.2) fX8_15 0 rfl rfl dX8_add_15 ?_
        refine aw_sipush (v := (3000 : Int32)) dX8_add_18 (by decide) ?_
        refine aw_icmp_ge 47 dX8_add_21 (by decide) (fun c3 => ?_) (fun c3 => ?_)
        · have h := h.1 c3
          exact aw_X8_add_47 hd hrec_3 h
        · have h := h.2 c3
          refine aw_aload_n 0 dX8_add_24 rfl rfl ?_
          refine aw_getf (v := .ref 1) fX8_11 0 rfl rfl dX8_add_25 ?_
          refine aw_aload_n 0 dX8_add_28 rfl rfl ?_
          refine aw_getf (v := .int σ.2) fX8_15 0 rfl rfl dX8_add_29 ?_
          refine aw_iload_n 1 dX8_add_32 rfl rfl ?_
          refine aw_iload_n 2 dX8_add_33 rfl rfl ?_
          refine aw_ishr dX8_add_34 ?_
          refine aw_i2b dX8_add_35 ?_
          refine aw_bast 1 (n := 3000) (f := σ.1) (w' := fun y1 => (wX8 G (y1, σ.2))) rfl h.1 (fun _ => rfl) dX8_add_36 (fun y1 ey1 => ?_)
          have h := h.2 y1 ey1
          refine aw_aload_n 0 dX8_add_37 rfl rfl ?_
          refine aw_dup dX8_add_38 rfl ?_
          refine aw_getf (v := .int σ.2) fX8_15 0 rfl rfl dX8_add_39 ?_
          refine aw_iconst (v := (1 : Int32)) dX8_add_42 (by decide) ?_
          refine aw_iadd dX8_add_43 ?_
          refine aw_topi (fun y2 ey2 => ?_)
          have h := h y2 ey2
          refine aw_putf fX8_15 0 (w' := (wX8 G (y1, y2))) rfl (fun _ => ⟨rfl, rfl⟩) (Nat.le_of_ble_eq_true rfl) rfl dX8_add_44 ?_
          exact aw_X8_add_47 hd hrec_3 h
def wp_X8_add (σ : WSX8) (a1 : Int32) (post : WSX8 → Prop) : Prop :=
  (∃ n6, wp_X8_add_3  post n6 σ a1 (24 : Int32))
theorem kX8_add {G : aw_G} {d : Nat} (hd : 0 ≤ d) {σ : WSX8} {a1 : Int32} {post : WSX8 → Prop} (h : wp_X8_add σ a1 post) : AC G MX8_add d 0 0 2 [.ref 0, .int a1] (wX8 G σ) (aw_pv (wX8 G) post) := by
  refine AC.of (lv := [(0, .ref 0), (1, .int a1)]) (by decide) (Nat.le_of_ble_eq_true rfl) rfl ?_
  unfold wp_X8_add at h
  refine aw_bipush (v := (24 : Int32)) dX8_add_0 (by decide) ?_
  refine aw_istore_n (lv' := [(2, .int (24 : Int32)), (0, .ref 0), (1, .int a1)]) dX8_add_2 rfl (by decide) rfl ?_
  refine aw_lvsub (lv' := [(0, .ref 0), (1, .int a1), (2, .int (24 : Int32))]) [1, 2, 0] rfl ?_
  obtain ⟨n6, h⟩ := h
  exact aw_X8_add_3 hd  n6 σ a1 (24 : Int32) h
def wp_X8_fed (σ : WSX8) (post : Int32 → WSX8 → Prop) : Prop :=
  post σ.2 σ
theorem kX8_fed {G : aw_G} {d : Nat} (hd : 0 ≤ d) {σ : WSX8} {post : Int32 → WSX8 → Prop} (h : wp_X8_fed σ post) : AC G MX8_fed d 0 0 2 [.ref 0] (wX8 G σ) (aw_pi (wX8 G) post) := by
  refine AC.of (lv := [(0, .ref 0)]) (by decide) (Nat.le_of_ble_eq_true rfl) rfl ?_
  unfold wp_X8_fed at h
  refine aw_aload_n 0 dX8_fed_0 rfl rfl ?_
  refine aw_getf (v := .int σ.2) fX8_15 0 rfl rfl dX8_fed_1 ?_
  exact aw_iret rfl dX8_fed_4 ⟨_, σ, rfl, rfl, h⟩
def wp_X8_cut (σ : WSX8) (a1 : Int32) (post : WSX8 → Prop) : Prop :=
  (∀ y1 : Int32, y1 = (if (0 : Int32) < (if σ.2 < a1 then σ.2 else a1) then (if σ.2 < a1 then σ.2 else a1) else (0 : Int32)) → post (σ.1, y1))
theorem kX8_cut {G : aw_G} {d : Nat} (hd : 1 ≤ d) {σ : WSX8} {a1 : Int32} {post : WSX8 → Prop} (h : wp_X8_cut σ a1 post) : AC G MX8_cut d 0 0 2 [.ref 0, .int a1] (wX8 G σ) (aw_pv (wX8 G) post) := by
  refine AC.of (lv := [(0, .ref 0), (1, .int a1)]) (by decide) (Nat.le_of_ble_eq_true rfl) rfl ?_
  unfold wp_X8_cut at h
  refine aw_aload_n 0 dX8_cut_0 rfl rfl ?_
  refine aw_iconst (v := (0 : Int32)) dX8_cut_1 (by decide) ?_
  refine aw_iload_n 1 dX8_cut_2 rfl rfl ?_
  refine aw_aload_n 0 dX8_cut_3 rfl rfl ?_
  refine aw_getf (v := .int σ.2) fX8_15 0 rfl rfl dX8_cut_4 ?_
  refine aw_mmin qX8_19 mathS_min iniJ9 mathK_min (by omega) (Nat.le_of_ble_eq_true rfl) dX8_cut_7 ?_
  refine aw_mmax qX8_25 mathS_max iniJ9 mathK_max (by omega) (Nat.le_of_ble_eq_true rfl) dX8_cut_10 ?_
  refine aw_topi (fun y1 ey1 => ?_)
  have h := h y1 ey1
  refine aw_putf fX8_15 0 (w' := (wX8 G (σ.1, y1))) rfl (fun _ => ⟨rfl, rfl⟩) (Nat.le_of_ble_eq_true rfl) rfl dX8_cut_13 ?_
  exact aw_vret rfl dX8_cut_16 ⟨(σ.1, y1), rfl, rfl, h⟩
def wp_X8_empty (σ : WSX8) (post : WSX8 → Prop) : Prop :=
  post (σ.1, (0 : Int32))
theorem kX8_empty {G : aw_G} {d : Nat} (hd : 0 ≤ d) {σ : WSX8} {post : WSX8 → Prop} (h : wp_X8_empty σ post) : AC G MX8_empty d 0 0 2 [.ref 0] (wX8 G σ) (aw_pv (wX8 G) post) := by
  refine AC.of (lv := [(0, .ref 0)]) (by decide) (Nat.le_of_ble_eq_true rfl) rfl ?_
  unfold wp_X8_empty at h
  refine aw_aload_n 0 dX8_empty_0 rfl rfl ?_
  refine aw_iconst (v := (0 : Int32)) dX8_empty_1 (by decide) ?_
  refine aw_putf fX8_15 0 (w' := (wX8 G (σ.1, (0 : Int32)))) rfl (fun _ => ⟨rfl, rfl⟩) (Nat.le_of_ble_eq_true rfl) rfl dX8_empty_2 ?_
  exact aw_vret rfl dX8_empty_5 ⟨(σ.1, (0 : Int32)), rfl, rfl, h⟩
def wp_X8_at (σ : WSX8) (a1 : Int32) (post : Int32 → WSX8 → Prop) : Prop :=
  ((a1 < 0 → post ((-1) : Int32) σ) ∧ (¬ a1 < 0 → ((σ.2 ≤ a1 → post ((-1) : Int32) σ) ∧ (¬ σ.2 ≤ a1 → ((a1 < (3000 : Int32) → (vp_in a1 3000 ∧ post ((σ.1 (a1).toNatClampNeg) &&& (255 : Int32)) σ)) ∧ (¬ a1 < (3000 : Int32) → post ((-1) : Int32) σ))))))
theorem kX8_at {G : aw_G} {d : Nat} (hd : 0 ≤ d) {σ : WSX8} {a1 : Int32} {post : Int32 → WSX8 → Prop} (h : wp_X8_at σ a1 post) : AC G MX8_at d 0 0 2 [.ref 0, .int a1] (wX8 G σ) (aw_pi (wX8 G) post) := by
  refine AC.of (lv := [(0, .ref 0), (1, .int a1)]) (by decide) (Nat.le_of_ble_eq_true rfl) rfl ?_
  unfold wp_X8_at at h
  refine aw_iload_n 1 dX8_at_0 rfl rfl ?_
  refine aw_if_lt 19 dX8_at_1 (by decide) (fun c3 => ?_) (fun c3 => ?_)
  · have h := h.1 c3
    refine aw_iconst (v := ((-1) : Int32)) dX8_at_19 (by decide) ?_
    refine aw_goto 33 dX8_at_20 (by decide) ?_
    exact aw_iret rfl dX8_at_33 ⟨_, σ, rfl, rfl, h⟩
  · have h := h.2 c3
    refine aw_iload_n 1 dX8_at_4 rfl rfl ?_
    refine aw_aload_n 0 dX8_at_5 rfl rfl ?_
    refine aw_getf (v := .int σ.2) fX8_15 0 rfl rfl dX8_at_6 ?_
    refine aw_icmp_ge 19 dX8_at_9 (by decide) (fun c2 => ?_) (fun c2 => ?_)
    · have h := h.1 c2
      refine aw_iconst (v := ((-1) : Int32)) dX8_at_19 (by decide) ?_
      refine aw_goto 33 dX8_at_20 (by decide) ?_
      exact aw_iret rfl dX8_at_33 ⟨_, σ, rfl, rfl, h⟩
    · have h := h.2 c2
      refine aw_iload_n 1 dX8_at_12 rfl rfl ?_
      refine aw_sipush (v := (3000 : Int32)) dX8_at_13 (by decide) ?_
      refine aw_icmp_lt 23 dX8_at_16 (by decide) (fun c1 => ?_) (fun c1 => ?_)
      · have h := h.1 c1
        refine aw_aload_n 0 dX8_at_23 rfl rfl ?_
        refine aw_getf (v := .ref 1) fX8_11 0 rfl rfl dX8_at_24 ?_
        refine aw_iload_n 1 dX8_at_27 rfl rfl ?_
        refine aw_bald 1 (n := 3000) (f := σ.1) rfl h.1 dX8_at_28 ?_
        have h := h.2
        refine aw_sipush (v := (255 : Int32)) dX8_at_29 (by decide) ?_
        refine aw_iand dX8_at_32 ?_
        exact aw_iret rfl dX8_at_33 ⟨_, σ, rfl, rfl, h⟩
      · have h := h.2 c1
        refine aw_iconst (v := ((-1) : Int32)) dX8_at_19 (by decide) ?_
        refine aw_goto 33 dX8_at_20 (by decide) ?_
        exact aw_iret rfl dX8_at_33 ⟨_, σ, rfl, rfl, h⟩
def wp_X8_isBlank (a0 : Int32) (post : Int32 → Unit → Prop) : Prop :=
  ((a0 = (9 : Int32) → post (1 : Int32) ()) ∧ (¬ a0 = (9 : Int32) → ((a0 = (10 : Int32) → post (1 : Int32) ()) ∧ (¬ a0 = (10 : Int32) → ((a0 = (13 : Int32) → post (1 : Int32) ()) ∧ (¬ a0 = (13 : Int32) → ((¬ a0 = (32 : Int32) → post (0 : Int32) ()) ∧ (a0 = (32 : Int32) → post (1 : Int32) ()))))))))
theorem kX8_isBlank {G : aw_G} {d : Nat} (hd : 0 ≤ d) {a0 : Int32} {post : Int32 → Unit → Prop} (h : wp_X8_isBlank a0 post) : AC G MX8_isBlank d 0 0 0 [.int a0] [] (aw_pi (fun _ : Unit => []) post) := by
  refine AC.of (lv := [(0, .int a0)]) (by decide) (Nat.le_of_ble_eq_true rfl) rfl ?_
  unfold wp_X8_isBlank at h
  refine aw_iload_n 0 dX8_isBlank_0 rfl rfl ?_
  refine aw_bipush (v := (9 : Int32)) dX8_isBlank_1 (by decide) ?_
  refine aw_icmp_eq 24 dX8_isBlank_3 (by decide) (fun c4 => ?_) (fun c4 => ?_)
  · have h := h.1 c4
    refine aw_iconst (v := (1 : Int32)) dX8_isBlank_24 (by decide) ?_
    refine aw_goto 29 dX8_isBlank_25 (by decide) ?_
    exact aw_zret rfl rfl dX8_isBlank_29 ⟨_, (), rfl, rfl, h⟩
  · have h := h.2 c4
    refine aw_iload_n 0 dX8_isBlank_6 rfl rfl ?_
    refine aw_bipush (v := (10 : Int32)) dX8_isBlank_7 (by decide) ?_
    refine aw_icmp_eq 24 dX8_isBlank_9 (by decide) (fun c3 => ?_) (fun c3 => ?_)
    · have h := h.1 c3
      refine aw_iconst (v := (1 : Int32)) dX8_isBlank_24 (by decide) ?_
      refine aw_goto 29 dX8_isBlank_25 (by decide) ?_
      exact aw_zret rfl rfl dX8_isBlank_29 ⟨_, (), rfl, rfl, h⟩
    · have h := h.2 c3
      refine aw_iload_n 0 dX8_isBlank_12 rfl rfl ?_
      refine aw_bipush (v := (13 : Int32)) dX8_isBlank_13 (by decide) ?_
      refine aw_icmp_eq 24 dX8_isBlank_15 (by decide) (fun c2 => ?_) (fun c2 => ?_)
      · have h := h.1 c2
        refine aw_iconst (v := (1 : Int32)) dX8_isBlank_24 (by decide) ?_
        refine aw_goto 29 dX8_isBlank_25 (by decide) ?_
        exact aw_zret rfl rfl dX8_isBlank_29 ⟨_, (), rfl, rfl, h⟩
      · have h := h.2 c2
        refine aw_iload_n 0 dX8_isBlank_18 rfl rfl ?_
        refine aw_bipush (v := (32 : Int32)) dX8_isBlank_19 (by decide) ?_
        refine aw_icmp_ne 28 dX8_isBlank_21 (by decide) (fun c1 => ?_) (fun c1 => ?_)
        · have h := h.1 c1
          refine aw_iconst (v := (0 : Int32)) dX8_isBlank_28 (by decide) ?_
          exact aw_zret rfl rfl dX8_isBlank_29 ⟨_, (), rfl, rfl, h⟩
        · have h := h.2 c1
          refine aw_iconst (v := (1 : Int32)) dX8_isBlank_24 (by decide) ?_
          refine aw_goto 29 dX8_isBlank_25 (by decide) ?_
          exact aw_zret rfl rfl dX8_isBlank_29 ⟨_, (), rfl, rfl, h⟩
def wb_X8_afterBlanks_2  (post : Int32 → WSX8 → Prop) (rec_2 : WSX8 × Int32 → Prop) (σ : WSX8) (x2 : Int32) : Prop :=
  ((σ.2 ≤ x2 → post x2 σ) ∧ (¬ σ.2 ≤ x2 → wp_X8_at σ x2 (fun r1 τ2 => wp_X8_isBlank r1 (fun r3 τ4 => ((r3 = 0 → post x2 τ2) ∧ (¬ r3 = 0 → rec_2 (τ2, (x2 + 1))))))))
def wp_X8_afterBlanks_2  (post : Int32 → WSX8 → Prop) (n : Nat) (σ : WSX8) (x2 : Int32) : Prop := aw_loop (fun r (a : WSX8 × Int32) => wb_X8_afterBlanks_2  post r a.1 a.2) n (σ, x2)
theorem aw_X8_afterBlanks_2 {G : aw_G} {d : Nat} (hd : 1 ≤ d) {post : Int32 → WSX8 → Prop}  : ∀ (n : Nat) (σ : WSX8) (x2 : Int32), wp_X8_afterBlanks_2  post n σ x2 → AW G MX8_afterBlanks d 0 0 2 (aw_pi (wX8 G) post) 2 [(0, .ref 0), (2, .int x2)] [] (wX8 G σ) := by
  intro n
  induction n with
  | zero => intro σ x2 h; exact h.elim
  | succ n ih =>
    intro σ x2 h
    have hrec_2 : ∀ a : WSX8 × Int32, aw_loop (fun r (a : WSX8 × Int32) => wb_X8_afterBlanks_2  post r a.1 a.2) n a → AW G MX8_afterBlanks d 0 0 2 (aw_pi (wX8 G) post) 2 [(0, .ref 0), (2, .int a.2)] [] (wX8 G a.1) := fun a h => ih a.1 a.2 h
    have h : wb_X8_afterBlanks_2  post (aw_loop (fun r (a : WSX8 × Int32) => wb_X8_afterBlanks_2  post r a.1 a.2) n) σ x2 := h
    unfold wb_X8_afterBlanks_2 at h
    refine aw_iload_n 1 dX8_afterBlanks_2 rfl rfl ?_
    refine aw_aload_n 0 dX8_afterBlanks_3 rfl rfl ?_
    refine aw_getf (v := .int σ.2) fX8_15 0 rfl rfl dX8_afterBlanks_4 ?_
    refine aw_icmp_ge 27 dX8_afterBlanks_7 (by decide) (fun c6 => ?_) (fun c6 => ?_)
    · have h := h.1 c6
      refine aw_iload_n 1 dX8_afterBlanks_27 rfl rfl ?_
      exact aw_iret rfl dX8_afterBlanks_28 ⟨_, σ, rfl, rfl, h⟩
    · have h := h.2 c6
      refine aw_aload_n 0 dX8_afterBlanks_10 rfl rfl ?_
      refine aw_iload_n 1 dX8_afterBlanks_11 rfl rfl ?_
      refine aw_callVT (mc1 := 0) (ms1 := 0) (mc := 0) (ms := 0) (st := []) (q := 0) (As := [.int x2]) lX8_28 insX8_at selX8_at ⟨TX8, 2, rfl⟩ (by omega) (kX8_at (d := 0) (by omega) h) (Nat.le_of_ble_eq_true rfl) rfl rfl rfl dX8_afterBlanks_12 rfl (fun _ _ hh => ?_)
      obtain ⟨r1, τ2, rfl, rfl, h⟩ := hh
      refine aw_stk (st' := [.int r1]) rfl ?_
      refine aw_callST (st := []) (As := [.int r1]) lX8_32 sttX8_isBlank (by omega) (kX8_isBlank (d := 0) (by omega) h) rfl rfl rfl dX8_afterBlanks_15 rfl (fun _ _ hh => ?_)
      obtain ⟨r3, τ4, rfl, rfl, h⟩ := hh
      refine ⟨rfl, (fun x hx => by cases hx; rfl), ?_⟩
      refine aw_stk (st' := [.int r3]) rfl ?_
      refine aw_if_eq 27 dX8_afterBlanks_18 (by decide) (fun c5 => ?_) (fun c5 => ?_)
      · have h := h.1 c5
        refine aw_iload_n 1 dX8_afterBlanks_27 rfl rfl ?_
        exact aw_iret rfl dX8_afterBlanks_28 ⟨_, τ2, rfl, rfl, h⟩
      · have h := h.2 c5
        refine aw_iinc 1 (v := (x2 + 1)) (lv' := [(2, .int (x2 + 1)), (0, .ref 0)]) dX8_afterBlanks_21 rfl rfl (by decide) rfl ?_
        refine aw_goto 2 dX8_afterBlanks_24 (by decide) ?_
        refine aw_lvsub (lv' := [(0, .ref 0), (2, .int (x2 + 1))]) [1, 0] rfl ?_
        exact hrec_2 (τ2, (x2 + 1)) h
def wp_X8_afterBlanks (σ : WSX8) (a1 : Int32) (post : Int32 → WSX8 → Prop) : Prop :=
  (∃ n7, wp_X8_afterBlanks_2  post n7 σ a1)
theorem kX8_afterBlanks {G : aw_G} {d : Nat} (hd : 1 ≤ d) {σ : WSX8} {a1 : Int32} {post : Int32 → WSX8 → Prop} (h : wp_X8_afterBlanks σ a1 post) : AC G MX8_afterBlanks d 0 0 2 [.ref 0, .int a1] (wX8 G σ) (aw_pi (wX8 G) post) := by
  refine AC.of (lv := [(0, .ref 0), (1, .int a1)]) (by decide) (Nat.le_of_ble_eq_true rfl) rfl ?_
  unfold wp_X8_afterBlanks at h
  refine aw_iload_n 1 dX8_afterBlanks_0 rfl rfl ?_
  refine aw_istore_n (lv' := [(2, .int a1), (0, .ref 0), (1, .int a1)]) dX8_afterBlanks_1 rfl (by decide) rfl ?_
  refine aw_lvsub (lv' := [(0, .ref 0), (2, .int a1)]) [1, 0] rfl ?_
  obtain ⟨n7, h⟩ := h
  exact aw_X8_afterBlanks_2 hd  n7 σ a1 h
def wp_X8_isDigit (a0 : Int32) (post : Int32 → Unit → Prop) : Prop :=
  ((a0 < (48 : Int32) → post (0 : Int32) ()) ∧ (¬ a0 < (48 : Int32) → (((57 : Int32) < a0 → post (0 : Int32) ()) ∧ (¬ (57 : Int32) < a0 → post (1 : Int32) ()))))
theorem kX8_isDigit {G : aw_G} {d : Nat} (hd : 0 ≤ d) {a0 : Int32} {post : Int32 → Unit → Prop} (h : wp_X8_isDigit a0 post) : AC G MX8_isDigit d 0 0 0 [.int a0] [] (aw_pi (fun _ : Unit => []) post) := by
  refine AC.of (lv := [(0, .int a0)]) (by decide) (Nat.le_of_ble_eq_true rfl) rfl ?_
  unfold wp_X8_isDigit at h
  refine aw_iload_n 0 dX8_isDigit_0 rfl rfl ?_
  refine aw_bipush (v := (48 : Int32)) dX8_isDigit_1 (by decide) ?_
  refine aw_icmp_lt 16 dX8_isDigit_3 (by decide) (fun c2 => ?_) (fun c2 => ?_)
  · have h := h.1 c2
    refine aw_iconst (v := (0 : Int32)) dX8_isDigit_16 (by decide) ?_
    exact aw_zret rfl rfl dX8_isDigit_17 ⟨_, (), rfl, rfl, h⟩
  · have h := h.2 c2
    refine aw_iload_n 0 dX8_isDigit_6 rfl rfl ?_
    refine aw_bipush (v := (57 : Int32)) dX8_isDigit_7 (by decide) ?_
    refine aw_icmp_gt 16 dX8_isDigit_9 (by decide) (fun c1 => ?_) (fun c1 => ?_)
    · have h := h.1 c1
      refine aw_iconst (v := (0 : Int32)) dX8_isDigit_16 (by decide) ?_
      exact aw_zret rfl rfl dX8_isDigit_17 ⟨_, (), rfl, rfl, h⟩
    · have h := h.2 c1
      refine aw_iconst (v := (1 : Int32)) dX8_isDigit_12 (by decide) ?_
      refine aw_goto 17 dX8_isDigit_13 (by decide) ?_
      exact aw_zret rfl rfl dX8_isDigit_17 ⟨_, (), rfl, rfl, h⟩
def wb_X8_afterDigits_2  (post : Int32 → WSX8 → Prop) (rec_2 : WSX8 × Int32 → Prop) (σ : WSX8) (x2 : Int32) : Prop :=
  ((σ.2 ≤ x2 → post x2 σ) ∧ (¬ σ.2 ≤ x2 → wp_X8_at σ x2 (fun r1 τ2 => wp_X8_isDigit r1 (fun r3 τ4 => ((r3 = 0 → post x2 τ2) ∧ (¬ r3 = 0 → rec_2 (τ2, (x2 + 1))))))))
def wp_X8_afterDigits_2  (post : Int32 → WSX8 → Prop) (n : Nat) (σ : WSX8) (x2 : Int32) : Prop := aw_loop (fun r (a : WSX8 × Int32) => wb_X8_afterDigits_2  post r a.1 a.2) n (σ, x2)
theorem aw_X8_afterDigits_2 {G : aw_G} {d : Nat} (hd : 1 ≤ d) {post : Int32 → WSX8 → Prop}  : ∀ (n : Nat) (σ : WSX8) (x2 : Int32), wp_X8_afterDigits_2  post n σ x2 → AW G MX8_afterDigits d 0 0 2 (aw_pi (wX8 G) post) 2 [(0, .ref 0), (2, .int x2)] [] (wX8 G σ) := by
  intro n
  induction n with
  | zero => intro σ x2 h; exact h.elim
  | succ n ih =>
    intro σ x2 h
    have hrec_2 : ∀ a : WSX8 × Int32, aw_loop (fun r (a : WSX8 × Int32) => wb_X8_afterDigits_2  post r a.1 a.2) n a → AW G MX8_afterDigits d 0 0 2 (aw_pi (wX8 G) post) 2 [(0, .ref 0), (2, .int a.2)] [] (wX8 G a.1) := fun a h => ih a.1 a.2 h
    have h : wb_X8_afterDigits_2  post (aw_loop (fun r (a : WSX8 × Int32) => wb_X8_afterDigits_2  post r a.1 a.2) n) σ x2 := h
    unfold wb_X8_afterDigits_2 at h
    refine aw_iload_n 1 dX8_afterDigits_2 rfl rfl ?_
    refine aw_aload_n 0 dX8_afterDigits_3 rfl rfl ?_
    refine aw_getf (v := .int σ.2) fX8_15 0 rfl rfl dX8_afterDigits_4 ?_
    refine aw_icmp_ge 27 dX8_afterDigits_7 (by decide) (fun c6 => ?_) (fun c6 => ?_)
    · have h := h.1 c6
      refine aw_iload_n 1 dX8_afterDigits_27 rfl rfl ?_
      exact aw_iret rfl dX8_afterDigits_28 ⟨_, σ, rfl, rfl, h⟩
    · have h := h.2 c6
      refine aw_aload_n 0 dX8_afterDigits_10 rfl rfl ?_
      refine aw_iload_n 1 dX8_afterDigits_11 rfl rfl ?_
      refine aw_callVT (mc1 := 0) (ms1 := 0) (mc := 0) (ms := 0) (st := []) (q := 0) (As := [.int x2]) lX8_28 insX8_at selX8_at ⟨TX8, 2, rfl⟩ (by omega) (kX8_at (d := 0) (by omega) h) (Nat.le_of_ble_eq_true rfl) rfl rfl rfl dX8_afterDigits_12 rfl (fun _ _ hh => ?_)
      obtain ⟨r1, τ2, rfl, rfl, h⟩ := hh
      refine aw_stk (st' := [.int r1]) rfl ?_
      refine aw_callST (st := []) (As := [.int r1]) lX8_36 sttX8_isDigit (by omega) (kX8_isDigit (d := 0) (by omega) h) rfl rfl rfl dX8_afterDigits_15 rfl (fun _ _ hh => ?_)
      obtain ⟨r3, τ4, rfl, rfl, h⟩ := hh
      refine ⟨rfl, (fun x hx => by cases hx; rfl), ?_⟩
      refine aw_stk (st' := [.int r3]) rfl ?_
      refine aw_if_eq 27 dX8_afterDigits_18 (by decide) (fun c5 => ?_) (fun c5 => ?_)
      · have h := h.1 c5
        refine aw_iload_n 1 dX8_afterDigits_27 rfl rfl ?_
        exact aw_iret rfl dX8_afterDigits_28 ⟨_, τ2, rfl, rfl, h⟩
      · have h := h.2 c5
        refine aw_iinc 1 (v := (x2 + 1)) (lv' := [(2, .int (x2 + 1)), (0, .ref 0)]) dX8_afterDigits_21 rfl rfl (by decide) rfl ?_
        refine aw_goto 2 dX8_afterDigits_24 (by decide) ?_
        refine aw_lvsub (lv' := [(0, .ref 0), (2, .int (x2 + 1))]) [1, 0] rfl ?_
        exact hrec_2 (τ2, (x2 + 1)) h
def wp_X8_afterDigits (σ : WSX8) (a1 : Int32) (post : Int32 → WSX8 → Prop) : Prop :=
  (∃ n7, wp_X8_afterDigits_2  post n7 σ a1)
theorem kX8_afterDigits {G : aw_G} {d : Nat} (hd : 1 ≤ d) {σ : WSX8} {a1 : Int32} {post : Int32 → WSX8 → Prop} (h : wp_X8_afterDigits σ a1 post) : AC G MX8_afterDigits d 0 0 2 [.ref 0, .int a1] (wX8 G σ) (aw_pi (wX8 G) post) := by
  refine AC.of (lv := [(0, .ref 0), (1, .int a1)]) (by decide) (Nat.le_of_ble_eq_true rfl) rfl ?_
  unfold wp_X8_afterDigits at h
  refine aw_iload_n 1 dX8_afterDigits_0 rfl rfl ?_
  refine aw_istore_n (lv' := [(2, .int a1), (0, .ref 0), (1, .int a1)]) dX8_afterDigits_1 rfl (by decide) rfl ?_
  refine aw_lvsub (lv' := [(0, .ref 0), (2, .int a1)]) [1, 0] rfl ?_
  obtain ⟨n7, h⟩ := h
  exact aw_X8_afterDigits_2 hd  n7 σ a1 h
def wp_X8_isLetter_12  (post : Int32 → Unit → Prop) (x0 : Int32) : Prop :=
  ((x0 < (65 : Int32) → post (0 : Int32) ()) ∧ (¬ x0 < (65 : Int32) → (((90 : Int32) < x0 → post (0 : Int32) ()) ∧ (¬ (90 : Int32) < x0 → post (1 : Int32) ()))))
theorem aw_X8_isLetter_12 {G : aw_G} {d : Nat} (hd : 0 ≤ d) {post : Int32 → Unit → Prop}  {x0 : Int32} (h : wp_X8_isLetter_12  post x0) : AW G MX8_isLetter d 0 0 0 (aw_pi (fun _ : Unit => []) post) 12 [(0, .int x0)] [] [] := by
  unfold wp_X8_isLetter_12 at h
  refine aw_iload_n 0 dX8_isLetter_12 rfl rfl ?_
  refine aw_bipush (v := (65 : Int32)) dX8_isLetter_13 (by decide) ?_
  refine aw_icmp_lt 28 dX8_isLetter_15 (by decide) (fun c2 => ?_) (fun c2 => ?_)
  · have h := h.1 c2
    refine aw_iconst (v := (0 : Int32)) dX8_isLetter_28 (by decide) ?_
    exact aw_zret rfl rfl dX8_isLetter_29 ⟨_, (), rfl, rfl, h⟩
  · have h := h.2 c2
    refine aw_iload_n 0 dX8_isLetter_18 rfl rfl ?_
    refine aw_bipush (v := (90 : Int32)) dX8_isLetter_19 (by decide) ?_
    refine aw_icmp_gt 28 dX8_isLetter_21 (by decide) (fun c1 => ?_) (fun c1 => ?_)
    · have h := h.1 c1
      refine aw_iconst (v := (0 : Int32)) dX8_isLetter_28 (by decide) ?_
      exact aw_zret rfl rfl dX8_isLetter_29 ⟨_, (), rfl, rfl, h⟩
    · have h := h.2 c1
      refine aw_iconst (v := (1 : Int32)) dX8_isLetter_24 (by decide) ?_
      refine aw_goto 29 dX8_isLetter_25 (by decide) ?_
      exact aw_zret rfl rfl dX8_isLetter_29 ⟨_, (), rfl, rfl, h⟩
def wp_X8_isLetter (a0 : Int32) (post : Int32 → Unit → Prop) : Prop :=
  ((a0 < (97 : Int32) → wp_X8_isLetter_12  post a0) ∧ (¬ a0 < (97 : Int32) → ((a0 ≤ (122 : Int32) → post (1 : Int32) ()) ∧ (¬ a0 ≤ (122 : Int32) → wp_X8_isLetter_12  post a0))))
theorem kX8_isLetter {G : aw_G} {d : Nat} (hd : 0 ≤ d) {a0 : Int32} {post : Int32 → Unit → Prop} (h : wp_X8_isLetter a0 post) : AC G MX8_isLetter d 0 0 0 [.int a0] [] (aw_pi (fun _ : Unit => []) post) := by
  refine AC.of (lv := [(0, .int a0)]) (by decide) (Nat.le_of_ble_eq_true rfl) rfl ?_
  unfold wp_X8_isLetter at h
  refine aw_iload_n 0 dX8_isLetter_0 rfl rfl ?_
  refine aw_bipush (v := (97 : Int32)) dX8_isLetter_1 (by decide) ?_
  refine aw_icmp_lt 12 dX8_isLetter_3 (by decide) (fun c4 => ?_) (fun c4 => ?_)
  · have h := h.1 c4
    exact aw_X8_isLetter_12 hd  h
  · have h := h.2 c4
    refine aw_iload_n 0 dX8_isLetter_6 rfl rfl ?_
    refine aw_bipush (v := (122 : Int32)) dX8_isLetter_7 (by decide) ?_
    refine aw_icmp_le 24 dX8_isLetter_9 (by decide) (fun c3 => ?_) (fun c3 => ?_)
    · have h := h.1 c3
      refine aw_iconst (v := (1 : Int32)) dX8_isLetter_24 (by decide) ?_
      refine aw_goto 29 dX8_isLetter_25 (by decide) ?_
      exact aw_zret rfl rfl dX8_isLetter_29 ⟨_, (), rfl, rfl, h⟩
    · have h := h.2 c3
      exact aw_X8_isLetter_12 hd  h
def wp_X8_isNamePart (a0 : Int32) (post : Int32 → Unit → Prop) : Prop :=
  wp_X8_isLetter a0 (fun r1 τ2 => ((¬ r1 = 0 → post (1 : Int32) ()) ∧ (r1 = 0 → wp_X8_isDigit a0 (fun r3 τ4 => ((r3 = 0 → post (0 : Int32) ()) ∧ (¬ r3 = 0 → post (1 : Int32) ()))))))
theorem kX8_isNamePart {G : aw_G} {d : Nat} (hd : 1 ≤ d) {a0 : Int32} {post : Int32 → Unit → Prop} (h : wp_X8_isNamePart a0 post) : AC G MX8_isNamePart d 0 0 0 [.int a0] [] (aw_pi (fun _ : Unit => []) post) := by
  refine AC.of (lv := [(0, .int a0)]) (by decide) (Nat.le_of_ble_eq_true rfl) rfl ?_
  unfold wp_X8_isNamePart at h
  refine aw_iload_n 0 dX8_isNamePart_0 rfl rfl ?_
  refine aw_callST (st := []) (As := [.int a0]) lX8_52 sttX8_isLetter (by omega) (kX8_isLetter (d := 0) (by omega) h) rfl rfl rfl dX8_isNamePart_1 rfl (fun _ _ hh => ?_)
  obtain ⟨r1, τ2, rfl, rfl, h⟩ := hh
  refine ⟨rfl, (fun x hx => by cases hx; rfl), ?_⟩
  refine aw_stk (st' := [.int r1]) rfl ?_
  refine aw_if_ne 14 dX8_isNamePart_4 (by decide) (fun c6 => ?_) (fun c6 => ?_)
  · have h := h.1 c6
    refine aw_iconst (v := (1 : Int32)) dX8_isNamePart_14 (by decide) ?_
    refine aw_goto 19 dX8_isNamePart_15 (by decide) ?_
    exact aw_zret rfl rfl dX8_isNamePart_19 ⟨_, (), rfl, rfl, h⟩
  · have h := h.2 c6
    refine aw_iload_n 0 dX8_isNamePart_7 rfl rfl ?_
    refine aw_callST (st := []) (As := [.int a0]) lX8_36 sttX8_isDigit (by omega) (kX8_isDigit (d := 0) (by omega) h) rfl rfl rfl dX8_isNamePart_8 rfl (fun _ _ hh => ?_)
    obtain ⟨r3, τ4, rfl, rfl, h⟩ := hh
    refine ⟨rfl, (fun x hx => by cases hx; rfl), ?_⟩
    refine aw_stk (st' := [.int r3]) rfl ?_
    refine aw_if_eq 18 dX8_isNamePart_11 (by decide) (fun c5 => ?_) (fun c5 => ?_)
    · have h := h.1 c5
      refine aw_iconst (v := (0 : Int32)) dX8_isNamePart_18 (by decide) ?_
      exact aw_zret rfl rfl dX8_isNamePart_19 ⟨_, (), rfl, rfl, h⟩
    · have h := h.2 c5
      refine aw_iconst (v := (1 : Int32)) dX8_isNamePart_14 (by decide) ?_
      refine aw_goto 19 dX8_isNamePart_15 (by decide) ?_
      exact aw_zret rfl rfl dX8_isNamePart_19 ⟨_, (), rfl, rfl, h⟩
def wb_X8_afterName_2  (post : Int32 → WSX8 → Prop) (rec_2 : WSX8 × Int32 → Prop) (σ : WSX8) (x2 : Int32) : Prop :=
  ((σ.2 ≤ x2 → post x2 σ) ∧ (¬ σ.2 ≤ x2 → wp_X8_at σ x2 (fun r1 τ2 => wp_X8_isNamePart r1 (fun r3 τ4 => ((r3 = 0 → post x2 τ2) ∧ (¬ r3 = 0 → rec_2 (τ2, (x2 + 1))))))))
def wp_X8_afterName_2  (post : Int32 → WSX8 → Prop) (n : Nat) (σ : WSX8) (x2 : Int32) : Prop := aw_loop (fun r (a : WSX8 × Int32) => wb_X8_afterName_2  post r a.1 a.2) n (σ, x2)
theorem aw_X8_afterName_2 {G : aw_G} {d : Nat} (hd : 2 ≤ d) {post : Int32 → WSX8 → Prop}  : ∀ (n : Nat) (σ : WSX8) (x2 : Int32), wp_X8_afterName_2  post n σ x2 → AW G MX8_afterName d 0 0 2 (aw_pi (wX8 G) post) 2 [(0, .ref 0), (2, .int x2)] [] (wX8 G σ) := by
  intro n
  induction n with
  | zero => intro σ x2 h; exact h.elim
  | succ n ih =>
    intro σ x2 h
    have hrec_2 : ∀ a : WSX8 × Int32, aw_loop (fun r (a : WSX8 × Int32) => wb_X8_afterName_2  post r a.1 a.2) n a → AW G MX8_afterName d 0 0 2 (aw_pi (wX8 G) post) 2 [(0, .ref 0), (2, .int a.2)] [] (wX8 G a.1) := fun a h => ih a.1 a.2 h
    have h : wb_X8_afterName_2  post (aw_loop (fun r (a : WSX8 × Int32) => wb_X8_afterName_2  post r a.1 a.2) n) σ x2 := h
    unfold wb_X8_afterName_2 at h
    refine aw_iload_n 1 dX8_afterName_2 rfl rfl ?_
    refine aw_aload_n 0 dX8_afterName_3 rfl rfl ?_
    refine aw_getf (v := .int σ.2) fX8_15 0 rfl rfl dX8_afterName_4 ?_
    refine aw_icmp_ge 27 dX8_afterName_7 (by decide) (fun c6 => ?_) (fun c6 => ?_)
    · have h := h.1 c6
      refine aw_iload_n 1 dX8_afterName_27 rfl rfl ?_
      exact aw_iret rfl dX8_afterName_28 ⟨_, σ, rfl, rfl, h⟩
    · have h := h.2 c6
      refine aw_aload_n 0 dX8_afterName_10 rfl rfl ?_
      refine aw_iload_n 1 dX8_afterName_11 rfl rfl ?_
      refine aw_callVT (mc1 := 0) (ms1 := 0) (mc := 0) (ms := 0) (st := []) (q := 0) (As := [.int x2]) lX8_28 insX8_at selX8_at ⟨TX8, 2, rfl⟩ (by omega) (kX8_at (d := 0) (by omega) h) (Nat.le_of_ble_eq_true rfl) rfl rfl rfl dX8_afterName_12 rfl (fun _ _ hh => ?_)
      obtain ⟨r1, τ2, rfl, rfl, h⟩ := hh
      refine aw_stk (st' := [.int r1]) rfl ?_
      refine aw_callST (st := []) (As := [.int r1]) lX8_39 sttX8_isNamePart (by omega) (kX8_isNamePart (d := 1) (by omega) h) rfl rfl rfl dX8_afterName_15 rfl (fun _ _ hh => ?_)
      obtain ⟨r3, τ4, rfl, rfl, h⟩ := hh
      refine ⟨rfl, (fun x hx => by cases hx; rfl), ?_⟩
      refine aw_stk (st' := [.int r3]) rfl ?_
      refine aw_if_eq 27 dX8_afterName_18 (by decide) (fun c5 => ?_) (fun c5 => ?_)
      · have h := h.1 c5
        refine aw_iload_n 1 dX8_afterName_27 rfl rfl ?_
        exact aw_iret rfl dX8_afterName_28 ⟨_, τ2, rfl, rfl, h⟩
      · have h := h.2 c5
        refine aw_iinc 1 (v := (x2 + 1)) (lv' := [(2, .int (x2 + 1)), (0, .ref 0)]) dX8_afterName_21 rfl rfl (by decide) rfl ?_
        refine aw_goto 2 dX8_afterName_24 (by decide) ?_
        refine aw_lvsub (lv' := [(0, .ref 0), (2, .int (x2 + 1))]) [1, 0] rfl ?_
        exact hrec_2 (τ2, (x2 + 1)) h
def wp_X8_afterName (σ : WSX8) (a1 : Int32) (post : Int32 → WSX8 → Prop) : Prop :=
  (∃ n7, wp_X8_afterName_2  post n7 σ a1)
theorem kX8_afterName {G : aw_G} {d : Nat} (hd : 2 ≤ d) {σ : WSX8} {a1 : Int32} {post : Int32 → WSX8 → Prop} (h : wp_X8_afterName σ a1 post) : AC G MX8_afterName d 0 0 2 [.ref 0, .int a1] (wX8 G σ) (aw_pi (wX8 G) post) := by
  refine AC.of (lv := [(0, .ref 0), (1, .int a1)]) (by decide) (Nat.le_of_ble_eq_true rfl) rfl ?_
  unfold wp_X8_afterName at h
  refine aw_iload_n 1 dX8_afterName_0 rfl rfl ?_
  refine aw_istore_n (lv' := [(2, .int a1), (0, .ref 0), (1, .int a1)]) dX8_afterName_1 rfl (by decide) rfl ?_
  refine aw_lvsub (lv' := [(0, .ref 0), (2, .int a1)]) [1, 0] rfl ?_
  obtain ⟨n7, h⟩ := h
  exact aw_X8_afterName_2 hd  n7 σ a1 h
def wp_X8_sameName_44  (post : Int32 → WSX8 → Prop) (σ : WSX8) (x4 : Int32) (x5 : Int32) : Prop :=
  wp_X8_isNamePart x4 (fun r7 τ8 => wp_X8_isNamePart x5 (fun r9 τ10 => ((¬ r7 = r9 → post (0 : Int32) σ) ∧ (r7 = r9 → post (1 : Int32) σ))))
theorem aw_X8_sameName_44 {G : aw_G} {d : Nat} (hd : 2 ≤ d) {post : Int32 → WSX8 → Prop}  {σ : WSX8} {x4 : Int32} {x5 : Int32} (h : wp_X8_sameName_44  post σ x4 x5) : AW G MX8_sameName d 0 0 2 (aw_pi (wX8 G) post) 44 [(4, .int x4), (5, .int x5)] [] (wX8 G σ) := by
  unfold wp_X8_sameName_44 at h
  refine aw_iload 0 dX8_sameName_44 rfl ?_
  refine aw_callST (st := []) (As := [.int x4]) lX8_39 sttX8_isNamePart (by omega) (kX8_isNamePart (d := 1) (by omega) h) rfl rfl rfl dX8_sameName_46 rfl (fun _ _ hh => ?_)
  obtain ⟨r7, τ8, rfl, rfl, h⟩ := hh
  refine ⟨rfl, (fun x hx => by cases hx; rfl), ?_⟩
  refine aw_stk (st' := [.int r7]) rfl ?_
  refine aw_iload 1 dX8_sameName_49 rfl ?_
  refine aw_callST (st := [.int r7]) (As := [.int x5]) lX8_39 sttX8_isNamePart (by omega) (kX8_isNamePart (d := 1) (by omega) h) rfl rfl rfl dX8_sameName_51 rfl (fun _ _ hh => ?_)
  obtain ⟨r9, τ10, rfl, rfl, h⟩ := hh
  refine ⟨rfl, (fun x hx => by cases hx; rfl), ?_⟩
  refine aw_stk (st' := [.int r9, .int r7]) rfl ?_
  refine aw_icmp_ne 61 dX8_sameName_54 (by decide) (fun c11 => ?_) (fun c11 => ?_)
  · have h := h.1 c11
    refine aw_iconst (v := (0 : Int32)) dX8_sameName_61 (by decide) ?_
    exact aw_zret rfl rfl dX8_sameName_62 ⟨_, σ, rfl, rfl, h⟩
  · have h := h.2 c11
    refine aw_iconst (v := (1 : Int32)) dX8_sameName_57 (by decide) ?_
    refine aw_goto 62 dX8_sameName_58 (by decide) ?_
    exact aw_zret rfl rfl dX8_sameName_62 ⟨_, σ, rfl, rfl, h⟩
def wb_X8_sameName_2  (post : Int32 → WSX8 → Prop) (rec_2 : WSX8 × Int32 × Int32 × Int32 → Prop) (σ : WSX8) (x1 : Int32) (x2 : Int32) (x3 : Int32) : Prop :=
  ((σ.2 ≤ x3 → post (1 : Int32) σ) ∧ (¬ σ.2 ≤ x3 → wp_X8_at σ (x1 + x3) (fun r1 τ2 => wp_X8_at τ2 (x2 + x3) (fun r3 τ4 => wp_X8_isNamePart r1 (fun r5 τ6 => ((r5 = 0 → wp_X8_sameName_44  post τ4 r1 r3) ∧ (¬ r5 = 0 → wp_X8_isNamePart r3 (fun r12 τ13 => ((¬ r12 = 0 → ((r1 = r3 → rec_2 (τ4, x1, x2, (x3 + 1))) ∧ (¬ r1 = r3 → post (0 : Int32) τ4))) ∧ (r12 = 0 → wp_X8_sameName_44  post τ4 r1 r3))))))))))
def wp_X8_sameName_2  (post : Int32 → WSX8 → Prop) (n : Nat) (σ : WSX8) (x1 : Int32) (x2 : Int32) (x3 : Int32) : Prop := aw_loop (fun r (a : WSX8 × Int32 × Int32 × Int32) => wb_X8_sameName_2  post r a.1 a.2.1 a.2.2.1 a.2.2.2) n (σ, x1, x2, x3)
theorem aw_X8_sameName_2 {G : aw_G} {d : Nat} (hd : 2 ≤ d) {post : Int32 → WSX8 → Prop}  : ∀ (n : Nat) (σ : WSX8) (x1 : Int32) (x2 : Int32) (x3 : Int32), wp_X8_sameName_2  post n σ x1 x2 x3 → AW G MX8_sameName d 0 0 2 (aw_pi (wX8 G) post) 2 [(0, .ref 0), (1, .int x1), (2, .int x2), (3, .int x3)] [] (wX8 G σ) := by
  intro n
  induction n with
  | zero => intro σ x1 x2 x3 h; exact h.elim
  | succ n ih =>
    intro σ x1 x2 x3 h
    have hrec_2 : ∀ a : WSX8 × Int32 × Int32 × Int32, aw_loop (fun r (a : WSX8 × Int32 × Int32 × Int32) => wb_X8_sameName_2  post r a.1 a.2.1 a.2.2.1 a.2.2.2) n a → AW G MX8_sameName d 0 0 2 (aw_pi (wX8 G) post) 2 [(0, .ref 0), (1, .int a.2.1), (2, .int a.2.2.1), (3, .int a.2.2.2)] [] (wX8 G a.1) := fun a h => ih a.1 a.2.1 a.2.2.1 a.2.2.2 h
    have h : wb_X8_sameName_2  post (aw_loop (fun r (a : WSX8 × Int32 × Int32 × Int32) => wb_X8_sameName_2  post r a.1 a.2.1 a.2.2.1 a.2.2.2) n) σ x1 x2 x3 := h
    unfold wb_X8_sameName_2 at h
    refine aw_iload_n 3 dX8_sameName_2 rfl rfl ?_
    refine aw_aload_n 0 dX8_sameName_3 rfl rfl ?_
    refine aw_getf (v := .int σ.2) fX8_15 0 rfl rfl dX8_sameName_4 ?_
    refine aw_icmp_ge 78 dX8_sameName_7 (by decide) (fun c17 => ?_) (fun c17 => ?_)
    · have h := h.1 c17
      refine aw_iconst (v := (1 : Int32)) dX8_sameName_78 (by decide) ?_
      exact aw_zret rfl rfl dX8_sameName_79 ⟨_, σ, rfl, rfl, h⟩
    · have h := h.2 c17
      refine aw_aload_n 0 dX8_sameName_10 rfl rfl ?_
      refine aw_iload_n 1 dX8_sameName_11 rfl rfl ?_
      refine aw_iload_n 3 dX8_sameName_12 rfl rfl ?_
      refine aw_iadd dX8_sameName_13 ?_
      refine aw_callVT (mc1 := 0) (ms1 := 0) (mc := 0) (ms := 0) (st := []) (q := 0) (As := [.int (x1 + x3)]) lX8_28 insX8_at selX8_at ⟨TX8, 2, rfl⟩ (by omega) (kX8_at (d := 0) (by omega) h) (Nat.le_of_ble_eq_true rfl) rfl rfl rfl dX8_sameName_14 rfl (fun _ _ hh => ?_)
      obtain ⟨r1, τ2, rfl, rfl, h⟩ := hh
      refine aw_stk (st' := [.int r1]) rfl ?_
      refine aw_istore (lv' := [(4, .int r1), (0, .ref 0), (1, .int x1), (2, .int x2), (3, .int x3)]) dX8_sameName_17 (by decide) rfl ?_
      refine aw_aload_n 1 dX8_sameName_19 rfl rfl ?_
      refine aw_iload_n 3 dX8_sameName_20 rfl rfl ?_
      refine aw_iload_n 4 dX8_sameName_21 rfl rfl ?_
      refine aw_iadd dX8_sameName_22 ?_
      refine aw_callVT (mc1 := 0) (ms1 := 0) (mc := 0) (ms := 0) (st := []) (q := 0) (As := [.int (x2 + x3)]) lX8_28 insX8_at selX8_at ⟨TX8, 2, rfl⟩ (by omega) (kX8_at (d := 0) (by omega) h) (Nat.le_of_ble_eq_true rfl) rfl rfl rfl dX8_sameName_23 rfl (fun _ _ hh => ?_)
      obtain ⟨r3, τ4, rfl, rfl, h⟩ := hh
      refine aw_stk (st' := [.int r3]) rfl ?_
      refine aw_istore (lv' := [(5, .int r3), (4, .int r1), (0, .ref 0), (1, .int x1), (2, .int x2), (3, .int x3)]) dX8_sameName_26 (by decide) rfl ?_
      refine aw_iload 1 dX8_sameName_28 rfl ?_
      refine aw_callST (st := []) (As := [.int r1]) lX8_39 sttX8_isNamePart (by omega) (kX8_isNamePart (d := 1) (by omega) h) rfl rfl rfl dX8_sameName_30 rfl (fun _ _ hh => ?_)
      obtain ⟨r5, τ6, rfl, rfl, h⟩ := hh
      refine ⟨rfl, (fun x hx => by cases hx; rfl), ?_⟩
      refine aw_stk (st' := [.int r5]) rfl ?_
      refine aw_if_eq 44 dX8_sameName_33 (by decide) (fun c16 => ?_) (fun c16 => ?_)
      · have h := h.1 c16
        refine aw_lvsub (lv' := [(4, .int r1), (5, .int r3)]) [1, 0] rfl ?_
        exact aw_X8_sameName_44 hd  h
      · have h := h.2 c16
        refine aw_iload 0 dX8_sameName_36 rfl ?_
        refine aw_callST (st := []) (As := [.int r3]) lX8_39 sttX8_isNamePart (by omega) (kX8_isNamePart (d := 1) (by omega) h) rfl rfl rfl dX8_sameName_38 rfl (fun _ _ hh => ?_)
        obtain ⟨r12, τ13, rfl, rfl, h⟩ := hh
        refine ⟨rfl, (fun x hx => by cases hx; rfl), ?_⟩
        refine aw_stk (st' := [.int r12]) rfl ?_
        refine aw_if_ne 63 dX8_sameName_41 (by decide) (fun c15 => ?_) (fun c15 => ?_)
        · have h := h.1 c15
          refine aw_iload 1 dX8_sameName_63 rfl ?_
          refine aw_iload 0 dX8_sameName_65 rfl ?_
          refine aw_icmp_eq 72 dX8_sameName_67 (by decide) (fun c14 => ?_) (fun c14 => ?_)
          · have h := h.1 c14
            refine aw_iinc 5 (v := (x3 + 1)) (lv' := [(3, .int (x3 + 1)), (5, .int r3), (4, .int r1), (0, .ref 0), (1, .int x1), (2, .int x2)]) dX8_sameName_72 rfl rfl (by decide) rfl ?_
            refine aw_goto 2 dX8_sameName_75 (by decide) ?_
            refine aw_lvsub (lv' := [(0, .ref 0), (1, .int x1), (2, .int x2), (3, .int (x3 + 1))]) [3, 4, 5, 0] rfl ?_
            exact hrec_2 (τ4, x1, x2, (x3 + 1)) h
          · have h := h.2 c14
            refine aw_iconst (v := (0 : Int32)) dX8_sameName_70 (by decide) ?_
            exact aw_zret rfl rfl dX8_sameName_71 ⟨_, τ4, rfl, rfl, h⟩
        · have h := h.2 c15
          refine aw_lvsub (lv' := [(4, .int r1), (5, .int r3)]) [1, 0] rfl ?_
          exact aw_X8_sameName_44 hd  h
def wp_X8_sameName (σ : WSX8) (a1 : Int32) (a2 : Int32) (post : Int32 → WSX8 → Prop) : Prop :=
  (∃ n18, wp_X8_sameName_2  post n18 σ a1 a2 (0 : Int32))
theorem kX8_sameName {G : aw_G} {d : Nat} (hd : 2 ≤ d) {σ : WSX8} {a1 : Int32} {a2 : Int32} {post : Int32 → WSX8 → Prop} (h : wp_X8_sameName σ a1 a2 post) : AC G MX8_sameName d 0 0 2 [.ref 0, .int a1, .int a2] (wX8 G σ) (aw_pi (wX8 G) post) := by
  refine AC.of (lv := [(0, .ref 0), (1, .int a1), (2, .int a2)]) (by decide) (Nat.le_of_ble_eq_true rfl) rfl ?_
  unfold wp_X8_sameName at h
  refine aw_iconst (v := (0 : Int32)) dX8_sameName_0 (by decide) ?_
  refine aw_istore_n (lv' := [(3, .int (0 : Int32)), (0, .ref 0), (1, .int a1), (2, .int a2)]) dX8_sameName_1 rfl (by decide) rfl ?_
  refine aw_lvsub (lv' := [(0, .ref 0), (1, .int a1), (2, .int a2), (3, .int (0 : Int32))]) [1, 2, 3, 0] rfl ?_
  obtain ⟨n18, h⟩ := h
  exact aw_X8_sameName_2 hd  n18 σ a1 a2 (0 : Int32) h
def wb_X8_isText_15  (post : Int32 → WSX8 → Prop) (rec_15 : WSX8 × Int32 × Nat × Int32 → Prop) (σ : WSX8) (x1 : Int32) (x3 : Nat) (x4 : Int32) : Prop :=
  (x3 < aw_nS ∧ (((nI (aw_lenS.getD x3 0)) ≤ x4 → post (1 : Int32) σ) ∧ (¬ (nI (aw_lenS.getD x3 0)) ≤ x4 → wp_X8_at σ (x1 + x4) (fun r3 τ4 => (x3 < aw_nS ∧ (vp_in x4 (aw_lenS.getD x3 0) ∧ ((r3 = (aw_ch x3 x4) → rec_15 (τ4, x1, x3, (x4 + 1))) ∧ (¬ r3 = (aw_ch x3 x4) → post (0 : Int32) τ4))))))))
def wp_X8_isText_15  (post : Int32 → WSX8 → Prop) (n : Nat) (σ : WSX8) (x1 : Int32) (x3 : Nat) (x4 : Int32) : Prop := aw_loop (fun r (a : WSX8 × Int32 × Nat × Int32) => wb_X8_isText_15  post r a.1 a.2.1 a.2.2.1 a.2.2.2) n (σ, x1, x3, x4)
theorem aw_X8_isText_15 {G : aw_G} {d : Nat} (hd : 4 ≤ d) {post : Int32 → WSX8 → Prop}  : ∀ (n : Nat) (σ : WSX8) (x1 : Int32) (x3 : Nat) (x4 : Int32), wp_X8_isText_15  post n σ x1 x3 x4 → AW G MX8_isText d 0 0 2 (aw_pi (wX8 G) post) 15 [(0, .ref 0), (1, .int x1), (3, .retAddr x3), (4, .int x4)] [] (wX8 G σ) := by
  intro n
  induction n with
  | zero => intro σ x1 x3 x4 h; exact h.elim
  | succ n ih =>
    intro σ x1 x3 x4 h
    have hrec_15 : ∀ a : WSX8 × Int32 × Nat × Int32, aw_loop (fun r (a : WSX8 × Int32 × Nat × Int32) => wb_X8_isText_15  post r a.1 a.2.1 a.2.2.1 a.2.2.2) n a → AW G MX8_isText d 0 0 2 (aw_pi (wX8 G) post) 15 [(0, .ref 0), (1, .int a.2.1), (3, .retAddr a.2.2.1), (4, .int a.2.2.2)] [] (wX8 G a.1) := fun a h => ih a.1 a.2.1 a.2.2.1 a.2.2.2 h
    have h : wb_X8_isText_15  post (aw_loop (fun r (a : WSX8 × Int32 × Nat × Int32) => wb_X8_isText_15  post r a.1 a.2.1 a.2.2.1 a.2.2.2) n) σ x1 x3 x4 := h
    unfold wb_X8_isText_15 at h
    refine aw_iload 3 dX8_isText_15 rfl ?_
    refine aw_aload_nS 2 dX8_isText_17 rfl rfl ?_
    refine aw_callVS (mc := 0) (ms := 0) (st := [.int x4]) (As := []) (vsc := []) lX8_42 insJ0_length_8abf5 selJ0_length_8abf5 rfl h.1 (by omega) (kJ0_length (d := 1) (by omega) h.1 (post := fun r _ => r = (nI (aw_lenS.getD x3 0))) rfl) [] rfl rfl rfl rfl dX8_isText_18 rfl rfl (fun _ _ hh => ?_)
    obtain ⟨r2, τ, rfl, rfl, er2⟩ := hh
    have h := h.2
    refine ⟨(wX8 G σ), [.int r2, .int x4], rfl, rfl, rfl, ?_⟩
    rw [er2]
    refine aw_icmp_ge 49 dX8_isText_21 (by decide) (fun c7 => ?_) (fun c7 => ?_)
    · have h := h.1 c7
      refine aw_iconst (v := (1 : Int32)) dX8_isText_49 (by decide) ?_
      exact aw_zret rfl rfl dX8_isText_50 ⟨_, σ, rfl, rfl, h⟩
    · have h := h.2 c7
      refine aw_aload_n 0 dX8_isText_24 rfl rfl ?_
      refine aw_iload_n 1 dX8_isText_25 rfl rfl ?_
      refine aw_iload 3 dX8_isText_26 rfl ?_
      refine aw_iadd dX8_isText_28 ?_
      refine aw_callVT (mc1 := 0) (ms1 := 0) (mc := 0) (ms := 0) (st := []) (q := 0) (As := [.int (x1 + x4)]) lX8_28 insX8_at selX8_at ⟨TX8, 2, rfl⟩ (by omega) (kX8_at (d := 0) (by omega) h) (Nat.le_of_ble_eq_true rfl) rfl rfl rfl dX8_isText_29 rfl (fun _ _ hh => ?_)
      obtain ⟨r3, τ4, rfl, rfl, h⟩ := hh
      refine aw_stk (st' := [.int r3]) rfl ?_
      refine aw_aload_nS 2 dX8_isText_32 rfl rfl ?_
      refine aw_iload 3 dX8_isText_33 rfl ?_
      refine aw_callVS (mc := 0) (ms := 0) (st := [.int r3]) (As := [.int x4]) (vsc := [.int x4]) lX8_48 insJ0_charAt_5068e selJ0_charAt_5068e rfl h.1 (by omega) (kJ0_charAt (d := 3) (by omega) h.1 h.2.1 (post := fun r _ => r = (aw_ch x3 x4)) rfl) [] rfl rfl rfl rfl dX8_isText_35 rfl rfl (fun _ _ hh => ?_)
      obtain ⟨r5, τ, rfl, rfl, er5⟩ := hh
      have h := h.2.2
      refine ⟨(wX8 G τ4), [.int r5, .int r3], rfl, rfl, rfl, ?_⟩
      rw [er5]
      refine aw_icmp_eq 43 dX8_isText_38 (by decide) (fun c6 => ?_) (fun c6 => ?_)
      · have h := h.1 c6
        refine aw_iinc 3 (v := (x4 + 1)) (lv' := [(4, .int (x4 + 1)), (0, .ref 0), (1, .int x1), (3, .retAddr x3)]) dX8_isText_43 rfl rfl (by decide) rfl ?_
        refine aw_goto 15 dX8_isText_46 (by decide) ?_
        refine aw_lvsub (lv' := [(0, .ref 0), (1, .int x1), (3, .retAddr x3), (4, .int (x4 + 1))]) [1, 2, 3, 0] rfl ?_
        exact hrec_15 (τ4, x1, x3, (x4 + 1)) h
      · have h := h.2 c6
        refine aw_iconst (v := (0 : Int32)) dX8_isText_41 (by decide) ?_
        exact aw_zret rfl rfl dX8_isText_42 ⟨_, τ4, rfl, rfl, h⟩
def wp_X8_isText (σ : WSX8) (a1 : Int32) (a2 : Int32) (a3 : Nat) (post : Int32 → WSX8 → Prop) : Prop :=
  (a3 < aw_nS ∧ (((a2 - a1) = (nI (aw_lenS.getD a3 0)) → (∃ n8, wp_X8_isText_15  post n8 σ a1 a3 (0 : Int32))) ∧ (¬ (a2 - a1) = (nI (aw_lenS.getD a3 0)) → post (0 : Int32) σ)))
theorem kX8_isText {G : aw_G} {d : Nat} (hd : 4 ≤ d) {σ : WSX8} {a1 : Int32} {a2 : Int32} {a3 : Nat} {post : Int32 → WSX8 → Prop} (h : wp_X8_isText σ a1 a2 a3 post) : AC G MX8_isText d 0 0 2 [.ref 0, .int a1, .int a2, .retAddr a3] (wX8 G σ) (aw_pi (wX8 G) post) := by
  refine AC.of (lv := [(0, .ref 0), (1, .int a1), (2, .int a2), (3, .retAddr a3)]) (by decide) (Nat.le_of_ble_eq_true rfl) rfl ?_
  unfold wp_X8_isText at h
  refine aw_iload_n 2 dX8_isText_0 rfl rfl ?_
  refine aw_iload_n 1 dX8_isText_1 rfl rfl ?_
  refine aw_isub dX8_isText_2 ?_
  refine aw_aload_nS 3 dX8_isText_3 rfl rfl ?_
  refine aw_callVS (mc := 0) (ms := 0) (st := [.int (a2 - a1)]) (As := []) (vsc := []) lX8_42 insJ0_length_8abf5 selJ0_length_8abf5 rfl h.1 (by omega) (kJ0_length (d := 1) (by omega) h.1 (post := fun r _ => r = (nI (aw_lenS.getD a3 0))) rfl) [] rfl rfl rfl rfl dX8_isText_4 rfl rfl (fun _ _ hh => ?_)
  obtain ⟨r1, τ, rfl, rfl, er1⟩ := hh
  have h := h.2
  refine ⟨(wX8 G σ), [.int r1, .int (a2 - a1)], rfl, rfl, rfl, ?_⟩
  rw [er1]
  refine aw_icmp_eq 12 dX8_isText_7 (by decide) (fun c9 => ?_) (fun c9 => ?_)
  · have h := h.1 c9
    refine aw_iconst (v := (0 : Int32)) dX8_isText_12 (by decide) ?_
    refine aw_istore (lv' := [(4, .int (0 : Int32)), (0, .ref 0), (1, .int a1), (2, .int a2), (3, .retAddr a3)]) dX8_isText_13 (by decide) rfl ?_
    refine aw_lvsub (lv' := [(0, .ref 0), (1, .int a1), (3, .retAddr a3), (4, .int (0 : Int32))]) [1, 2, 4, 0] rfl ?_
    obtain ⟨n8, h⟩ := h
    exact aw_X8_isText_15 hd  n8 σ a1 a3 (0 : Int32) h
  · have h := h.2 c9
    refine aw_iconst (v := (0 : Int32)) dX8_isText_10 (by decide) ?_
    exact aw_zret rfl rfl dX8_isText_11 ⟨_, σ, rfl, rfl, h⟩
end WalkX8
