section WalkX10
def wp_X10_clear (σ : WSX10) (post : WSX10 → Prop) : Prop :=
  (∀ y1 : Nat → Int32, y1 = aw_fill 200 (0 : Int32) σ.1.1.1.1 → post ((((y1, (0 : Int32)), (((-1) : Int32), ((0 : Int32), (0 : Int32)))), σ.1.2), σ.2))
theorem kX10_clear {G : aw_G} {d : Nat} (hd : 1 ≤ d) {σ : WSX10} {post : WSX10 → Prop} (h : wp_X10_clear σ post) : AC G MX10_clear d 0 0 29 [.ref 0] (wX10 G σ) (aw_pv (wX10 G) post) := by
  refine AC.of (lv := [(0, .ref 0)]) (by decide) (Nat.le_of_ble_eq_true rfl) rfl ?_
  unfold wp_X10_clear at h
  refine aw_aload_n 0 dX10_clear_0 rfl rfl ?_
  refine aw_getf (v := .ref 1) fX10_11 0 rfl rfl dX10_clear_1 ?_
  refine aw_iconst (v := (0 : Int32)) dX10_clear_4 (by decide) ?_
  refine aw_callS (mc := 0) (ms := 0) (st := []) (As := [.ref 1, .int (0 : Int32)]) (vsc := [.ref 0, .int (0 : Int32)]) lX10_39 sttJ7_fill_53178 (by omega) (kJ7_fill (d := 0) (n := 200) (f := σ.1.1.1.1) (v := (0 : Int32)) (by decide)) [1] rfl rfl rfl rfl dX10_clear_5 rfl rfl (fun _ _ hh => ?_)
  obtain ⟨rfl, rfl⟩ := hh
  have h := h _ rfl
  generalize aw_fill 200 (0 : Int32) σ.1.1.1.1 = y1 at h ⊢
  refine ⟨(wX10 G ((((y1, σ.1.1.1.2), σ.1.1.2), σ.1.2), σ.2)), [], rfl, rfl, rfl, ?_⟩
  refine aw_aload_n 0 dX10_clear_8 rfl rfl ?_
  refine aw_iconst (v := (0 : Int32)) dX10_clear_9 (by decide) ?_
  refine aw_putf fX10_45 0 (w' := (wX10 G ((((y1, (0 : Int32)), σ.1.1.2), σ.1.2), σ.2))) rfl (fun _ => ⟨rfl, rfl⟩) (Nat.le_of_ble_eq_true rfl) rfl dX10_clear_10 ?_
  refine aw_aload_n 0 dX10_clear_13 rfl rfl ?_
  refine aw_iconst (v := ((-1) : Int32)) dX10_clear_14 (by decide) ?_
  refine aw_putf fX10_49 0 (w' := (wX10 G ((((y1, (0 : Int32)), (((-1) : Int32), σ.1.1.2.2)), σ.1.2), σ.2))) rfl (fun _ => ⟨rfl, rfl⟩) (Nat.le_of_ble_eq_true rfl) rfl dX10_clear_15 ?_
  refine aw_aload_n 0 dX10_clear_18 rfl rfl ?_
  refine aw_iconst (v := (0 : Int32)) dX10_clear_19 (by decide) ?_
  refine aw_putf fX10_52 0 (w' := (wX10 G ((((y1, (0 : Int32)), (((-1) : Int32), ((0 : Int32), σ.1.1.2.2.2))), σ.1.2), σ.2))) rfl (fun _ => ⟨rfl, rfl⟩) (Nat.le_of_ble_eq_true rfl) rfl dX10_clear_20 ?_
  refine aw_aload_n 0 dX10_clear_23 rfl rfl ?_
  refine aw_iconst (v := (0 : Int32)) dX10_clear_24 (by decide) ?_
  refine aw_putf fX10_55 0 (w' := (wX10 G ((((y1, (0 : Int32)), (((-1) : Int32), ((0 : Int32), (0 : Int32)))), σ.1.2), σ.2))) rfl (fun _ => ⟨rfl, rfl⟩) (Nat.le_of_ble_eq_true rfl) rfl dX10_clear_25 ?_
  exact aw_vret rfl dX10_clear_28 ⟨((((y1, (0 : Int32)), (((-1) : Int32), ((0 : Int32), (0 : Int32)))), σ.1.2), σ.2), rfl, rfl, h⟩
def wp_X10_hasRun (σ : WSX10) (post : Int32 → WSX10 → Prop) : Prop :=
  ((σ.1.1.1.2 ≤ 0 → post (0 : Int32) σ) ∧ (¬ σ.1.1.1.2 ≤ 0 → post (1 : Int32) σ))
theorem kX10_hasRun {G : aw_G} {d : Nat} (hd : 0 ≤ d) {σ : WSX10} {post : Int32 → WSX10 → Prop} (h : wp_X10_hasRun σ post) : AC G MX10_hasRun d 0 0 29 [.ref 0] (wX10 G σ) (aw_pi (wX10 G) post) := by
  refine AC.of (lv := [(0, .ref 0)]) (by decide) (Nat.le_of_ble_eq_true rfl) rfl ?_
  unfold wp_X10_hasRun at h
  refine aw_aload_n 0 dX10_hasRun_0 rfl rfl ?_
  refine aw_getf (v := .int σ.1.1.1.2) fX10_45 0 rfl rfl dX10_hasRun_1 ?_
  refine aw_if_le 11 dX10_hasRun_4 (by decide) (fun c1 => ?_) (fun c1 => ?_)
  · have h := h.1 c1
    refine aw_iconst (v := (0 : Int32)) dX10_hasRun_11 (by decide) ?_
    exact aw_zret rfl rfl dX10_hasRun_12 ⟨_, σ, rfl, rfl, h⟩
  · have h := h.2 c1
    refine aw_iconst (v := (1 : Int32)) dX10_hasRun_7 (by decide) ?_
    refine aw_goto 12 dX10_hasRun_8 (by decide) ?_
    exact aw_zret rfl rfl dX10_hasRun_12 ⟨_, σ, rfl, rfl, h⟩
def wp_X10_endPlace (σ : WSX10) (post : Int32 → WSX10 → Prop) : Prop :=
  post σ.1.1.2.1 σ
theorem kX10_endPlace {G : aw_G} {d : Nat} (hd : 0 ≤ d) {σ : WSX10} {post : Int32 → WSX10 → Prop} (h : wp_X10_endPlace σ post) : AC G MX10_endPlace d 0 0 29 [.ref 0] (wX10 G σ) (aw_pi (wX10 G) post) := by
  refine AC.of (lv := [(0, .ref 0)]) (by decide) (Nat.le_of_ble_eq_true rfl) rfl ?_
  unfold wp_X10_endPlace at h
  refine aw_aload_n 0 dX10_endPlace_0 rfl rfl ?_
  refine aw_getf (v := .int σ.1.1.2.1) fX10_49 0 rfl rfl dX10_endPlace_1 ?_
  exact aw_iret rfl dX10_endPlace_4 ⟨_, σ, rfl, rfl, h⟩
def wp_X10_stepsDone (σ : WSX10) (post : Int32 → WSX10 → Prop) : Prop :=
  post σ.1.1.2.2.1 σ
theorem kX10_stepsDone {G : aw_G} {d : Nat} (hd : 0 ≤ d) {σ : WSX10} {post : Int32 → WSX10 → Prop} (h : wp_X10_stepsDone σ post) : AC G MX10_stepsDone d 0 0 29 [.ref 0] (wX10 G σ) (aw_pi (wX10 G) post) := by
  refine AC.of (lv := [(0, .ref 0)]) (by decide) (Nat.le_of_ble_eq_true rfl) rfl ?_
  unfold wp_X10_stepsDone at h
  refine aw_aload_n 0 dX10_stepsDone_0 rfl rfl ?_
  refine aw_getf (v := .int σ.1.1.2.2.1) fX10_52 0 rfl rfl dX10_stepsDone_1 ?_
  exact aw_iret rfl dX10_stepsDone_4 ⟨_, σ, rfl, rfl, h⟩
def wp_X10_tellings (σ : WSX10) (post : Int32 → WSX10 → Prop) : Prop :=
  post σ.1.1.2.2.2 σ
theorem kX10_tellings {G : aw_G} {d : Nat} (hd : 0 ≤ d) {σ : WSX10} {post : Int32 → WSX10 → Prop} (h : wp_X10_tellings σ post) : AC G MX10_tellings d 0 0 29 [.ref 0] (wX10 G σ) (aw_pi (wX10 G) post) := by
  refine AC.of (lv := [(0, .ref 0)]) (by decide) (Nat.le_of_ble_eq_true rfl) rfl ?_
  unfold wp_X10_tellings at h
  refine aw_aload_n 0 dX10_tellings_0 rfl rfl ?_
  refine aw_getf (v := .int σ.1.1.2.2.2) fX10_55 0 rfl rfl dX10_tellings_1 ?_
  exact aw_iret rfl dX10_tellings_4 ⟨_, σ, rfl, rfl, h⟩
def wp_X10_give (σ : WSX10) (a1 : Int32) (a2 : Int32) (post : Int32 → WSX10 → Prop) : Prop :=
  wp_X3_hasInput (σ.1.2.2, σ.2.1.1) a1 (fun r1 τ2 => ((r1 = 0 → post (0 : Int32) ((σ.1.1, (σ.1.2.1, τ2.1)), ((τ2.2, σ.2.1.2), σ.2.2))) ∧ (¬ r1 = 0 → ((a1 < (200 : Int32) → (vp_in a1 200 ∧ ∀ y3 : Nat → Int32, y3 = upd σ.1.1.1.1 (a1).toNatClampNeg a2 → post (1 : Int32) ((((y3, σ.1.1.1.2), σ.1.1.2), (σ.1.2.1, τ2.1)), ((τ2.2, σ.2.1.2), σ.2.2)))) ∧ (¬ a1 < (200 : Int32) → post (0 : Int32) ((σ.1.1, (σ.1.2.1, τ2.1)), ((τ2.2, σ.2.1.2), σ.2.2)))))))
theorem kX10_give {G : aw_G} {d : Nat} (hd : 1 ≤ d) {σ : WSX10} {a1 : Int32} {a2 : Int32} {post : Int32 → WSX10 → Prop} (h : wp_X10_give σ a1 a2 post) : AC G MX10_give d 0 0 29 [.ref 0, .int a1, .int a2] (wX10 G σ) (aw_pi (wX10 G) post) := by
  refine AC.of (lv := [(0, .ref 0), (1, .int a1), (2, .int a2)]) (by decide) (Nat.le_of_ble_eq_true rfl) rfl ?_
  unfold wp_X10_give at h
  refine aw_aload_n 0 dX10_give_0 rfl rfl ?_
  refine aw_getf (v := .ref 3) fX10_31 0 rfl rfl dX10_give_1 ?_
  refine aw_iload_n 1 dX10_give_4 rfl rfl ?_
  refine aw_callV (mc1 := 0) (ms1 := 0) (mc := 0) (ms := 0) (st := []) (q := 3) (As := [.int a1]) (vsc := [.int a1]) lX10_58 insX3_hasInput selX3_hasInput ⟨TX3, 11, rfl⟩ (by omega) (kX3_hasInput (d := 0) (by omega) h) [3, 4, 5, 6, 7, 8, 9, 10, 11] rfl rfl rfl rfl rfl dX10_give_5 rfl rfl (fun _ _ hh => ?_)
  obtain ⟨r1, τ2, rfl, rfl, h⟩ := hh
  refine ⟨(wX10 G ((σ.1.1, (σ.1.2.1, τ2.1)), ((τ2.2, σ.2.1.2), σ.2.2))), [.int r1], rfl, rfl, rfl, ?_⟩
  refine aw_if_eq 20 dX10_give_8 (by decide) (fun c5 => ?_) (fun c5 => ?_)
  · have h := h.1 c5
    refine aw_iconst (v := (0 : Int32)) dX10_give_20 (by decide) ?_
    exact aw_zret rfl rfl dX10_give_21 ⟨_, ((σ.1.1, (σ.1.2.1, τ2.1)), ((τ2.2, σ.2.1.2), σ.2.2)), rfl, rfl, h⟩
  · have h := h.2 c5
    refine aw_iload_n 1 dX10_give_11 rfl rfl ?_
    refine aw_aload_n 0 dX10_give_12 rfl rfl ?_
    refine aw_getf (v := .ref 1) fX10_11 0 rfl rfl dX10_give_13 ?_
    refine aw_alen 1 0 (v := (200 : Int32)) rfl rfl rfl dX10_give_16 ?_
    refine aw_icmp_lt 22 dX10_give_17 (by decide) (fun c4 => ?_) (fun c4 => ?_)
    · have h := h.1 c4
      refine aw_aload_n 0 dX10_give_22 rfl rfl ?_
      refine aw_getf (v := .ref 1) fX10_11 0 rfl rfl dX10_give_23 ?_
      refine aw_iload_n 1 dX10_give_26 rfl rfl ?_
      refine aw_iload_n 2 dX10_give_27 rfl rfl ?_
      refine aw_iast 1 (n := 200) (f := σ.1.1.1.1) (w' := fun y3 => (wX10 G ((((y3, σ.1.1.1.2), σ.1.1.2), (σ.1.2.1, τ2.1)), ((τ2.2, σ.2.1.2), σ.2.2)))) rfl h.1 (fun _ => rfl) dX10_give_28 (fun y3 ey3 => ?_)
      have h := h.2 y3 ey3
      refine aw_iconst (v := (1 : Int32)) dX10_give_29 (by decide) ?_
      exact aw_zret rfl rfl dX10_give_30 ⟨_, ((((y3, σ.1.1.1.2), σ.1.1.2), (σ.1.2.1, τ2.1)), ((τ2.2, σ.2.1.2), σ.2.2)), rfl, rfl, h⟩
    · have h := h.2 c4
      refine aw_iconst (v := (0 : Int32)) dX10_give_20 (by decide) ?_
      exact aw_zret rfl rfl dX10_give_21 ⟨_, ((σ.1.1, (σ.1.2.1, τ2.1)), ((τ2.2, σ.2.1.2), σ.2.2)), rfl, rfl, h⟩
def wp_X10_remember_78  (post : WSX10 → Prop) (σ : WSX10) : Prop :=
  wp_X2_events σ.2.1.2  (fun r5 τ6 => wp_X2_cycles τ6  (fun r7 τ8 => wp_X6_finish σ.2.2.1 r5 r7 (fun τ10 => (∀ y11 : Int32, y11 = (if (2 : Int32) < (σ.1.1.1.2 + (1 : Int32)) then (2 : Int32) else (σ.1.1.1.2 + (1 : Int32))) → post ((((σ.1.1.1.1, y11), σ.1.1.2), σ.1.2), ((σ.2.1.1, τ8), (τ10, σ.2.2.2)))))))
theorem aw_X10_remember_78 {G : aw_G} {d : Nat} (hd : 2 ≤ d) {post : WSX10 → Prop}  {σ : WSX10} (h : wp_X10_remember_78  post σ) : AW G MX10_remember d 0 0 16 (aw_pv (wX10 G) post) 78 [(0, .ref 0)] [] (wX10 G σ) := by
  unfold wp_X10_remember_78 at h
  refine aw_aload_n 0 dX10_remember_78 rfl rfl ?_
  refine aw_getf (v := .ref 25) fX10_20 0 rfl rfl dX10_remember_79 ?_
  refine aw_aload_n 0 dX10_remember_82 rfl rfl ?_
  refine aw_getf (v := .ref 12) fX10_35 0 rfl rfl dX10_remember_83 ?_
  refine aw_callV (mc1 := 0) (ms1 := 0) (mc := 0) (ms := 0) (st := [.ref 25]) (q := 12) (As := []) (vsc := []) lX10_111 insX2_events selX2_events ⟨TX2, 8, rfl⟩ (by omega) (kX2_events (d := 0) (by omega) h) [12, 13, 14, 15] rfl rfl rfl rfl rfl dX10_remember_86 rfl rfl (fun _ _ hh => ?_)
  obtain ⟨r5, τ6, rfl, rfl, h⟩ := hh
  refine ⟨(wX10 G (σ.1, ((σ.2.1.1, τ6), σ.2.2))), [.long r5, .ref 25], rfl, rfl, rfl, ?_⟩
  refine aw_aload_n 0 dX10_remember_89 rfl rfl ?_
  refine aw_getf (v := .ref 12) fX10_35 0 rfl rfl dX10_remember_90 ?_
  refine aw_callV (mc1 := 0) (ms1 := 0) (mc := 0) (ms := 0) (st := [.long r5, .ref 25]) (q := 12) (As := []) (vsc := []) lX10_115 insX2_cycles selX2_cycles ⟨TX2, 8, rfl⟩ (by omega) (kX2_cycles (d := 0) (by omega) h) [12, 13, 14, 15] rfl rfl rfl rfl rfl dX10_remember_93 rfl rfl (fun _ _ hh => ?_)
  obtain ⟨r7, τ8, rfl, rfl, h⟩ := hh
  refine ⟨(wX10 G (σ.1, ((σ.2.1.1, τ8), σ.2.2))), [.long r7, .long r5, .ref 25], rfl, rfl, rfl, ?_⟩
  refine aw_callV (mc1 := 0) (ms1 := 0) (mc := 0) (ms := 0) (st := []) (q := 25) (As := [.long r5, .long r7]) (vsc := [.long r5, .long r7]) lX10_118 insX6_finish selX6_finish ⟨TX6, 5, rfl⟩ (by omega) (kX6_finish (d := 0) (by omega) h) [25, 26] rfl rfl rfl rfl rfl dX10_remember_96 rfl rfl (fun _ _ hh => ?_)
  obtain ⟨τ10, rfl, rfl, h⟩ := hh
  refine ⟨(wX10 G (σ.1, ((σ.2.1.1, τ8), (τ10, σ.2.2.2)))), [], rfl, rfl, rfl, ?_⟩
  refine aw_aload_n 0 dX10_remember_99 rfl rfl ?_
  refine aw_aload_n 0 dX10_remember_100 rfl rfl ?_
  refine aw_getf (v := .int σ.1.1.1.2) fX10_45 0 rfl rfl dX10_remember_101 ?_
  refine aw_iconst (v := (1 : Int32)) dX10_remember_104 (by decide) ?_
  refine aw_iadd dX10_remember_105 ?_
  refine aw_iconst (v := (2 : Int32)) dX10_remember_106 (by decide) ?_
  refine aw_mmin qX10_122 mathS_min iniJ9 mathK_min (by omega) (Nat.le_of_ble_eq_true rfl) dX10_remember_107 ?_
  refine aw_topi (fun y11 ey11 => ?_)
  have h := h y11 ey11
  refine aw_putf fX10_45 0 (w' := (wX10 G ((((σ.1.1.1.1, y11), σ.1.1.2), σ.1.2), ((σ.2.1.1, τ8), (τ10, σ.2.2.2))))) rfl (fun _ => ⟨rfl, rfl⟩) (Nat.le_of_ble_eq_true rfl) rfl dX10_remember_110 ?_
  exact aw_vret rfl dX10_remember_113 ⟨((((σ.1.1.1.1, y11), σ.1.1.2), σ.1.2), ((σ.2.1.1, τ8), (τ10, σ.2.2.2))), rfl, rfl, h⟩
def wp_X10_remember_72 (rec_28 : WSX10 × Int32 → Prop) (post : WSX10 → Prop) (σ : WSX10) (x3 : Int32) : Prop :=
  rec_28 (σ, (x3 + 1))
theorem aw_X10_remember_72 {G : aw_G} {d : Nat} (hd : 2 ≤ d) {rec_28 : WSX10 × Int32 → Prop} {post : WSX10 → Prop} (hrec_28 : ∀ a : WSX10 × Int32, rec_28 a → AW G MX10_remember d 0 0 16 (aw_pv (wX10 G) post) 28 [(0, .ref 0), (3, .int a.2)] [] (wX10 G a.1)) {σ : WSX10} {x3 : Int32} (h : wp_X10_remember_72 rec_28 post σ x3) : AW G MX10_remember d 0 0 16 (aw_pv (wX10 G) post) 72 [(0, .ref 0), (3, .int x3)] [] (wX10 G σ) := by
  unfold wp_X10_remember_72 at h
  refine aw_iinc 1 (v := (x3 + 1)) (lv' := [(3, .int (x3 + 1)), (0, .ref 0)]) dX10_remember_72 rfl rfl (by decide) rfl ?_
  refine aw_goto 28 dX10_remember_75 (by decide) ?_
  refine aw_lvsub (lv' := [(0, .ref 0), (3, .int (x3 + 1))]) [1, 0] rfl ?_
  exact hrec_28 (σ, (x3 + 1)) h
def wb_X10_remember_28  (post : WSX10 → Prop) (rec_28 : WSX10 × Int32 → Prop) (σ : WSX10) (x3 : Int32) : Prop :=
  wp_X3_inputs (σ.1.2.2, σ.2.1.1)  (fun r3 τ4 => ((r3 ≤ x3 → wp_X10_remember_78  post ((σ.1.1, (σ.1.2.1, τ4.1)), ((τ4.2, σ.2.1.2), σ.2.2))) ∧ (¬ r3 ≤ x3 → (((200 : Int32) ≤ x3 → wp_X10_remember_78  post ((σ.1.1, (σ.1.2.1, τ4.1)), ((τ4.2, σ.2.1.2), σ.2.2))) ∧ (¬ (200 : Int32) ≤ x3 → wp_X3_inputSecret τ4 x3 (fun r12 τ13 => ((¬ r12 = 0 → wp_X10_remember_72 rec_28 post ((σ.1.1, (σ.1.2.1, τ13.1)), ((τ13.2, σ.2.1.2), σ.2.2)) x3) ∧ (r12 = 0 → (vp_in x3 200 ∧ wp_X6_addPublic σ.2.2.1 (σ.1.1.1.1 (x3).toNatClampNeg) (fun τ15 => wp_X10_remember_72 rec_28 post ((σ.1.1, (σ.1.2.1, τ13.1)), ((τ13.2, σ.2.1.2), (τ15, σ.2.2.2))) x3))))))))))
def wp_X10_remember_28  (post : WSX10 → Prop) (n : Nat) (σ : WSX10) (x3 : Int32) : Prop := aw_loop (fun r (a : WSX10 × Int32) => wb_X10_remember_28  post r a.1 a.2) n (σ, x3)
theorem aw_X10_remember_28 {G : aw_G} {d : Nat} (hd : 2 ≤ d) {post : WSX10 → Prop}  : ∀ (n : Nat) (σ : WSX10) (x3 : Int32), wp_X10_remember_28  post n σ x3 → AW G MX10_remember d 0 0 16 (aw_pv (wX10 G) post) 28 [(0, .ref 0), (3, .int x3)] [] (wX10 G σ) := by
  intro n
  induction n with
  | zero => intro σ x3 h; exact h.elim
  | succ n ih =>
    intro σ x3 h
    have hrec_28 : ∀ a : WSX10 × Int32, aw_loop (fun r (a : WSX10 × Int32) => wb_X10_remember_28  post r a.1 a.2) n a → AW G MX10_remember d 0 0 16 (aw_pv (wX10 G) post) 28 [(0, .ref 0), (3, .int a.2)] [] (wX10 G a.1) := fun a h => ih a.1 a.2 h
    have h : wb_X10_remember_28  post (aw_loop (fun r (a : WSX10 × Int32) => wb_X10_remember_28  post r a.1 a.2) n) σ x3 := h
    unfold wb_X10_remember_28 at h
    refine aw_iload_n 1 dX10_remember_28 rfl rfl ?_
    refine aw_aload_n 0 dX10_remember_29 rfl rfl ?_
    refine aw_getf (v := .ref 3) fX10_31 0 rfl rfl dX10_remember_30 ?_
    refine aw_callV (mc1 := 0) (ms1 := 0) (mc := 0) (ms := 0) (st := [.int x3]) (q := 3) (As := []) (vsc := []) lX10_70 insX3_inputs selX3_inputs ⟨TX3, 11, rfl⟩ (by omega) (kX3_inputs (d := 0) (by omega) h) [3, 4, 5, 6, 7, 8, 9, 10, 11] rfl rfl rfl rfl rfl dX10_remember_33 rfl rfl (fun _ _ hh => ?_)
    obtain ⟨r3, τ4, rfl, rfl, h⟩ := hh
    refine ⟨(wX10 G ((σ.1.1, (σ.1.2.1, τ4.1)), ((τ4.2, σ.2.1.2), σ.2.2))), [.int r3, .int x3], rfl, rfl, rfl, ?_⟩
    refine aw_icmp_ge 78 dX10_remember_36 (by decide) (fun c18 => ?_) (fun c18 => ?_)
    · have h := h.1 c18
      refine aw_lvsub (lv' := [(0, .ref 0)]) [0] rfl ?_
      exact aw_X10_remember_78 hd  h
    · have h := h.2 c18
      refine aw_iload_n 1 dX10_remember_39 rfl rfl ?_
      refine aw_aload_n 0 dX10_remember_40 rfl rfl ?_
      refine aw_getf (v := .ref 1) fX10_11 0 rfl rfl dX10_remember_41 ?_
      refine aw_alen 1 0 (v := (200 : Int32)) rfl rfl rfl dX10_remember_44 ?_
      refine aw_icmp_ge 78 dX10_remember_45 (by decide) (fun c17 => ?_) (fun c17 => ?_)
      · have h := h.1 c17
        refine aw_lvsub (lv' := [(0, .ref 0)]) [0] rfl ?_
        exact aw_X10_remember_78 hd  h
      · have h := h.2 c17
        refine aw_aload_n 0 dX10_remember_48 rfl rfl ?_
        refine aw_getf (v := .ref 3) fX10_31 0 rfl rfl dX10_remember_49 ?_
        refine aw_iload_n 1 dX10_remember_52 rfl rfl ?_
        refine aw_callV (mc1 := 0) (ms1 := 0) (mc := 0) (ms := 0) (st := []) (q := 3) (As := [.int x3]) (vsc := [.int x3]) lX10_105 insX3_inputSecret selX3_inputSecret ⟨TX3, 11, rfl⟩ (by omega) (kX3_inputSecret (d := 1) (by omega) h) [3, 4, 5, 6, 7, 8, 9, 10, 11] rfl rfl rfl rfl rfl dX10_remember_53 rfl rfl (fun _ _ hh => ?_)
        obtain ⟨r12, τ13, rfl, rfl, h⟩ := hh
        refine ⟨(wX10 G ((σ.1.1, (σ.1.2.1, τ13.1)), ((τ13.2, σ.2.1.2), σ.2.2))), [.int r12], rfl, rfl, rfl, ?_⟩
        refine aw_if_ne 72 dX10_remember_56 (by decide) (fun c16 => ?_) (fun c16 => ?_)
        · have h := h.1 c16
          exact aw_X10_remember_72 hd hrec_28 h
        · have h := h.2 c16
          refine aw_aload_n 0 dX10_remember_59 rfl rfl ?_
          refine aw_getf (v := .ref 25) fX10_20 0 rfl rfl dX10_remember_60 ?_
          refine aw_aload_n 0 dX10_remember_63 rfl rfl ?_
          refine aw_getf (v := .ref 1) fX10_11 0 rfl rfl dX10_remember_64 ?_
          refine aw_iload_n 1 dX10_remember_67 rfl rfl ?_
          refine aw_iald 1 (n := 200) (f := σ.1.1.1.1) rfl h.1 dX10_remember_68 ?_
          have h := h.2
          refine aw_callV (mc1 := 0) (ms1 := 0) (mc := 0) (ms := 0) (st := []) (q := 25) (As := [.int (σ.1.1.1.1 (x3).toNatClampNeg)]) (vsc := [.int (σ.1.1.1.1 (x3).toNatClampNeg)]) lX10_108 insX6_addPublic selX6_addPublic ⟨TX6, 5, rfl⟩ (by omega) (kX6_addPublic (d := 0) (by omega) h) [25, 26] rfl rfl rfl rfl rfl dX10_remember_69 rfl rfl (fun _ _ hh => ?_)
          obtain ⟨τ15, rfl, rfl, h⟩ := hh
          refine ⟨(wX10 G ((σ.1.1, (σ.1.2.1, τ13.1)), ((τ13.2, σ.2.1.2), (τ15, σ.2.2.2)))), [], rfl, rfl, rfl, ?_⟩
          exact aw_X10_remember_72 hd hrec_28 h
def wp_X10_remember (σ : WSX10) (a1 : Int32) (post : WSX10 → Prop) : Prop :=
  wp_X6_begin σ.2.2.2 a1 (fun τ2 => (∃ n19, wp_X10_remember_28  post n19 (σ.1, (σ.2.1, (τ2, σ.2.2.1))) (0 : Int32)))
theorem kX10_remember {G : aw_G} {d : Nat} (hd : 2 ≤ d) {σ : WSX10} {a1 : Int32} {post : WSX10 → Prop} (h : wp_X10_remember σ a1 post) : AC G MX10_remember d 0 0 16 [.ref 0, .int a1] (wX10 G σ) (aw_pv (wX10 G) post) := by
  refine AC.of (lv := [(0, .ref 0), (1, .int a1)]) (by decide) (Nat.le_of_ble_eq_true rfl) rfl ?_
  unfold wp_X10_remember at h
  refine aw_aload_n 0 dX10_remember_0 rfl rfl ?_
  refine aw_getf (v := .ref 27) fX10_24 0 rfl rfl dX10_remember_1 ?_
  refine aw_astore_n (lv' := [(2, .ref 27), (0, .ref 0), (1, .int a1)]) dX10_remember_4 rfl (by decide) rfl ?_
  refine aw_aload_n 1 dX10_remember_5 rfl rfl ?_
  refine aw_aload_n 1 dX10_remember_6 rfl rfl ?_
  refine aw_getf (v := .ref 25) fX10_20 0 rfl rfl dX10_remember_7 ?_
  refine aw_putf fX10_24 0 (w' := [.inr (10, [.ref 2, .ref 3, .ref 12, .ref 1, .ref 25, .ref 25, .int σ.1.1.1.2, .int σ.1.1.2.1, .int σ.1.1.2.2.1, .int σ.1.1.2.2.2]), .inl (G.2.2.1, 200, .inl σ.1.1.1.1), .inr (4, [.ref 16, .ref 17, .ref 18, .ref 19, .ref 20, .ref 21, .ref 22, .ref 23, .ref 24, .int σ.1.2.1.2.2.2.2]), .inr (3, [.ref 10, .ref 4, .ref 5, .ref 6, .ref 7, .ref 8, .ref 9, .int σ.1.2.2.2.1.2, .int σ.1.2.2.2.2.1, .int σ.1.2.2.2.2.2.1, .int σ.1.2.2.2.2.2.2]), .inl (G.2.2.1, 200, .inl σ.1.2.2.1.1.1), .inl (G.2.2.1, 200, .inl σ.1.2.2.1.1.2), .inl (G.2.2.1, 200, .inl σ.1.2.2.1.2.1), .inl (G.2.2.1, 200, .inl σ.1.2.2.1.2.2.1), .inl (G.2.2.1, 200, .inl σ.1.2.2.1.2.2.2), .inl (G.2.2.2.2.1, 200, .inl σ.1.2.2.2.1.1), .inr (8, [.ref 11, .int σ.2.1.1.2]), .inl (G.2.2.2.1, 3000, .inl σ.2.1.1.1), .inr (2, [.ref 13, .ref 14, .ref 15, .int σ.2.1.2.1.2.2, .int σ.2.1.2.2.1.1, .long σ.2.1.2.2.1.2, .int σ.2.1.2.2.2.1, .long σ.2.1.2.2.2.2]), .inl (G.2.2.1, 4096, .inl σ.2.1.2.1.1.1), .inl (G.2.2.1, 32, .inl σ.2.1.2.1.1.2), .inl (G.2.2.1, 32, .inl σ.2.1.2.1.2.1), .inl (G.2.2.1, σ.1.2.1.1.1.1, .inl σ.1.2.1.1.1.2), .inl (G.2.2.1, σ.1.2.1.1.1.1, .inl σ.1.2.1.1.2.1), .inl (G.2.2.1, σ.1.2.1.1.1.1, .inl σ.1.2.1.1.2.2.1), .inl (G.2.2.1, σ.1.2.1.1.1.1, .inl σ.1.2.1.1.2.2.2), .inl (G.2.2.1, σ.1.2.1.1.1.1, .inl σ.1.2.1.2.1.1), .inl (G.2.2.1, σ.1.2.1.1.1.1, .inl σ.1.2.1.2.1.2.1), .inl (G.2.2.1, σ.1.2.1.1.1.1, .inl σ.1.2.1.2.1.2.2), .inl (G.2.2.2.2.1, σ.1.2.1.1.1.1, .inl σ.1.2.1.2.2.1), .inl (G.2.2.2.2.1, σ.1.2.1.1.1.1, .inl σ.1.2.1.2.2.2.1), .inr (6, [.ref 26, .int σ.2.2.1.1.2, .int σ.2.2.1.2.1, .long σ.2.2.1.2.2.1, .long σ.2.2.1.2.2.2]), .inl (G.2.2.1, 200, .inl σ.2.2.1.1.1), .inr (6, [.ref 28, .int σ.2.2.2.1.2, .int σ.2.2.2.2.1, .long σ.2.2.2.2.2.1, .long σ.2.2.2.2.2.2]), .inl (G.2.2.1, 200, .inl σ.2.2.2.1.1)]) rfl (fun _ => ⟨rfl, rfl⟩) (Nat.le_of_ble_eq_true rfl) rfl dX10_remember_10 ?_
  refine aw_aload_n 1 dX10_remember_13 rfl rfl ?_
  refine aw_aload_n 0 dX10_remember_14 rfl rfl ?_
  refine aw_putf fX10_20 0 (w' := [.inr (10, [.ref 2, .ref 3, .ref 12, .ref 1, .ref 27, .ref 25, .int σ.1.1.1.2, .int σ.1.1.2.1, .int σ.1.1.2.2.1, .int σ.1.1.2.2.2]), .inl (G.2.2.1, 200, .inl σ.1.1.1.1), .inr (4, [.ref 16, .ref 17, .ref 18, .ref 19, .ref 20, .ref 21, .ref 22, .ref 23, .ref 24, .int σ.1.2.1.2.2.2.2]), .inr (3, [.ref 10, .ref 4, .ref 5, .ref 6, .ref 7, .ref 8, .ref 9, .int σ.1.2.2.2.1.2, .int σ.1.2.2.2.2.1, .int σ.1.2.2.2.2.2.1, .int σ.1.2.2.2.2.2.2]), .inl (G.2.2.1, 200, .inl σ.1.2.2.1.1.1), .inl (G.2.2.1, 200, .inl σ.1.2.2.1.1.2), .inl (G.2.2.1, 200, .inl σ.1.2.2.1.2.1), .inl (G.2.2.1, 200, .inl σ.1.2.2.1.2.2.1), .inl (G.2.2.1, 200, .inl σ.1.2.2.1.2.2.2), .inl (G.2.2.2.2.1, 200, .inl σ.1.2.2.2.1.1), .inr (8, [.ref 11, .int σ.2.1.1.2]), .inl (G.2.2.2.1, 3000, .inl σ.2.1.1.1), .inr (2, [.ref 13, .ref 14, .ref 15, .int σ.2.1.2.1.2.2, .int σ.2.1.2.2.1.1, .long σ.2.1.2.2.1.2, .int σ.2.1.2.2.2.1, .long σ.2.1.2.2.2.2]), .inl (G.2.2.1, 4096, .inl σ.2.1.2.1.1.1), .inl (G.2.2.1, 32, .inl σ.2.1.2.1.1.2), .inl (G.2.2.1, 32, .inl σ.2.1.2.1.2.1), .inl (G.2.2.1, σ.1.2.1.1.1.1, .inl σ.1.2.1.1.1.2), .inl (G.2.2.1, σ.1.2.1.1.1.1, .inl σ.1.2.1.1.2.1), .inl (G.2.2.1, σ.1.2.1.1.1.1, .inl σ.1.2.1.1.2.2.1), .inl (G.2.2.1, σ.1.2.1.1.1.1, .inl σ.1.2.1.1.2.2.2), .inl (G.2.2.1, σ.1.2.1.1.1.1, .inl σ.1.2.1.2.1.1), .inl (G.2.2.1, σ.1.2.1.1.1.1, .inl σ.1.2.1.2.1.2.1), .inl (G.2.2.1, σ.1.2.1.1.1.1, .inl σ.1.2.1.2.1.2.2), .inl (G.2.2.2.2.1, σ.1.2.1.1.1.1, .inl σ.1.2.1.2.2.1), .inl (G.2.2.2.2.1, σ.1.2.1.1.1.1, .inl σ.1.2.1.2.2.2.1), .inr (6, [.ref 26, .int σ.2.2.1.1.2, .int σ.2.2.1.2.1, .long σ.2.2.1.2.2.1, .long σ.2.2.1.2.2.2]), .inl (G.2.2.1, 200, .inl σ.2.2.1.1.1), .inr (6, [.ref 28, .int σ.2.2.2.1.2, .int σ.2.2.2.2.1, .long σ.2.2.2.2.2.1, .long σ.2.2.2.2.2.2]), .inl (G.2.2.1, 200, .inl σ.2.2.2.1.1)]) rfl (fun _ => ⟨rfl, rfl⟩) (Nat.le_of_ble_eq_true rfl) rfl dX10_remember_15 ?_
  refine aw_lvsub (lv' := [(0, .ref 0), (1, .int a1)]) [1, 2] rfl ?_
  refine aw_pick [0, 1, 2, 3, 4, 5, 6, 7, 8, 9, 10, 11, 12, 13, 14, 15, 16, 17, 18, 19, 20, 21, 22, 23, 24, 27, 28, 25, 26] (lv' := [(0, .ref 0), (1, .int a1)]) (st' := []) (w' := (wX10 G (σ.1, (σ.2.1, (σ.2.2.2, σ.2.2.1))))) rfl rfl rfl rfl ?_
  refine aw_aload_n 0 dX10_remember_18 rfl rfl ?_
  refine aw_getf (v := .ref 25) fX10_20 0 rfl rfl dX10_remember_19 ?_
  refine aw_iload_n 1 dX10_remember_22 rfl rfl ?_
  refine aw_callV (mc1 := 0) (ms1 := 0) (mc := 0) (ms := 0) (st := []) (q := 25) (As := [.int a1]) (vsc := [.int a1]) lX10_102 insX6_begin selX6_begin ⟨TX6, 5, rfl⟩ (by omega) (kX6_begin (d := 0) (by omega) h) [25, 26] rfl rfl rfl rfl rfl dX10_remember_23 rfl rfl (fun _ _ hh => ?_)
  obtain ⟨τ2, rfl, rfl, h⟩ := hh
  refine ⟨(wX10 G (σ.1, (σ.2.1, (τ2, σ.2.2.1)))), [], rfl, rfl, rfl, ?_⟩
  refine aw_iconst (v := (0 : Int32)) dX10_remember_26 (by decide) ?_
  refine aw_istore_n (lv' := [(3, .int (0 : Int32)), (0, .ref 0), (1, .int a1)]) dX10_remember_27 rfl (by decide) rfl ?_
  refine aw_lvsub (lv' := [(0, .ref 0), (3, .int (0 : Int32))]) [1, 0] rfl ?_
  obtain ⟨n19, h⟩ := h
  exact aw_X10_remember_28 hd  n19 (σ.1, (σ.2.1, (τ2, σ.2.2.1))) (0 : Int32) h
def wp_X10_perform_128  (post : Int32 → WSX10 → Prop) (σ : WSX10) (x1 : Int32) (x2 : Int32) (s0 : Int32) : Prop :=
  wp_X2_register σ.2.1.2 (2 : Int32) (fun r17 τ18 => (∀ y19 : Int32, y19 = (x1 - r17) → wp_X2_register τ18 (4 : Int32) (fun r20 τ21 => (∀ y22 : Int32, y22 = (r20 / (4 : Int32)) → wp_X10_remember (((σ.1.1.1, (s0, (y19, y22))), σ.1.2), ((σ.2.1.1, τ21), σ.2.2)) x1 (fun τ24 => post x2 τ24)))))
theorem aw_X10_perform_128 {G : aw_G} {d : Nat} (hd : 6 ≤ d) {post : Int32 → WSX10 → Prop}  {σ : WSX10} {x1 : Int32} {x2 : Int32} {s0 : Int32} (h : wp_X10_perform_128  post σ x1 x2 s0) : AW G MX10_perform d 0 0 16 (aw_pi (wX10 G) post) 128 [(0, .ref 0), (1, .int x1), (2, .int x2)] [.int s0, .ref 0] (wX10 G σ) := by
  unfold wp_X10_perform_128 at h
  refine aw_putf fX10_49 0 (w' := (wX10 G (((σ.1.1.1, (s0, σ.1.1.2.2)), σ.1.2), σ.2))) rfl (fun _ => ⟨rfl, rfl⟩) (Nat.le_of_ble_eq_true rfl) rfl dX10_perform_128 ?_
  refine aw_aload_n 0 dX10_perform_131 rfl rfl ?_
  refine aw_iload_n 1 dX10_perform_132 rfl rfl ?_
  refine aw_aload_n 0 dX10_perform_133 rfl rfl ?_
  refine aw_getf (v := .ref 12) fX10_35 0 rfl rfl dX10_perform_134 ?_
  refine aw_iconst (v := (2 : Int32)) dX10_perform_137 (by decide) ?_
  refine aw_callV (mc1 := 0) (ms1 := 0) (mc := 0) (ms := 0) (st := [.int x1, .ref 0]) (q := 12) (As := [.int (2 : Int32)]) (vsc := [.int (2 : Int32)]) lX10_91 insX2_register selX2_register ⟨TX2, 8, rfl⟩ (by omega) (kX2_register (d := 0) (by omega) h) [12, 13, 14, 15] rfl rfl rfl rfl rfl dX10_perform_138 rfl rfl (fun _ _ hh => ?_)
  obtain ⟨r17, τ18, rfl, rfl, h⟩ := hh
  refine ⟨(wX10 G (((σ.1.1.1, (s0, σ.1.1.2.2)), σ.1.2), ((σ.2.1.1, τ18), σ.2.2))), [.int r17, .int x1, .ref 0], rfl, rfl, rfl, ?_⟩
  refine aw_isub dX10_perform_141 ?_
  refine aw_topi (fun y19 ey19 => ?_)
  have h := h y19 ey19
  refine aw_putf fX10_52 0 (w' := (wX10 G (((σ.1.1.1, (s0, (y19, σ.1.1.2.2.2))), σ.1.2), ((σ.2.1.1, τ18), σ.2.2)))) rfl (fun _ => ⟨rfl, rfl⟩) (Nat.le_of_ble_eq_true rfl) rfl dX10_perform_142 ?_
  refine aw_aload_n 0 dX10_perform_145 rfl rfl ?_
  refine aw_aload_n 0 dX10_perform_146 rfl rfl ?_
  refine aw_getf (v := .ref 12) fX10_35 0 rfl rfl dX10_perform_147 ?_
  refine aw_iconst (v := (4 : Int32)) dX10_perform_150 (by decide) ?_
  refine aw_callV (mc1 := 0) (ms1 := 0) (mc := 0) (ms := 0) (st := [.ref 0]) (q := 12) (As := [.int (4 : Int32)]) (vsc := [.int (4 : Int32)]) lX10_91 insX2_register selX2_register ⟨TX2, 8, rfl⟩ (by omega) (kX2_register (d := 0) (by omega) h) [12, 13, 14, 15] rfl rfl rfl rfl rfl dX10_perform_151 rfl rfl (fun _ _ hh => ?_)
  obtain ⟨r20, τ21, rfl, rfl, h⟩ := hh
  refine ⟨(wX10 G (((σ.1.1.1, (s0, (y19, σ.1.1.2.2.2))), σ.1.2), ((σ.2.1.1, τ21), σ.2.2))), [.int r20, .ref 0], rfl, rfl, rfl, ?_⟩
  refine aw_iconst (v := (4 : Int32)) dX10_perform_154 (by decide) ?_
  refine aw_idiv dX10_perform_155 (by decide) ?_
  refine aw_topi (fun y22 ey22 => ?_)
  have h := h y22 ey22
  refine aw_putf fX10_55 0 (w' := (wX10 G (((σ.1.1.1, (s0, (y19, y22))), σ.1.2), ((σ.2.1.1, τ21), σ.2.2)))) rfl (fun _ => ⟨rfl, rfl⟩) (Nat.le_of_ble_eq_true rfl) rfl dX10_perform_156 ?_
  refine aw_aload_n 0 dX10_perform_159 rfl rfl ?_
  refine aw_iload_n 1 dX10_perform_160 rfl rfl ?_
  refine aw_callV (mc1 := 0) (ms1 := 0) (mc := 0) (ms := 0) (st := []) (q := 0) (As := [.int x1]) (vsc := [.int x1]) lX10_99 insX10_remember selX10_remember ⟨TX10, 10, rfl⟩ (by omega) (kX10_remember (d := 2) (by omega) h) [0, 1, 2, 3, 4, 5, 6, 7, 8, 9, 10, 11, 12, 13, 14, 15, 16, 17, 18, 19, 20, 21, 22, 23, 24, 25, 26, 27, 28] rfl rfl rfl rfl rfl dX10_perform_161 rfl rfl (fun _ _ hh => ?_)
  obtain ⟨τ24, rfl, rfl, h⟩ := hh
  refine ⟨(wX10 G τ24), [], rfl, rfl, rfl, ?_⟩
  refine aw_iload_n 2 dX10_perform_164 rfl rfl ?_
  exact aw_iret rfl dX10_perform_165 ⟨_, τ24, rfl, rfl, h⟩
def wp_X10_perform_64  (post : Int32 → WSX10 → Prop) (σ : WSX10) (x1 : Int32) : Prop :=
  wp_X2_fill σ.2.1.2 (2 : Int32) x1 (fun r5 τ6 => wp_X2_beginAt τ6 (2048 : Int32) (fun r7 τ8 => wp_X2_work τ8 (100000000 : Int32) (fun r9 τ10 => wp_X2_register τ10 (5 : Int32) (fun r11 τ12 => ((¬ r11 = 0 → wp_X2_register τ12 (1 : Int32) (fun r13 τ14 => wp_X4_placeOfBack σ.1.2.1 r13 (fun r15 τ16 => wp_X10_perform_128  post ((σ.1.1, (τ16, σ.1.2.2)), ((σ.2.1.1, τ14), σ.2.2)) x1 r11 r15))) ∧ (r11 = 0 → wp_X10_perform_128  post (σ.1, ((σ.2.1.1, τ12), σ.2.2)) x1 r11 ((-1) : Int32)))))))
theorem aw_X10_perform_64 {G : aw_G} {d : Nat} (hd : 6 ≤ d) {post : Int32 → WSX10 → Prop}  {σ : WSX10} {x1 : Int32} (h : wp_X10_perform_64  post σ x1) : AW G MX10_perform d 0 0 16 (aw_pi (wX10 G) post) 64 [(0, .ref 0), (1, .int x1)] [] (wX10 G σ) := by
  unfold wp_X10_perform_64 at h
  refine aw_aload_n 0 dX10_perform_64 rfl rfl ?_
  refine aw_getf (v := .ref 12) fX10_35 0 rfl rfl dX10_perform_65 ?_
  refine aw_iconst (v := (2 : Int32)) dX10_perform_68 (by decide) ?_
  refine aw_iload_n 1 dX10_perform_69 rfl rfl ?_
  refine aw_callV (mc1 := 0) (ms1 := 0) (mc := 0) (ms := 0) (st := []) (q := 12) (As := [.int (2 : Int32), .int x1]) (vsc := [.int (2 : Int32), .int x1]) lX10_82 insX2_fill selX2_fill ⟨TX2, 8, rfl⟩ (by omega) (kX2_fill (d := 0) (by omega) h) [12, 13, 14, 15] rfl rfl rfl rfl rfl dX10_perform_70 rfl rfl (fun _ _ hh => ?_)
  obtain ⟨r5, τ6, rfl, rfl, h⟩ := hh
  refine ⟨(wX10 G (σ.1, ((σ.2.1.1, τ6), σ.2.2))), [.int r5], rfl, rfl, rfl, ?_⟩
  refine aw_pop dX10_perform_73 rfl ?_
  refine aw_aload_n 0 dX10_perform_74 rfl rfl ?_
  refine aw_getf (v := .ref 12) fX10_35 0 rfl rfl dX10_perform_75 ?_
  refine aw_sipush (v := (2048 : Int32)) dX10_perform_78 (by decide) ?_
  refine aw_callV (mc1 := 0) (ms1 := 0) (mc := 0) (ms := 0) (st := []) (q := 12) (As := [.int (2048 : Int32)]) (vsc := [.int (2048 : Int32)]) lX10_84 insX2_beginAt selX2_beginAt ⟨TX2, 8, rfl⟩ (by omega) (kX2_beginAt (d := 1) (by omega) h) [12, 13, 14, 15] rfl rfl rfl rfl rfl dX10_perform_81 rfl rfl (fun _ _ hh => ?_)
  obtain ⟨r7, τ8, rfl, rfl, h⟩ := hh
  refine ⟨(wX10 G (σ.1, ((σ.2.1.1, τ8), σ.2.2))), [.int r7], rfl, rfl, rfl, ?_⟩
  refine aw_pop dX10_perform_84 rfl ?_
  refine aw_aload_n 0 dX10_perform_85 rfl rfl ?_
  refine aw_getf (v := .ref 12) fX10_35 0 rfl rfl dX10_perform_86 ?_
  refine aw_ldc (v := (100000000 : Int32)) dX10_perform_89 oX10_87 ?_
  refine aw_callV (mc1 := 0) (ms1 := 0) (mc := 0) (ms := 0) (st := []) (q := 12) (As := [.int (100000000 : Int32)]) (vsc := [.int (100000000 : Int32)]) lX10_88 insX2_work selX2_work ⟨TX2, 8, rfl⟩ (by omega) (kX2_work (d := 5) (by omega) h) [12, 13, 14, 15] rfl rfl rfl rfl rfl dX10_perform_91 rfl rfl (fun _ _ hh => ?_)
  obtain ⟨r9, τ10, rfl, rfl, h⟩ := hh
  refine ⟨(wX10 G (σ.1, ((σ.2.1.1, τ10), σ.2.2))), [.int r9], rfl, rfl, rfl, ?_⟩
  refine aw_pop dX10_perform_94 rfl ?_
  refine aw_aload_n 0 dX10_perform_95 rfl rfl ?_
  refine aw_getf (v := .ref 12) fX10_35 0 rfl rfl dX10_perform_96 ?_
  refine aw_iconst (v := (5 : Int32)) dX10_perform_99 (by decide) ?_
  refine aw_callV (mc1 := 0) (ms1 := 0) (mc := 0) (ms := 0) (st := []) (q := 12) (As := [.int (5 : Int32)]) (vsc := [.int (5 : Int32)]) lX10_91 insX2_register selX2_register ⟨TX2, 8, rfl⟩ (by omega) (kX2_register (d := 0) (by omega) h) [12, 13, 14, 15] rfl rfl rfl rfl rfl dX10_perform_100 rfl rfl (fun _ _ hh => ?_)
  obtain ⟨r11, τ12, rfl, rfl, h⟩ := hh
  refine ⟨(wX10 G (σ.1, ((σ.2.1.1, τ12), σ.2.2))), [.int r11], rfl, rfl, rfl, ?_⟩
  refine aw_istore_n (lv' := [(2, .int r11), (0, .ref 0), (1, .int x1)]) dX10_perform_103 rfl (by decide) rfl ?_
  refine aw_aload_n 1 dX10_perform_104 rfl rfl ?_
  refine aw_iload_n 0 dX10_perform_105 rfl rfl ?_
  refine aw_if_ne 113 dX10_perform_106 (by decide) (fun c25 => ?_) (fun c25 => ?_)
  · have h := h.1 c25
    refine aw_aload_n 1 dX10_perform_113 rfl rfl ?_
    refine aw_getf (v := .ref 2) fX10_27 0 rfl rfl dX10_perform_114 ?_
    refine aw_aload_n 1 dX10_perform_117 rfl rfl ?_
    refine aw_getf (v := .ref 12) fX10_35 0 rfl rfl dX10_perform_118 ?_
    refine aw_iconst (v := (1 : Int32)) dX10_perform_121 (by decide) ?_
    refine aw_callV (mc1 := 0) (ms1 := 0) (mc := 0) (ms := 0) (st := [.ref 2, .ref 0]) (q := 12) (As := [.int (1 : Int32)]) (vsc := [.int (1 : Int32)]) lX10_91 insX2_register selX2_register ⟨TX2, 8, rfl⟩ (by omega) (kX2_register (d := 0) (by omega) h) [12, 13, 14, 15] rfl rfl rfl rfl rfl dX10_perform_122 rfl rfl (fun _ _ hh => ?_)
    obtain ⟨r13, τ14, rfl, rfl, h⟩ := hh
    refine ⟨(wX10 G (σ.1, ((σ.2.1.1, τ14), σ.2.2))), [.int r13, .ref 2, .ref 0], rfl, rfl, rfl, ?_⟩
    refine aw_callV (mc1 := 0) (ms1 := 0) (mc := 0) (ms := 0) (st := [.ref 0]) (q := 2) (As := [.int r13]) (vsc := [.int r13]) lX10_94 insX4_placeOfBack selX4_placeOfBack ⟨TX4, 10, rfl⟩ (by omega) (kX4_placeOfBack (d := 2) (by omega) h) [2, 16, 17, 18, 19, 20, 21, 22, 23, 24] rfl rfl rfl rfl rfl dX10_perform_125 rfl rfl (fun _ _ hh => ?_)
    obtain ⟨r15, τ16, rfl, rfl, h⟩ := hh
    refine ⟨(wX10 G ((σ.1.1, (τ16, σ.1.2.2)), ((σ.2.1.1, τ14), σ.2.2))), [.int r15, .ref 0], rfl, rfl, rfl, ?_⟩
    refine aw_lvsub (lv' := [(0, .ref 0), (1, .int x1), (2, .int r11)]) [1, 2, 0] rfl ?_
    exact aw_X10_perform_128 hd  h
  · have h := h.2 c25
    refine aw_iconst (v := ((-1) : Int32)) dX10_perform_109 (by decide) ?_
    refine aw_goto 128 dX10_perform_110 (by decide) ?_
    refine aw_lvsub (lv' := [(0, .ref 0), (1, .int x1), (2, .int r11)]) [1, 2, 0] rfl ?_
    exact aw_X10_perform_128 hd  h
def wb_X10_perform_12  (post : Int32 → WSX10 → Prop) (rec_12 : WSX10 × Int32 × Int32 → Prop) (σ : WSX10) (x1 : Int32) (x2 : Int32) : Prop :=
  wp_X3_inputs (σ.1.2.2, σ.2.1.1)  (fun r3 τ4 => ((r3 ≤ x2 → wp_X10_perform_64  post ((σ.1.1, (σ.1.2.1, τ4.1)), ((τ4.2, σ.2.1.2), σ.2.2)) x1) ∧ (¬ r3 ≤ x2 → (((200 : Int32) ≤ x2 → wp_X10_perform_64  post ((σ.1.1, (σ.1.2.1, τ4.1)), ((τ4.2, σ.2.1.2), σ.2.2)) x1) ∧ (¬ (200 : Int32) ≤ x2 → wp_X3_inputWord τ4 x2 (fun r26 τ27 => (vp_in x2 200 ∧ wp_X2_store σ.2.1.2 ((0 : Int32) + (r26 * (4 : Int32))) (σ.1.1.1.1 (x2).toNatClampNeg) (fun r28 τ29 => rec_12 (((σ.1.1, (σ.1.2.1, τ27.1)), ((τ27.2, τ29), σ.2.2)), x1, (x2 + 1))))))))))
def wp_X10_perform_12  (post : Int32 → WSX10 → Prop) (n : Nat) (σ : WSX10) (x1 : Int32) (x2 : Int32) : Prop := aw_loop (fun r (a : WSX10 × Int32 × Int32) => wb_X10_perform_12  post r a.1 a.2.1 a.2.2) n (σ, x1, x2)
theorem aw_X10_perform_12 {G : aw_G} {d : Nat} (hd : 6 ≤ d) {post : Int32 → WSX10 → Prop}  : ∀ (n : Nat) (σ : WSX10) (x1 : Int32) (x2 : Int32), wp_X10_perform_12  post n σ x1 x2 → AW G MX10_perform d 0 0 16 (aw_pi (wX10 G) post) 12 [(0, .ref 0), (1, .int x1), (2, .int x2)] [] (wX10 G σ) := by
  intro n
  induction n with
  | zero => intro σ x1 x2 h; exact h.elim
  | succ n ih =>
    intro σ x1 x2 h
    have hrec_12 : ∀ a : WSX10 × Int32 × Int32, aw_loop (fun r (a : WSX10 × Int32 × Int32) => wb_X10_perform_12  post r a.1 a.2.1 a.2.2) n a → AW G MX10_perform d 0 0 16 (aw_pi (wX10 G) post) 12 [(0, .ref 0), (1, .int a.2.1), (2, .int a.2.2)] [] (wX10 G a.1) := fun a h => ih a.1 a.2.1 a.2.2 h
    have h : wb_X10_perform_12  post (aw_loop (fun r (a : WSX10 × Int32 × Int32) => wb_X10_perform_12  post r a.1 a.2.1 a.2.2) n) σ x1 x2 := h
    unfold wb_X10_perform_12 at h
    refine aw_iload_n 2 dX10_perform_12 rfl rfl ?_
    refine aw_aload_n 0 dX10_perform_13 rfl rfl ?_
    refine aw_getf (v := .ref 3) fX10_31 0 rfl rfl dX10_perform_14 ?_
    refine aw_callV (mc1 := 0) (ms1 := 0) (mc := 0) (ms := 0) (st := [.int x2]) (q := 3) (As := []) (vsc := []) lX10_70 insX3_inputs selX3_inputs ⟨TX3, 11, rfl⟩ (by omega) (kX3_inputs (d := 0) (by omega) h) [3, 4, 5, 6, 7, 8, 9, 10, 11] rfl rfl rfl rfl rfl dX10_perform_17 rfl rfl (fun _ _ hh => ?_)
    obtain ⟨r3, τ4, rfl, rfl, h⟩ := hh
    refine ⟨(wX10 G ((σ.1.1, (σ.1.2.1, τ4.1)), ((τ4.2, σ.2.1.2), σ.2.2))), [.int r3, .int x2], rfl, rfl, rfl, ?_⟩
    refine aw_icmp_ge 64 dX10_perform_20 (by decide) (fun c31 => ?_) (fun c31 => ?_)
    · have h := h.1 c31
      refine aw_lvsub (lv' := [(0, .ref 0), (1, .int x1)]) [0, 1] rfl ?_
      exact aw_X10_perform_64 hd  h
    · have h := h.2 c31
      refine aw_iload_n 2 dX10_perform_23 rfl rfl ?_
      refine aw_aload_n 0 dX10_perform_24 rfl rfl ?_
      refine aw_getf (v := .ref 1) fX10_11 0 rfl rfl dX10_perform_25 ?_
      refine aw_alen 1 0 (v := (200 : Int32)) rfl rfl rfl dX10_perform_28 ?_
      refine aw_icmp_ge 64 dX10_perform_29 (by decide) (fun c30 => ?_) (fun c30 => ?_)
      · have h := h.1 c30
        refine aw_lvsub (lv' := [(0, .ref 0), (1, .int x1)]) [0, 1] rfl ?_
        exact aw_X10_perform_64 hd  h
      · have h := h.2 c30
        refine aw_aload_n 0 dX10_perform_32 rfl rfl ?_
        refine aw_getf (v := .ref 12) fX10_35 0 rfl rfl dX10_perform_33 ?_
        refine aw_iconst (v := (0 : Int32)) dX10_perform_36 (by decide) ?_
        refine aw_aload_n 0 dX10_perform_37 rfl rfl ?_
        refine aw_getf (v := .ref 3) fX10_31 0 rfl rfl dX10_perform_38 ?_
        refine aw_iload_n 2 dX10_perform_41 rfl rfl ?_
        refine aw_callV (mc1 := 0) (ms1 := 0) (mc := 0) (ms := 0) (st := [.int (0 : Int32), .ref 12]) (q := 3) (As := [.int x2]) (vsc := [.int x2]) lX10_74 insX3_inputWord selX3_inputWord ⟨TX3, 11, rfl⟩ (by omega) (kX3_inputWord (d := 1) (by omega) h) [3, 4, 5, 6, 7, 8, 9, 10, 11] rfl rfl rfl rfl rfl dX10_perform_42 rfl rfl (fun _ _ hh => ?_)
        obtain ⟨r26, τ27, rfl, rfl, h⟩ := hh
        refine ⟨(wX10 G ((σ.1.1, (σ.1.2.1, τ27.1)), ((τ27.2, σ.2.1.2), σ.2.2))), [.int r26, .int (0 : Int32), .ref 12], rfl, rfl, rfl, ?_⟩
        refine aw_iconst (v := (4 : Int32)) dX10_perform_45 (by decide) ?_
        refine aw_imul dX10_perform_46 ?_
        refine aw_iadd dX10_perform_47 ?_
        refine aw_aload_n 0 dX10_perform_48 rfl rfl ?_
        refine aw_getf (v := .ref 1) fX10_11 0 rfl rfl dX10_perform_49 ?_
        refine aw_iload_n 2 dX10_perform_52 rfl rfl ?_
        refine aw_iald 1 (n := 200) (f := σ.1.1.1.1) rfl h.1 dX10_perform_53 ?_
        have h := h.2
        refine aw_callV (mc1 := 0) (ms1 := 0) (mc := 0) (ms := 0) (st := []) (q := 12) (As := [.int ((0 : Int32) + (r26 * (4 : Int32))), .int (σ.1.1.1.1 (x2).toNatClampNeg)]) (vsc := [.int ((0 : Int32) + (r26 * (4 : Int32))), .int (σ.1.1.1.1 (x2).toNatClampNeg)]) lX10_78 insX2_store selX2_store ⟨TX2, 8, rfl⟩ (by omega) (kX2_store (d := 1) (by omega) h) [12, 13, 14, 15] rfl rfl rfl rfl rfl dX10_perform_54 rfl rfl (fun _ _ hh => ?_)
        obtain ⟨r28, τ29, rfl, rfl, h⟩ := hh
        refine ⟨(wX10 G ((σ.1.1, (σ.1.2.1, τ27.1)), ((τ27.2, τ29), σ.2.2))), [.int r28], rfl, rfl, rfl, ?_⟩
        refine aw_pop dX10_perform_57 rfl ?_
        refine aw_iinc 2 (v := (x2 + 1)) (lv' := [(2, .int (x2 + 1)), (0, .ref 0), (1, .int x1)]) dX10_perform_58 rfl rfl (by decide) rfl ?_
        refine aw_goto 12 dX10_perform_61 (by decide) ?_
        refine aw_lvsub (lv' := [(0, .ref 0), (1, .int x1), (2, .int (x2 + 1))]) [1, 2, 0] rfl ?_
        exact hrec_12 (((σ.1.1, (σ.1.2.1, τ27.1)), ((τ27.2, τ29), σ.2.2)), x1, (x2 + 1)) h
def wp_X10_perform (σ : WSX10) (a1 : Int32) (post : Int32 → WSX10 → Prop) : Prop :=
  wp_X2_wipe σ.2.1.2 (2048 : Int32) (fun τ2 => (∃ n32, wp_X10_perform_12  post n32 (σ.1, ((σ.2.1.1, τ2), σ.2.2)) a1 (0 : Int32)))
theorem kX10_perform {G : aw_G} {d : Nat} (hd : 6 ≤ d) {σ : WSX10} {a1 : Int32} {post : Int32 → WSX10 → Prop} (h : wp_X10_perform σ a1 post) : AC G MX10_perform d 0 0 16 [.ref 0, .int a1] (wX10 G σ) (aw_pi (wX10 G) post) := by
  refine AC.of (lv := [(0, .ref 0), (1, .int a1)]) (by decide) (Nat.le_of_ble_eq_true rfl) rfl ?_
  unfold wp_X10_perform at h
  refine aw_aload_n 0 dX10_perform_0 rfl rfl ?_
  refine aw_getf (v := .ref 12) fX10_35 0 rfl rfl dX10_perform_1 ?_
  refine aw_sipush (v := (2048 : Int32)) dX10_perform_4 (by decide) ?_
  refine aw_callV (mc1 := 0) (ms1 := 0) (mc := 0) (ms := 0) (st := []) (q := 12) (As := [.int (2048 : Int32)]) (vsc := [.int (2048 : Int32)]) lX10_64 insX2_wipe selX2_wipe ⟨TX2, 8, rfl⟩ (by omega) (kX2_wipe (d := 1) (by omega) h) [12, 13, 14, 15] rfl rfl rfl rfl rfl dX10_perform_7 rfl rfl (fun _ _ hh => ?_)
  obtain ⟨τ2, rfl, rfl, h⟩ := hh
  refine ⟨(wX10 G (σ.1, ((σ.2.1.1, τ2), σ.2.2))), [], rfl, rfl, rfl, ?_⟩
  refine aw_iconst (v := (0 : Int32)) dX10_perform_10 (by decide) ?_
  refine aw_istore_n (lv' := [(2, .int (0 : Int32)), (0, .ref 0), (1, .int a1)]) dX10_perform_11 rfl (by decide) rfl ?_
  refine aw_lvsub (lv' := [(0, .ref 0), (1, .int a1), (2, .int (0 : Int32))]) [1, 2, 0] rfl ?_
  obtain ⟨n32, h⟩ := h
  exact aw_X10_perform_12 hd  n32 (σ.1, ((σ.2.1.1, τ2), σ.2.2)) a1 (0 : Int32) h
def wp_X10_telling (σ : WSX10) (a1 : Int32) (post : Int32 → WSX10 → Prop) : Prop :=
  wp_X10_hasRun σ  (fun r1 τ2 => ((r1 = 0 → post (0 : Int32) τ2) ∧ (¬ r1 = 0 → ((a1 < 0 → post (0 : Int32) τ2) ∧ (¬ a1 < 0 → ((τ2.1.1.2.2.2 ≤ a1 → post (0 : Int32) τ2) ∧ (¬ τ2.1.1.2.2.2 ≤ a1 → wp_X2_fetch τ2.2.1.2 ((800 : Int32) + (a1 * (4 : Int32))) (fun r3 τ4 => post r3 (τ2.1, ((τ2.2.1.1, τ4), τ2.2.2))))))))))
theorem kX10_telling {G : aw_G} {d : Nat} (hd : 2 ≤ d) {σ : WSX10} {a1 : Int32} {post : Int32 → WSX10 → Prop} (h : wp_X10_telling σ a1 post) : AC G MX10_telling d 0 0 29 [.ref 0, .int a1] (wX10 G σ) (aw_pi (wX10 G) post) := by
  refine AC.of (lv := [(0, .ref 0), (1, .int a1)]) (by decide) (Nat.le_of_ble_eq_true rfl) rfl ?_
  unfold wp_X10_telling at h
  refine aw_aload_n 0 dX10_telling_0 rfl rfl ?_
  refine aw_callVT (mc1 := 0) (ms1 := 0) (mc := 0) (ms := 0) (st := []) (q := 0) (As := []) lX10_128 insX10_hasRun selX10_hasRun ⟨TX10, 10, rfl⟩ (by omega) (kX10_hasRun (d := 0) (by omega) h) (Nat.le_of_ble_eq_true rfl) rfl rfl rfl dX10_telling_1 rfl (fun _ _ hh => ?_)
  obtain ⟨r1, τ2, rfl, rfl, h⟩ := hh
  refine aw_stk (st' := [.int r1]) rfl ?_
  refine aw_if_eq 36 dX10_telling_4 (by decide) (fun c7 => ?_) (fun c7 => ?_)
  · have h := h.1 c7
    refine aw_iconst (v := (0 : Int32)) dX10_telling_36 (by decide) ?_
    exact aw_iret rfl dX10_telling_37 ⟨_, τ2, rfl, rfl, h⟩
  · have h := h.2 c7
    refine aw_iload_n 1 dX10_telling_7 rfl rfl ?_
    refine aw_if_lt 36 dX10_telling_8 (by decide) (fun c6 => ?_) (fun c6 => ?_)
    · have h := h.1 c6
      refine aw_iconst (v := (0 : Int32)) dX10_telling_36 (by decide) ?_
      exact aw_iret rfl dX10_telling_37 ⟨_, τ2, rfl, rfl, h⟩
    · have h := h.2 c6
      refine aw_iload_n 1 dX10_telling_11 rfl rfl ?_
      refine aw_aload_n 0 dX10_telling_12 rfl rfl ?_
      refine aw_getf (v := .int τ2.1.1.2.2.2) fX10_55 0 rfl rfl dX10_telling_13 ?_
      refine aw_icmp_ge 36 dX10_telling_16 (by decide) (fun c5 => ?_) (fun c5 => ?_)
      · have h := h.1 c5
        refine aw_iconst (v := (0 : Int32)) dX10_telling_36 (by decide) ?_
        exact aw_iret rfl dX10_telling_37 ⟨_, τ2, rfl, rfl, h⟩
      · have h := h.2 c5
        refine aw_aload_n 0 dX10_telling_19 rfl rfl ?_
        refine aw_getf (v := .ref 12) fX10_35 0 rfl rfl dX10_telling_20 ?_
        refine aw_sipush (v := (800 : Int32)) dX10_telling_23 (by decide) ?_
        refine aw_iload_n 1 dX10_telling_26 rfl rfl ?_
        refine aw_iconst (v := (4 : Int32)) dX10_telling_27 (by decide) ?_
        refine aw_imul dX10_telling_28 ?_
        refine aw_iadd dX10_telling_29 ?_
        refine aw_callV (mc1 := 0) (ms1 := 0) (mc := 0) (ms := 0) (st := []) (q := 12) (As := [.int ((800 : Int32) + (a1 * (4 : Int32)))]) (vsc := [.int ((800 : Int32) + (a1 * (4 : Int32)))]) lX10_132 insX2_fetch selX2_fetch ⟨TX2, 8, rfl⟩ (by omega) (kX2_fetch (d := 1) (by omega) h) [12, 13, 14, 15] rfl rfl rfl rfl rfl dX10_telling_30 rfl rfl (fun _ _ hh => ?_)
        obtain ⟨r3, τ4, rfl, rfl, h⟩ := hh
        refine ⟨(wX10 G (τ2.1, ((τ2.2.1.1, τ4), τ2.2.2))), [.int r3], rfl, rfl, rfl, ?_⟩
        refine aw_goto 37 dX10_telling_33 (by decide) ?_
        exact aw_iret rfl dX10_telling_37 ⟨_, (τ2.1, ((τ2.2.1.1, τ4), τ2.2.2)), rfl, rfl, h⟩
def wp_X10_wordLeft (σ : WSX10) (a1 : Int32) (post : Int32 → WSX10 → Prop) : Prop :=
  wp_X10_hasRun σ  (fun r1 τ2 => ((r1 = 0 → post (0 : Int32) τ2) ∧ (¬ r1 = 0 → ((a1 < 0 → post (0 : Int32) τ2) ∧ (¬ a1 < 0 → wp_X3_words (τ2.1.2.2, τ2.2.1.1)  (fun r3 τ4 => ((r3 ≤ a1 → post (0 : Int32) ((τ2.1.1, (τ2.1.2.1, τ4.1)), ((τ4.2, τ2.2.1.2), τ2.2.2))) ∧ (¬ r3 ≤ a1 → wp_X2_fetch τ2.2.1.2 ((0 : Int32) + (a1 * (4 : Int32))) (fun r5 τ6 => post r5 ((τ2.1.1, (τ2.1.2.1, τ4.1)), ((τ4.2, τ6), τ2.2.2)))))))))))
theorem kX10_wordLeft {G : aw_G} {d : Nat} (hd : 2 ≤ d) {σ : WSX10} {a1 : Int32} {post : Int32 → WSX10 → Prop} (h : wp_X10_wordLeft σ a1 post) : AC G MX10_wordLeft d 0 0 29 [.ref 0, .int a1] (wX10 G σ) (aw_pi (wX10 G) post) := by
  refine AC.of (lv := [(0, .ref 0), (1, .int a1)]) (by decide) (Nat.le_of_ble_eq_true rfl) rfl ?_
  unfold wp_X10_wordLeft at h
  refine aw_aload_n 0 dX10_wordLeft_0 rfl rfl ?_
  refine aw_callVT (mc1 := 0) (ms1 := 0) (mc := 0) (ms := 0) (st := []) (q := 0) (As := []) lX10_128 insX10_hasRun selX10_hasRun ⟨TX10, 10, rfl⟩ (by omega) (kX10_hasRun (d := 0) (by omega) h) (Nat.le_of_ble_eq_true rfl) rfl rfl rfl dX10_wordLeft_1 rfl (fun _ _ hh => ?_)
  obtain ⟨r1, τ2, rfl, rfl, h⟩ := hh
  refine aw_stk (st' := [.int r1]) rfl ?_
  refine aw_if_eq 37 dX10_wordLeft_4 (by decide) (fun c9 => ?_) (fun c9 => ?_)
  · have h := h.1 c9
    refine aw_iconst (v := (0 : Int32)) dX10_wordLeft_37 (by decide) ?_
    exact aw_iret rfl dX10_wordLeft_38 ⟨_, τ2, rfl, rfl, h⟩
  · have h := h.2 c9
    refine aw_iload_n 1 dX10_wordLeft_7 rfl rfl ?_
    refine aw_if_lt 37 dX10_wordLeft_8 (by decide) (fun c8 => ?_) (fun c8 => ?_)
    · have h := h.1 c8
      refine aw_iconst (v := (0 : Int32)) dX10_wordLeft_37 (by decide) ?_
      exact aw_iret rfl dX10_wordLeft_38 ⟨_, τ2, rfl, rfl, h⟩
    · have h := h.2 c8
      refine aw_iload_n 1 dX10_wordLeft_11 rfl rfl ?_
      refine aw_aload_n 0 dX10_wordLeft_12 rfl rfl ?_
      refine aw_getf (v := .ref 3) fX10_31 0 rfl rfl dX10_wordLeft_13 ?_
      refine aw_callV (mc1 := 0) (ms1 := 0) (mc := 0) (ms := 0) (st := [.int a1]) (q := 3) (As := []) (vsc := []) lX10_135 insX3_words selX3_words ⟨TX3, 11, rfl⟩ (by omega) (kX3_words (d := 0) (by omega) h) [3, 4, 5, 6, 7, 8, 9, 10, 11] rfl rfl rfl rfl rfl dX10_wordLeft_16 rfl rfl (fun _ _ hh => ?_)
      obtain ⟨r3, τ4, rfl, rfl, h⟩ := hh
      refine ⟨(wX10 G ((τ2.1.1, (τ2.1.2.1, τ4.1)), ((τ4.2, τ2.2.1.2), τ2.2.2))), [.int r3, .int a1], rfl, rfl, rfl, ?_⟩
      refine aw_icmp_ge 37 dX10_wordLeft_19 (by decide) (fun c7 => ?_) (fun c7 => ?_)
      · have h := h.1 c7
        refine aw_iconst (v := (0 : Int32)) dX10_wordLeft_37 (by decide) ?_
        exact aw_iret rfl dX10_wordLeft_38 ⟨_, ((τ2.1.1, (τ2.1.2.1, τ4.1)), ((τ4.2, τ2.2.1.2), τ2.2.2)), rfl, rfl, h⟩
      · have h := h.2 c7
        refine aw_aload_n 0 dX10_wordLeft_22 rfl rfl ?_
        refine aw_getf (v := .ref 12) fX10_35 0 rfl rfl dX10_wordLeft_23 ?_
        refine aw_iconst (v := (0 : Int32)) dX10_wordLeft_26 (by decide) ?_
        refine aw_iload_n 1 dX10_wordLeft_27 rfl rfl ?_
        refine aw_iconst (v := (4 : Int32)) dX10_wordLeft_28 (by decide) ?_
        refine aw_imul dX10_wordLeft_29 ?_
        refine aw_iadd dX10_wordLeft_30 ?_
        refine aw_callV (mc1 := 0) (ms1 := 0) (mc := 0) (ms := 0) (st := []) (q := 12) (As := [.int ((0 : Int32) + (a1 * (4 : Int32)))]) (vsc := [.int ((0 : Int32) + (a1 * (4 : Int32)))]) lX10_132 insX2_fetch selX2_fetch ⟨TX2, 8, rfl⟩ (by omega) (kX2_fetch (d := 1) (by omega) h) [12, 13, 14, 15] rfl rfl rfl rfl rfl dX10_wordLeft_31 rfl rfl (fun _ _ hh => ?_)
        obtain ⟨r5, τ6, rfl, rfl, h⟩ := hh
        refine ⟨(wX10 G ((τ2.1.1, (τ2.1.2.1, τ4.1)), ((τ4.2, τ6), τ2.2.2))), [.int r5], rfl, rfl, rfl, ?_⟩
        refine aw_goto 38 dX10_wordLeft_34 (by decide) ?_
        exact aw_iret rfl dX10_wordLeft_38 ⟨_, ((τ2.1.1, (τ2.1.2.1, τ4.1)), ((τ4.2, τ6), τ2.2.2)), rfl, rfl, h⟩
def wp_X10_lastTwoAlike (σ : WSX10) (post : Int32 → WSX10 → Prop) : Prop :=
  ((σ.1.1.1.2 < (2 : Int32) → post (1 : Int32) σ) ∧ (¬ σ.1.1.1.2 < (2 : Int32) → wp_X6_sameFrom σ.2.2  (fun r1 τ2 => ((r1 = 0 → post (1 : Int32) (σ.1, (σ.2.1, τ2))) ∧ (¬ r1 = 0 → wp_X6_sameSeen τ2  (fun r3 τ4 => ((r3 = 0 → post (0 : Int32) (σ.1, (σ.2.1, τ4))) ∧ (¬ r3 = 0 → post (1 : Int32) (σ.1, (σ.2.1, τ4))))))))))
theorem kX10_lastTwoAlike {G : aw_G} {d : Nat} (hd : 1 ≤ d) {σ : WSX10} {post : Int32 → WSX10 → Prop} (h : wp_X10_lastTwoAlike σ post) : AC G MX10_lastTwoAlike d 0 0 29 [.ref 0] (wX10 G σ) (aw_pi (wX10 G) post) := by
  refine AC.of (lv := [(0, .ref 0)]) (by decide) (Nat.le_of_ble_eq_true rfl) rfl ?_
  unfold wp_X10_lastTwoAlike at h
  refine aw_aload_n 0 dX10_lastTwoAlike_0 rfl rfl ?_
  refine aw_getf (v := .int σ.1.1.1.2) fX10_45 0 rfl rfl dX10_lastTwoAlike_1 ?_
  refine aw_iconst (v := (2 : Int32)) dX10_lastTwoAlike_4 (by decide) ?_
  refine aw_icmp_lt 36 dX10_lastTwoAlike_5 (by decide) (fun c7 => ?_) (fun c7 => ?_)
  · have h := h.1 c7
    refine aw_iconst (v := (1 : Int32)) dX10_lastTwoAlike_36 (by decide) ?_
    refine aw_goto 41 dX10_lastTwoAlike_37 (by decide) ?_
    exact aw_zret rfl rfl dX10_lastTwoAlike_41 ⟨_, σ, rfl, rfl, h⟩
  · have h := h.2 c7
    refine aw_aload_n 0 dX10_lastTwoAlike_8 rfl rfl ?_
    refine aw_getf (v := .ref 25) fX10_20 0 rfl rfl dX10_lastTwoAlike_9 ?_
    refine aw_aload_n 0 dX10_lastTwoAlike_12 rfl rfl ?_
    refine aw_getf (v := .ref 27) fX10_24 0 rfl rfl dX10_lastTwoAlike_13 ?_
    refine aw_callV (mc1 := 0) (ms1 := 0) (mc := 0) (ms := 0) (st := []) (q := 25) (As := [.ref 27]) (vsc := [.ref 2]) lX10_138 insX6_sameFrom selX6_sameFrom ⟨TX6, 5, rfl⟩ (by omega) (kX6_sameFrom (d := 0) (by omega) h) [25, 26, 27, 28] rfl rfl rfl rfl rfl dX10_lastTwoAlike_16 rfl rfl (fun _ _ hh => ?_)
    obtain ⟨r1, τ2, rfl, rfl, h⟩ := hh
    refine ⟨(wX10 G (σ.1, (σ.2.1, τ2))), [.int r1], rfl, rfl, rfl, ?_⟩
    refine aw_if_eq 36 dX10_lastTwoAlike_19 (by decide) (fun c6 => ?_) (fun c6 => ?_)
    · have h := h.1 c6
      refine aw_iconst (v := (1 : Int32)) dX10_lastTwoAlike_36 (by decide) ?_
      refine aw_goto 41 dX10_lastTwoAlike_37 (by decide) ?_
      exact aw_zret rfl rfl dX10_lastTwoAlike_41 ⟨_, (σ.1, (σ.2.1, τ2)), rfl, rfl, h⟩
    · have h := h.2 c6
      refine aw_aload_n 0 dX10_lastTwoAlike_22 rfl rfl ?_
      refine aw_getf (v := .ref 25) fX10_20 0 rfl rfl dX10_lastTwoAlike_23 ?_
      refine aw_aload_n 0 dX10_lastTwoAlike_26 rfl rfl ?_
      refine aw_getf (v := .ref 27) fX10_24 0 rfl rfl dX10_lastTwoAlike_27 ?_
      refine aw_callV (mc1 := 0) (ms1 := 0) (mc := 0) (ms := 0) (st := []) (q := 25) (As := [.ref 27]) (vsc := [.ref 2]) lX10_142 insX6_sameSeen selX6_sameSeen ⟨TX6, 5, rfl⟩ (by omega) (kX6_sameSeen (d := 0) (by omega) h) [25, 26, 27, 28] rfl rfl rfl rfl rfl dX10_lastTwoAlike_30 rfl rfl (fun _ _ hh => ?_)
      obtain ⟨r3, τ4, rfl, rfl, h⟩ := hh
      refine ⟨(wX10 G (σ.1, (σ.2.1, τ4))), [.int r3], rfl, rfl, rfl, ?_⟩
      refine aw_if_eq 40 dX10_lastTwoAlike_33 (by decide) (fun c5 => ?_) (fun c5 => ?_)
      · have h := h.1 c5
        refine aw_iconst (v := (0 : Int32)) dX10_lastTwoAlike_40 (by decide) ?_
        exact aw_zret rfl rfl dX10_lastTwoAlike_41 ⟨_, (σ.1, (σ.2.1, τ4)), rfl, rfl, h⟩
      · have h := h.2 c5
        refine aw_iconst (v := (1 : Int32)) dX10_lastTwoAlike_36 (by decide) ?_
        refine aw_goto 41 dX10_lastTwoAlike_37 (by decide) ?_
        exact aw_zret rfl rfl dX10_lastTwoAlike_41 ⟨_, (σ.1, (σ.2.1, τ4)), rfl, rfl, h⟩
end WalkX10
