section WalkX2
def wp_X2_place (σ : WSX2) (post : Int32 → WSX2 → Prop) : Prop :=
  post σ.1.2.2 σ
theorem kX2_place {G : aw_G} {d : Nat} (hd : 0 ≤ d) {σ : WSX2} {post : Int32 → WSX2 → Prop} (h : wp_X2_place σ post) : AC G MX2_place d 0 0 4 [.ref 0] (wX2 G σ) (aw_pi (wX2 G) post) := by
  refine AC.of (lv := [(0, .ref 0)]) (by decide) (Nat.le_of_ble_eq_true rfl) rfl ?_
  unfold wp_X2_place at h
  refine aw_aload_n 0 dX2_place_0 rfl rfl ?_
  refine aw_getf (v := .int σ.1.2.2) fX2_19 0 rfl rfl dX2_place_1 ?_
  exact aw_iret rfl dX2_place_4 ⟨_, σ, rfl, rfl, h⟩
def wp_X2_ordersDone (σ : WSX2) (post : Int32 → WSX2 → Prop) : Prop :=
  post σ.2.1.1 σ
theorem kX2_ordersDone {G : aw_G} {d : Nat} (hd : 0 ≤ d) {σ : WSX2} {post : Int32 → WSX2 → Prop} (h : wp_X2_ordersDone σ post) : AC G MX2_ordersDone d 0 0 4 [.ref 0] (wX2 G σ) (aw_pi (wX2 G) post) := by
  refine AC.of (lv := [(0, .ref 0)]) (by decide) (Nat.le_of_ble_eq_true rfl) rfl ?_
  unfold wp_X2_ordersDone at h
  refine aw_aload_n 0 dX2_ordersDone_0 rfl rfl ?_
  refine aw_getf (v := .int σ.2.1.1) fX2_23 0 rfl rfl dX2_ordersDone_1 ?_
  exact aw_iret rfl dX2_ordersDone_4 ⟨_, σ, rfl, rfl, h⟩
def wp_X2_cycles (σ : WSX2) (post : Int64 → WSX2 → Prop) : Prop :=
  post σ.2.1.2 σ
theorem kX2_cycles {G : aw_G} {d : Nat} (hd : 0 ≤ d) {σ : WSX2} {post : Int64 → WSX2 → Prop} (h : wp_X2_cycles σ post) : AC G MX2_cycles d 0 0 4 [.ref 0] (wX2 G σ) (aw_pl (wX2 G) post) := by
  refine AC.of (lv := [(0, .ref 0)]) (by decide) (Nat.le_of_ble_eq_true rfl) rfl ?_
  unfold wp_X2_cycles at h
  refine aw_aload_n 0 dX2_cycles_0 rfl rfl ?_
  refine aw_getf (v := .long σ.2.1.2) fX2_26 0 rfl rfl dX2_cycles_1 ?_
  exact aw_lret rfl dX2_cycles_4 ⟨_, σ, rfl, rfl, h⟩
def wp_X2_misses (σ : WSX2) (post : Int32 → WSX2 → Prop) : Prop :=
  post σ.2.2.1 σ
theorem kX2_misses {G : aw_G} {d : Nat} (hd : 0 ≤ d) {σ : WSX2} {post : Int32 → WSX2 → Prop} (h : wp_X2_misses σ post) : AC G MX2_misses d 0 0 4 [.ref 0] (wX2 G σ) (aw_pi (wX2 G) post) := by
  refine AC.of (lv := [(0, .ref 0)]) (by decide) (Nat.le_of_ble_eq_true rfl) rfl ?_
  unfold wp_X2_misses at h
  refine aw_aload_n 0 dX2_misses_0 rfl rfl ?_
  refine aw_getf (v := .int σ.2.2.1) fX2_30 0 rfl rfl dX2_misses_1 ?_
  exact aw_iret rfl dX2_misses_4 ⟨_, σ, rfl, rfl, h⟩
def wp_X2_events (σ : WSX2) (post : Int64 → WSX2 → Prop) : Prop :=
  post σ.2.2.2 σ
theorem kX2_events {G : aw_G} {d : Nat} (hd : 0 ≤ d) {σ : WSX2} {post : Int64 → WSX2 → Prop} (h : wp_X2_events σ post) : AC G MX2_events d 0 0 4 [.ref 0] (wX2 G σ) (aw_pl (wX2 G) post) := by
  refine AC.of (lv := [(0, .ref 0)]) (by decide) (Nat.le_of_ble_eq_true rfl) rfl ?_
  unfold wp_X2_events at h
  refine aw_aload_n 0 dX2_events_0 rfl rfl ?_
  refine aw_getf (v := .long σ.2.2.2) fX2_33 0 rfl rfl dX2_events_1 ?_
  exact aw_lret rfl dX2_events_4 ⟨_, σ, rfl, rfl, h⟩
def wp_X2_isPlace (a0 : Int32) (post : Int32 → Unit → Prop) : Prop :=
  ((a0 < 0 → post (0 : Int32) ()) ∧ (¬ a0 < 0 → (((16384 : Int32) ≤ a0 → post (0 : Int32) ()) ∧ (¬ (16384 : Int32) ≤ a0 → ((¬ (a0 &&& (3 : Int32)) = 0 → post (0 : Int32) ()) ∧ ((a0 &&& (3 : Int32)) = 0 → post (1 : Int32) ()))))))
theorem kX2_isPlace {G : aw_G} {d : Nat} (hd : 0 ≤ d) {a0 : Int32} {post : Int32 → Unit → Prop} (h : wp_X2_isPlace a0 post) : AC G MX2_isPlace d 0 0 0 [.int a0] [] (aw_pi (fun _ : Unit => []) post) := by
  refine AC.of (lv := [(0, .int a0)]) (by decide) (Nat.le_of_ble_eq_true rfl) rfl ?_
  unfold wp_X2_isPlace at h
  refine aw_iload_n 0 dX2_isPlace_0 rfl rfl ?_
  refine aw_if_lt 21 dX2_isPlace_1 (by decide) (fun c3 => ?_) (fun c3 => ?_)
  · have h := h.1 c3
    refine aw_iconst (v := (0 : Int32)) dX2_isPlace_21 (by decide) ?_
    exact aw_zret rfl rfl dX2_isPlace_22 ⟨_, (), rfl, rfl, h⟩
  · have h := h.2 c3
    refine aw_iload_n 0 dX2_isPlace_4 rfl rfl ?_
    refine aw_sipush (v := (16384 : Int32)) dX2_isPlace_5 (by decide) ?_
    refine aw_icmp_ge 21 dX2_isPlace_8 (by decide) (fun c2 => ?_) (fun c2 => ?_)
    · have h := h.1 c2
      refine aw_iconst (v := (0 : Int32)) dX2_isPlace_21 (by decide) ?_
      exact aw_zret rfl rfl dX2_isPlace_22 ⟨_, (), rfl, rfl, h⟩
    · have h := h.2 c2
      refine aw_iload_n 0 dX2_isPlace_11 rfl rfl ?_
      refine aw_iconst (v := (3 : Int32)) dX2_isPlace_12 (by decide) ?_
      refine aw_iand dX2_isPlace_13 ?_
      refine aw_if_ne 21 dX2_isPlace_14 (by decide) (fun c1 => ?_) (fun c1 => ?_)
      · have h := h.1 c1
        refine aw_iconst (v := (0 : Int32)) dX2_isPlace_21 (by decide) ?_
        exact aw_zret rfl rfl dX2_isPlace_22 ⟨_, (), rfl, rfl, h⟩
      · have h := h.2 c1
        refine aw_iconst (v := (1 : Int32)) dX2_isPlace_17 (by decide) ?_
        refine aw_goto 22 dX2_isPlace_18 (by decide) ?_
        exact aw_zret rfl rfl dX2_isPlace_22 ⟨_, (), rfl, rfl, h⟩
def wp_X2_store (σ : WSX2) (a1 : Int32) (a2 : Int32) (post : Int32 → WSX2 → Prop) : Prop :=
  wp_X2_isPlace a1 (fun r1 τ2 => ((¬ r1 = 0 → (vp_in (a1 >>> ((2 : Int32) &&& 31)) 4096 ∧ ∀ y3 : Nat → Int32, y3 = upd σ.1.1.1 ((a1 >>> ((2 : Int32) &&& 31))).toNatClampNeg a2 → post (1 : Int32) (((y3, σ.1.1.2), σ.1.2), σ.2))) ∧ (r1 = 0 → post (0 : Int32) σ)))
theorem kX2_store {G : aw_G} {d : Nat} (hd : 1 ≤ d) {σ : WSX2} {a1 : Int32} {a2 : Int32} {post : Int32 → WSX2 → Prop} (h : wp_X2_store σ a1 a2 post) : AC G MX2_store d 0 0 4 [.ref 0, .int a1, .int a2] (wX2 G σ) (aw_pi (wX2 G) post) := by
  refine AC.of (lv := [(0, .ref 0), (1, .int a1), (2, .int a2)]) (by decide) (Nat.le_of_ble_eq_true rfl) rfl ?_
  unfold wp_X2_store at h
  refine aw_iload_n 1 dX2_store_0 rfl rfl ?_
  refine aw_callST (st := []) (As := [.int a1]) lX2_36 sttX2_isPlace (by omega) (kX2_isPlace (d := 0) (by omega) h) rfl rfl rfl dX2_store_1 rfl (fun _ _ hh => ?_)
  obtain ⟨r1, τ2, rfl, rfl, h⟩ := hh
  refine ⟨rfl, (fun x hx => by cases hx; rfl), ?_⟩
  refine aw_stk (st' := [.int r1]) rfl ?_
  refine aw_if_ne 9 dX2_store_4 (by decide) (fun c4 => ?_) (fun c4 => ?_)
  · have h := h.1 c4
    refine aw_aload_n 0 dX2_store_9 rfl rfl ?_
    refine aw_getf (v := .ref 1) fX2_9 0 rfl rfl dX2_store_10 ?_
    refine aw_iload_n 1 dX2_store_13 rfl rfl ?_
    refine aw_iconst (v := (2 : Int32)) dX2_store_14 (by decide) ?_
    refine aw_ishr dX2_store_15 ?_
    refine aw_iload_n 2 dX2_store_16 rfl rfl ?_
    refine aw_iast 1 (n := 4096) (f := σ.1.1.1) (w' := fun y3 => (wX2 G (((y3, σ.1.1.2), σ.1.2), σ.2))) rfl h.1 (fun _ => rfl) dX2_store_17 (fun y3 ey3 => ?_)
    have h := h.2 y3 ey3
    refine aw_iconst (v := (1 : Int32)) dX2_store_18 (by decide) ?_
    exact aw_zret rfl rfl dX2_store_19 ⟨_, (((y3, σ.1.1.2), σ.1.2), σ.2), rfl, rfl, h⟩
  · have h := h.2 c4
    refine aw_iconst (v := (0 : Int32)) dX2_store_7 (by decide) ?_
    exact aw_zret rfl rfl dX2_store_8 ⟨_, σ, rfl, rfl, h⟩
def wp_X2_fetch (σ : WSX2) (a1 : Int32) (post : Int32 → WSX2 → Prop) : Prop :=
  wp_X2_isPlace a1 (fun r1 τ2 => ((r1 = 0 → post (0 : Int32) σ) ∧ (¬ r1 = 0 → (vp_in (a1 >>> ((2 : Int32) &&& 31)) 4096 ∧ post (σ.1.1.1 ((a1 >>> ((2 : Int32) &&& 31))).toNatClampNeg) σ))))
theorem kX2_fetch {G : aw_G} {d : Nat} (hd : 1 ≤ d) {σ : WSX2} {a1 : Int32} {post : Int32 → WSX2 → Prop} (h : wp_X2_fetch σ a1 post) : AC G MX2_fetch d 0 0 4 [.ref 0, .int a1] (wX2 G σ) (aw_pi (wX2 G) post) := by
  refine AC.of (lv := [(0, .ref 0), (1, .int a1)]) (by decide) (Nat.le_of_ble_eq_true rfl) rfl ?_
  unfold wp_X2_fetch at h
  refine aw_iload_n 1 dX2_fetch_0 rfl rfl ?_
  refine aw_callST (st := []) (As := [.int a1]) lX2_36 sttX2_isPlace (by omega) (kX2_isPlace (d := 0) (by omega) h) rfl rfl rfl dX2_fetch_1 rfl (fun _ _ hh => ?_)
  obtain ⟨r1, τ2, rfl, rfl, h⟩ := hh
  refine ⟨rfl, (fun x hx => by cases hx; rfl), ?_⟩
  refine aw_stk (st' := [.int r1]) rfl ?_
  refine aw_if_eq 18 dX2_fetch_4 (by decide) (fun c3 => ?_) (fun c3 => ?_)
  · have h := h.1 c3
    refine aw_iconst (v := (0 : Int32)) dX2_fetch_18 (by decide) ?_
    exact aw_iret rfl dX2_fetch_19 ⟨_, σ, rfl, rfl, h⟩
  · have h := h.2 c3
    refine aw_aload_n 0 dX2_fetch_7 rfl rfl ?_
    refine aw_getf (v := .ref 1) fX2_9 0 rfl rfl dX2_fetch_8 ?_
    refine aw_iload_n 1 dX2_fetch_11 rfl rfl ?_
    refine aw_iconst (v := (2 : Int32)) dX2_fetch_12 (by decide) ?_
    refine aw_ishr dX2_fetch_13 ?_
    refine aw_iald 1 (n := 4096) (f := σ.1.1.1) rfl h.1 dX2_fetch_14 ?_
    have h := h.2
    refine aw_goto 19 dX2_fetch_15 (by decide) ?_
    exact aw_iret rfl dX2_fetch_19 ⟨_, σ, rfl, rfl, h⟩
def wp_X2_fill (σ : WSX2) (a1 : Int32) (a2 : Int32) (post : Int32 → WSX2 → Prop) : Prop :=
  ((a1 < 0 → post (0 : Int32) σ) ∧ (¬ a1 < 0 → ((a1 < (32 : Int32) → ((a1 = 0 → post (1 : Int32) σ) ∧ (¬ a1 = 0 → (vp_in a1 32 ∧ ∀ y1 : Nat → Int32, y1 = upd σ.1.1.2 (a1).toNatClampNeg a2 → post (1 : Int32) (((σ.1.1.1, y1), σ.1.2), σ.2))))) ∧ (¬ a1 < (32 : Int32) → post (0 : Int32) σ))))
theorem kX2_fill {G : aw_G} {d : Nat} (hd : 0 ≤ d) {σ : WSX2} {a1 : Int32} {a2 : Int32} {post : Int32 → WSX2 → Prop} (h : wp_X2_fill σ a1 a2 post) : AC G MX2_fill d 0 0 4 [.ref 0, .int a1, .int a2] (wX2 G σ) (aw_pi (wX2 G) post) := by
  refine AC.of (lv := [(0, .ref 0), (1, .int a1), (2, .int a2)]) (by decide) (Nat.le_of_ble_eq_true rfl) rfl ?_
  unfold wp_X2_fill at h
  refine aw_iload_n 1 dX2_fill_0 rfl rfl ?_
  refine aw_if_lt 10 dX2_fill_1 (by decide) (fun c4 => ?_) (fun c4 => ?_)
  · have h := h.1 c4
    refine aw_iconst (v := (0 : Int32)) dX2_fill_10 (by decide) ?_
    exact aw_zret rfl rfl dX2_fill_11 ⟨_, σ, rfl, rfl, h⟩
  · have h := h.2 c4
    refine aw_iload_n 1 dX2_fill_4 rfl rfl ?_
    refine aw_bipush (v := (32 : Int32)) dX2_fill_5 (by decide) ?_
    refine aw_icmp_lt 12 dX2_fill_7 (by decide) (fun c3 => ?_) (fun c3 => ?_)
    · have h := h.1 c3
      refine aw_iload_n 1 dX2_fill_12 rfl rfl ?_
      refine aw_if_eq 23 dX2_fill_13 (by decide) (fun c2 => ?_) (fun c2 => ?_)
      · have h := h.1 c2
        refine aw_iconst (v := (1 : Int32)) dX2_fill_23 (by decide) ?_
        exact aw_zret rfl rfl dX2_fill_24 ⟨_, σ, rfl, rfl, h⟩
      · have h := h.2 c2
        refine aw_aload_n 0 dX2_fill_16 rfl rfl ?_
        refine aw_getf (v := .ref 2) fX2_13 0 rfl rfl dX2_fill_17 ?_
        refine aw_iload_n 1 dX2_fill_20 rfl rfl ?_
        refine aw_iload_n 2 dX2_fill_21 rfl rfl ?_
        refine aw_iast 2 (n := 32) (f := σ.1.1.2) (w' := fun y1 => (wX2 G (((σ.1.1.1, y1), σ.1.2), σ.2))) rfl h.1 (fun _ => rfl) dX2_fill_22 (fun y1 ey1 => ?_)
        have h := h.2 y1 ey1
        refine aw_iconst (v := (1 : Int32)) dX2_fill_23 (by decide) ?_
        exact aw_zret rfl rfl dX2_fill_24 ⟨_, (((σ.1.1.1, y1), σ.1.2), σ.2), rfl, rfl, h⟩
    · have h := h.2 c3
      refine aw_iconst (v := (0 : Int32)) dX2_fill_10 (by decide) ?_
      exact aw_zret rfl rfl dX2_fill_11 ⟨_, σ, rfl, rfl, h⟩
def wp_X2_register (σ : WSX2) (a1 : Int32) (post : Int32 → WSX2 → Prop) : Prop :=
  ((a1 < 0 → post (0 : Int32) σ) ∧ (¬ a1 < 0 → ((a1 < (32 : Int32) → (vp_in a1 32 ∧ post (σ.1.1.2 (a1).toNatClampNeg) σ)) ∧ (¬ a1 < (32 : Int32) → post (0 : Int32) σ))))
theorem kX2_register {G : aw_G} {d : Nat} (hd : 0 ≤ d) {σ : WSX2} {a1 : Int32} {post : Int32 → WSX2 → Prop} (h : wp_X2_register σ a1 post) : AC G MX2_register d 0 0 4 [.ref 0, .int a1] (wX2 G σ) (aw_pi (wX2 G) post) := by
  refine AC.of (lv := [(0, .ref 0), (1, .int a1)]) (by decide) (Nat.le_of_ble_eq_true rfl) rfl ?_
  unfold wp_X2_register at h
  refine aw_iload_n 1 dX2_register_0 rfl rfl ?_
  refine aw_if_lt 10 dX2_register_1 (by decide) (fun c2 => ?_) (fun c2 => ?_)
  · have h := h.1 c2
    refine aw_iconst (v := (0 : Int32)) dX2_register_10 (by decide) ?_
    refine aw_goto 20 dX2_register_11 (by decide) ?_
    exact aw_iret rfl dX2_register_20 ⟨_, σ, rfl, rfl, h⟩
  · have h := h.2 c2
    refine aw_iload_n 1 dX2_register_4 rfl rfl ?_
    refine aw_bipush (v := (32 : Int32)) dX2_register_5 (by decide) ?_
    refine aw_icmp_lt 14 dX2_register_7 (by decide) (fun c1 => ?_) (fun c1 => ?_)
    · have h := h.1 c1
      refine aw_aload_n 0 dX2_register_14 rfl rfl ?_
      refine aw_getf (v := .ref 2) fX2_13 0 rfl rfl dX2_register_15 ?_
      refine aw_iload_n 1 dX2_register_18 rfl rfl ?_
      refine aw_iald 2 (n := 32) (f := σ.1.1.2) rfl h.1 dX2_register_19 ?_
      have h := h.2
      exact aw_iret rfl dX2_register_20 ⟨_, σ, rfl, rfl, h⟩
    · have h := h.2 c1
      refine aw_iconst (v := (0 : Int32)) dX2_register_10 (by decide) ?_
      refine aw_goto 20 dX2_register_11 (by decide) ?_
      exact aw_iret rfl dX2_register_20 ⟨_, σ, rfl, rfl, h⟩
def wp_X2_beginAt (σ : WSX2) (a1 : Int32) (post : Int32 → WSX2 → Prop) : Prop :=
  wp_X2_isPlace a1 (fun r1 τ2 => ((¬ r1 = 0 → (∀ y3 : Nat → Int32, y3 = aw_fill 32 (0 : Int32) σ.1.2.1 → post (1 : Int32) ((σ.1.1, (y3, a1)), (((0 : Int32), (0 : Int64)), ((0 : Int32), (0 : Int64)))))) ∧ (r1 = 0 → post (0 : Int32) σ)))
theorem kX2_beginAt {G : aw_G} {d : Nat} (hd : 1 ≤ d) {σ : WSX2} {a1 : Int32} {post : Int32 → WSX2 → Prop} (h : wp_X2_beginAt σ a1 post) : AC G MX2_beginAt d 0 0 4 [.ref 0, .int a1] (wX2 G σ) (aw_pi (wX2 G) post) := by
  refine AC.of (lv := [(0, .ref 0), (1, .int a1)]) (by decide) (Nat.le_of_ble_eq_true rfl) rfl ?_
  unfold wp_X2_beginAt at h
  refine aw_iload_n 1 dX2_beginAt_0 rfl rfl ?_
  refine aw_callST (st := []) (As := [.int a1]) lX2_36 sttX2_isPlace (by omega) (kX2_isPlace (d := 0) (by omega) h) rfl rfl rfl dX2_beginAt_1 rfl (fun _ _ hh => ?_)
  obtain ⟨r1, τ2, rfl, rfl, h⟩ := hh
  refine ⟨rfl, (fun x hx => by cases hx; rfl), ?_⟩
  refine aw_stk (st' := [.int r1]) rfl ?_
  refine aw_if_ne 9 dX2_beginAt_4 (by decide) (fun c4 => ?_) (fun c4 => ?_)
  · have h := h.1 c4
    refine aw_aload_n 0 dX2_beginAt_9 rfl rfl ?_
    refine aw_iload_n 1 dX2_beginAt_10 rfl rfl ?_
    refine aw_putf fX2_19 0 (w' := (wX2 G ((σ.1.1, (σ.1.2.1, a1)), σ.2))) rfl (fun _ => ⟨rfl, rfl⟩) (Nat.le_of_ble_eq_true rfl) rfl dX2_beginAt_11 ?_
    refine aw_aload_n 0 dX2_beginAt_14 rfl rfl ?_
    refine aw_iconst (v := (0 : Int32)) dX2_beginAt_15 (by decide) ?_
    refine aw_putf fX2_23 0 (w' := (wX2 G ((σ.1.1, (σ.1.2.1, a1)), (((0 : Int32), σ.2.1.2), σ.2.2)))) rfl (fun _ => ⟨rfl, rfl⟩) (Nat.le_of_ble_eq_true rfl) rfl dX2_beginAt_16 ?_
    refine aw_aload_n 0 dX2_beginAt_19 rfl rfl ?_
    refine aw_lconst (v := (0 : Int64)) dX2_beginAt_20 (by decide) ?_
    refine aw_putf fX2_26 0 (w' := (wX2 G ((σ.1.1, (σ.1.2.1, a1)), (((0 : Int32), (0 : Int64)), σ.2.2)))) rfl (fun _ => ⟨rfl, rfl⟩) (Nat.le_of_ble_eq_true rfl) rfl dX2_beginAt_21 ?_
    refine aw_aload_n 0 dX2_beginAt_24 rfl rfl ?_
    refine aw_iconst (v := (0 : Int32)) dX2_beginAt_25 (by decide) ?_
    refine aw_putf fX2_30 0 (w' := (wX2 G ((σ.1.1, (σ.1.2.1, a1)), (((0 : Int32), (0 : Int64)), ((0 : Int32), σ.2.2.2))))) rfl (fun _ => ⟨rfl, rfl⟩) (Nat.le_of_ble_eq_true rfl) rfl dX2_beginAt_26 ?_
    refine aw_aload_n 0 dX2_beginAt_29 rfl rfl ?_
    refine aw_lconst (v := (0 : Int64)) dX2_beginAt_30 (by decide) ?_
    refine aw_putf fX2_33 0 (w' := (wX2 G ((σ.1.1, (σ.1.2.1, a1)), (((0 : Int32), (0 : Int64)), ((0 : Int32), (0 : Int64)))))) rfl (fun _ => ⟨rfl, rfl⟩) (Nat.le_of_ble_eq_true rfl) rfl dX2_beginAt_31 ?_
    refine aw_aload_n 0 dX2_beginAt_34 rfl rfl ?_
    refine aw_getf (v := .ref 3) fX2_16 0 rfl rfl dX2_beginAt_35 ?_
    refine aw_iconst (v := (0 : Int32)) dX2_beginAt_38 (by decide) ?_
    refine aw_callS (mc := 0) (ms := 0) (st := []) (As := [.ref 3, .int (0 : Int32)]) (vsc := [.ref 0, .int (0 : Int32)]) lX2_40 sttJ7_fill_53178 (by omega) (kJ7_fill (d := 0) (n := 32) (f := σ.1.2.1) (v := (0 : Int32)) (by decide)) [3] rfl rfl rfl rfl dX2_beginAt_39 rfl rfl (fun _ _ hh => ?_)
    obtain ⟨rfl, rfl⟩ := hh
    have h := h _ rfl
    generalize aw_fill 32 (0 : Int32) σ.1.2.1 = y3 at h ⊢
    refine ⟨(wX2 G ((σ.1.1, (y3, a1)), (((0 : Int32), (0 : Int64)), ((0 : Int32), (0 : Int64))))), [], rfl, rfl, rfl, ?_⟩
    refine aw_iconst (v := (1 : Int32)) dX2_beginAt_42 (by decide) ?_
    exact aw_zret rfl rfl dX2_beginAt_43 ⟨_, ((σ.1.1, (y3, a1)), (((0 : Int32), (0 : Int64)), ((0 : Int32), (0 : Int64)))), rfl, rfl, h⟩
  · have h := h.2 c4
    refine aw_iconst (v := (0 : Int32)) dX2_beginAt_7 (by decide) ?_
    exact aw_zret rfl rfl dX2_beginAt_8 ⟨_, σ, rfl, rfl, h⟩
def wp_X2_wipe_29  (post : WSX2 → Prop) (σ : WSX2) : Prop :=
  (∀ y1 : Nat → Int32, y1 = aw_fill 32 (0 : Int32) σ.1.1.2 → post (((σ.1.1.1, y1), σ.1.2), σ.2))
theorem aw_X2_wipe_29 {G : aw_G} {d : Nat} (hd : 1 ≤ d) {post : WSX2 → Prop}  {σ : WSX2} (h : wp_X2_wipe_29  post σ) : AW G MX2_wipe d 0 0 4 (aw_pv (wX2 G) post) 29 [(0, .ref 0)] [] (wX2 G σ) := by
  unfold wp_X2_wipe_29 at h
  refine aw_aload_n 0 dX2_wipe_29 rfl rfl ?_
  refine aw_getf (v := .ref 2) fX2_13 0 rfl rfl dX2_wipe_30 ?_
  refine aw_iconst (v := (0 : Int32)) dX2_wipe_33 (by decide) ?_
  refine aw_callS (mc := 0) (ms := 0) (st := []) (As := [.ref 2, .int (0 : Int32)]) (vsc := [.ref 0, .int (0 : Int32)]) lX2_40 sttJ7_fill_53178 (by omega) (kJ7_fill (d := 0) (n := 32) (f := σ.1.1.2) (v := (0 : Int32)) (by decide)) [2] rfl rfl rfl rfl dX2_wipe_34 rfl rfl (fun _ _ hh => ?_)
  obtain ⟨rfl, rfl⟩ := hh
  have h := h _ rfl
  generalize aw_fill 32 (0 : Int32) σ.1.1.2 = y1 at h ⊢
  refine ⟨(wX2 G (((σ.1.1.1, y1), σ.1.2), σ.2)), [], rfl, rfl, rfl, ?_⟩
  exact aw_vret rfl dX2_wipe_37 ⟨(((σ.1.1.1, y1), σ.1.2), σ.2), rfl, rfl, h⟩
def wb_X2_wipe_2  (post : WSX2 → Prop) (rec_2 : WSX2 × Int32 × Int32 → Prop) (σ : WSX2) (x1 : Int32) (x2 : Int32) : Prop :=
  (((x1 >>> ((2 : Int32) &&& 31)) ≤ x2 → wp_X2_wipe_29  post σ) ∧ (¬ (x1 >>> ((2 : Int32) &&& 31)) ≤ x2 → (((4096 : Int32) ≤ x2 → wp_X2_wipe_29  post σ) ∧ (¬ (4096 : Int32) ≤ x2 → (vp_in x2 4096 ∧ ∀ y2 : Nat → Int32, y2 = upd σ.1.1.1 (x2).toNatClampNeg (0 : Int32) → rec_2 ((((y2, σ.1.1.2), σ.1.2), σ.2), x1, (x2 + 1)))))))
def wp_X2_wipe_2  (post : WSX2 → Prop) (n : Nat) (σ : WSX2) (x1 : Int32) (x2 : Int32) : Prop := aw_loop (fun r (a : WSX2 × Int32 × Int32) => wb_X2_wipe_2  post r a.1 a.2.1 a.2.2) n (σ, x1, x2)
theorem aw_X2_wipe_2 {G : aw_G} {d : Nat} (hd : 1 ≤ d) {post : WSX2 → Prop}  : ∀ (n : Nat) (σ : WSX2) (x1 : Int32) (x2 : Int32), wp_X2_wipe_2  post n σ x1 x2 → AW G MX2_wipe d 0 0 4 (aw_pv (wX2 G) post) 2 [(0, .ref 0), (1, .int x1), (2, .int x2)] [] (wX2 G σ) := by
  intro n
  induction n with
  | zero => intro σ x1 x2 h; exact h.elim
  | succ n ih =>
    intro σ x1 x2 h
    have hrec_2 : ∀ a : WSX2 × Int32 × Int32, aw_loop (fun r (a : WSX2 × Int32 × Int32) => wb_X2_wipe_2  post r a.1 a.2.1 a.2.2) n a → AW G MX2_wipe d 0 0 4 (aw_pv (wX2 G) post) 2 [(0, .ref 0), (1, .int a.2.1), (2, .int a.2.2)] [] (wX2 G a.1) := fun a h => ih a.1 a.2.1 a.2.2 h
    have h : wb_X2_wipe_2  post (aw_loop (fun r (a : WSX2 × Int32 × Int32) => wb_X2_wipe_2  post r a.1 a.2.1 a.2.2) n) σ x1 x2 := h
    unfold wb_X2_wipe_2 at h
    refine aw_iload_n 2 dX2_wipe_2 rfl rfl ?_
    refine aw_iload_n 1 dX2_wipe_3 rfl rfl ?_
    refine aw_iconst (v := (2 : Int32)) dX2_wipe_4 (by decide) ?_
    refine aw_ishr dX2_wipe_5 ?_
    refine aw_icmp_ge 29 dX2_wipe_6 (by decide) (fun c4 => ?_) (fun c4 => ?_)
    · have h := h.1 c4
      refine aw_lvsub (lv' := [(0, .ref 0)]) [0] rfl ?_
      exact aw_X2_wipe_29 hd  h
    · have h := h.2 c4
      refine aw_iload_n 2 dX2_wipe_9 rfl rfl ?_
      refine aw_sipush (v := (4096 : Int32)) dX2_wipe_10 (by decide) ?_
      refine aw_icmp_ge 29 dX2_wipe_13 (by decide) (fun c3 => ?_) (fun c3 => ?_)
      · have h := h.1 c3
        refine aw_lvsub (lv' := [(0, .ref 0)]) [0] rfl ?_
        exact aw_X2_wipe_29 hd  h
      · have h := h.2 c3
        refine aw_aload_n 0 dX2_wipe_16 rfl rfl ?_
        refine aw_getf (v := .ref 1) fX2_9 0 rfl rfl dX2_wipe_17 ?_
        refine aw_iload_n 2 dX2_wipe_20 rfl rfl ?_
        refine aw_iconst (v := (0 : Int32)) dX2_wipe_21 (by decide) ?_
        refine aw_iast 1 (n := 4096) (f := σ.1.1.1) (w' := fun y2 => (wX2 G (((y2, σ.1.1.2), σ.1.2), σ.2))) rfl h.1 (fun _ => rfl) dX2_wipe_22 (fun y2 ey2 => ?_)
        have h := h.2 y2 ey2
        refine aw_iinc 2 (v := (x2 + 1)) (lv' := [(2, .int (x2 + 1)), (0, .ref 0), (1, .int x1)]) dX2_wipe_23 rfl rfl (by decide) rfl ?_
        refine aw_goto 2 dX2_wipe_26 (by decide) ?_
        refine aw_lvsub (lv' := [(0, .ref 0), (1, .int x1), (2, .int (x2 + 1))]) [1, 2, 0] rfl ?_
        exact hrec_2 ((((y2, σ.1.1.2), σ.1.2), σ.2), x1, (x2 + 1)) h
def wp_X2_wipe (σ : WSX2) (a1 : Int32) (post : WSX2 → Prop) : Prop :=
  (∃ n5, wp_X2_wipe_2  post n5 σ a1 (0 : Int32))
theorem kX2_wipe {G : aw_G} {d : Nat} (hd : 1 ≤ d) {σ : WSX2} {a1 : Int32} {post : WSX2 → Prop} (h : wp_X2_wipe σ a1 post) : AC G MX2_wipe d 0 0 4 [.ref 0, .int a1] (wX2 G σ) (aw_pv (wX2 G) post) := by
  refine AC.of (lv := [(0, .ref 0), (1, .int a1)]) (by decide) (Nat.le_of_ble_eq_true rfl) rfl ?_
  unfold wp_X2_wipe at h
  refine aw_iconst (v := (0 : Int32)) dX2_wipe_0 (by decide) ?_
  refine aw_istore_n (lv' := [(2, .int (0 : Int32)), (0, .ref 0), (1, .int a1)]) dX2_wipe_1 rfl (by decide) rfl ?_
  refine aw_lvsub (lv' := [(0, .ref 0), (1, .int a1), (2, .int (0 : Int32))]) [1, 2, 0] rfl ?_
  obtain ⟨n5, h⟩ := h
  exact aw_X2_wipe_2 hd  n5 σ a1 (0 : Int32) h
def wp_X2_note (σ : WSX2) (a1 : Int32) (post : WSX2 → Prop) : Prop :=
  (∀ y1 : Int64, y1 = (((σ.2.2.2 * (6364136223846793005 : Int64)) + (a1).toInt64) + (1 : Int64)) → post (σ.1, (σ.2.1, (σ.2.2.1, y1))))
theorem kX2_note {G : aw_G} {d : Nat} (hd : 0 ≤ d) {σ : WSX2} {a1 : Int32} {post : WSX2 → Prop} (h : wp_X2_note σ a1 post) : AC G MX2_note d 0 0 4 [.ref 0, .int a1] (wX2 G σ) (aw_pv (wX2 G) post) := by
  refine AC.of (lv := [(0, .ref 0), (1, .int a1)]) (by decide) (Nat.le_of_ble_eq_true rfl) rfl ?_
  unfold wp_X2_note at h
  refine aw_aload_n 0 dX2_note_0 rfl rfl ?_
  refine aw_aload_n 0 dX2_note_1 rfl rfl ?_
  refine aw_getf (v := .long σ.2.2.2) fX2_33 0 rfl rfl dX2_note_2 ?_
  refine aw_ldc2 (v := (6364136223846793005 : Int64)) dX2_note_5 oX2_91 ?_
  refine aw_lmul dX2_note_8 ?_
  refine aw_iload_n 1 dX2_note_9 rfl rfl ?_
  refine aw_i2l dX2_note_10 ?_
  refine aw_ladd dX2_note_11 ?_
  refine aw_lconst (v := (1 : Int64)) dX2_note_12 (by decide) ?_
  refine aw_ladd dX2_note_13 ?_
  refine aw_topl (fun y1 ey1 => ?_)
  have h := h y1 ey1
  refine aw_putf fX2_33 0 (w' := (wX2 G (σ.1, (σ.2.1, (σ.2.2.1, y1))))) rfl (fun _ => ⟨rfl, rfl⟩) (Nat.le_of_ble_eq_true rfl) rfl dX2_note_14 ?_
  exact aw_vret rfl dX2_note_17 ⟨(σ.1, (σ.2.1, (σ.2.2.1, y1))), rfl, rfl, h⟩
def wp_X2_reach_82  (post : WSX2 → Prop) (σ : WSX2) (x1 : Int32) : Prop :=
  wp_X2_note σ x1 (fun τ4 => post τ4)
theorem aw_X2_reach_82 {G : aw_G} {d : Nat} (hd : 1 ≤ d) {post : WSX2 → Prop}  {σ : WSX2} {x1 : Int32} (h : wp_X2_reach_82  post σ x1) : AW G MX2_reach d 0 0 4 (aw_pv (wX2 G) post) 82 [(0, .ref 0), (1, .int x1)] [] (wX2 G σ) := by
  unfold wp_X2_reach_82 at h
  refine aw_aload_n 0 dX2_reach_82 rfl rfl ?_
  refine aw_iload_n 1 dX2_reach_83 rfl rfl ?_
  refine aw_callVT (mc1 := 0) (ms1 := 0) (mc := 0) (ms := 0) (st := []) (q := 0) (As := [.int x1]) lX2_88 insX2_note selX2_note ⟨TX2, 8, rfl⟩ (by omega) (kX2_note (d := 0) (by omega) h) (Nat.le_of_ble_eq_true rfl) rfl rfl rfl dX2_reach_84 rfl (fun _ _ hh => ?_)
  obtain ⟨τ4, rfl, rfl, h⟩ := hh
  refine aw_stk (st' := []) rfl ?_
  exact aw_vret rfl dX2_reach_87 ⟨τ4, rfl, rfl, h⟩
def wp_X2_reach_59  (post : WSX2 → Prop) (σ : WSX2) (x1 : Int32) (x2 : Int32) (x3 : Int32) : Prop :=
  (vp_in x3 32 ∧ (vp_in (x3 + (1 : Int32)) 32 ∧ ∀ y5 : Nat → Int32, y5 = upd σ.1.2.1 ((x3 + (1 : Int32))).toNatClampNeg (σ.1.2.1 (x3).toNatClampNeg) → (vp_in x3 32 ∧ ∀ y6 : Nat → Int32, y6 = upd y5 (x3).toNatClampNeg (x2 + (1 : Int32)) → wp_X2_reach_82  post ((σ.1.1, (y6, σ.1.2.2)), σ.2) x1)))
theorem aw_X2_reach_59 {G : aw_G} {d : Nat} (hd : 1 ≤ d) {post : WSX2 → Prop}  {σ : WSX2} {x1 : Int32} {x2 : Int32} {x3 : Int32} (h : wp_X2_reach_59  post σ x1 x2 x3) : AW G MX2_reach d 0 0 4 (aw_pv (wX2 G) post) 59 [(0, .ref 0), (1, .int x1), (2, .int x2), (3, .int x3)] [] (wX2 G σ) := by
  unfold wp_X2_reach_59 at h
  refine aw_aload_n 0 dX2_reach_59 rfl rfl ?_
  refine aw_getf (v := .ref 3) fX2_16 0 rfl rfl dX2_reach_60 ?_
  refine aw_iload_n 3 dX2_reach_63 rfl rfl ?_
  refine aw_iconst (v := (1 : Int32)) dX2_reach_64 (by decide) ?_
  refine aw_iadd dX2_reach_65 ?_
  refine aw_aload_n 0 dX2_reach_66 rfl rfl ?_
  refine aw_getf (v := .ref 3) fX2_16 0 rfl rfl dX2_reach_67 ?_
  refine aw_iload_n 3 dX2_reach_70 rfl rfl ?_
  refine aw_iald 3 (n := 32) (f := σ.1.2.1) rfl h.1 dX2_reach_71 ?_
  have h := h.2
  refine aw_iast 3 (n := 32) (f := σ.1.2.1) (w' := fun y5 => (wX2 G ((σ.1.1, (y5, σ.1.2.2)), σ.2))) rfl h.1 (fun _ => rfl) dX2_reach_72 (fun y5 ey5 => ?_)
  have h := h.2 y5 ey5
  refine aw_aload_n 0 dX2_reach_73 rfl rfl ?_
  refine aw_getf (v := .ref 3) fX2_16 0 rfl rfl dX2_reach_74 ?_
  refine aw_iload_n 3 dX2_reach_77 rfl rfl ?_
  refine aw_iload_n 2 dX2_reach_78 rfl rfl ?_
  refine aw_iconst (v := (1 : Int32)) dX2_reach_79 (by decide) ?_
  refine aw_iadd dX2_reach_80 ?_
  refine aw_iast 3 (n := 32) (f := y5) (w' := fun y6 => (wX2 G ((σ.1.1, (y6, σ.1.2.2)), σ.2))) rfl h.1 (fun _ => rfl) dX2_reach_81 (fun y6 ey6 => ?_)
  have h := h.2 y6 ey6
  refine aw_lvsub (lv' := [(0, .ref 0), (1, .int x1)]) [0, 1] rfl ?_
  exact aw_X2_reach_82 hd  h
def wp_X2_reach (σ : WSX2) (a1 : Int32) (post : WSX2 → Prop) : Prop :=
  (∀ y1 : Int32, y1 = (a1 >>> ((4 : Int32) &&& 31)) → (∀ y2 : Int32, y2 = ((y1 &&& (15 : Int32)) * (2 : Int32)) → (vp_in y2 32 ∧ (((σ.1.2.1 (y2).toNatClampNeg) = (y1 + (1 : Int32)) → wp_X2_reach_82  post σ a1) ∧ (¬ (σ.1.2.1 (y2).toNatClampNeg) = (y1 + (1 : Int32)) → (vp_in (y2 + (1 : Int32)) 32 ∧ (((σ.1.2.1 ((y2 + (1 : Int32))).toNatClampNeg) = (y1 + (1 : Int32)) → wp_X2_reach_59  post σ a1 y1 y2) ∧ (¬ (σ.1.2.1 ((y2 + (1 : Int32))).toNatClampNeg) = (y1 + (1 : Int32)) → (∀ y7 : Int32, y7 = (σ.2.2.1 + (1 : Int32)) → (∀ y8 : Int64, y8 = (σ.2.1.2 + (20 : Int64)) → wp_X2_reach_59  post (σ.1, ((σ.2.1.1, y8), (y7, σ.2.2.2))) a1 y1 y2))))))))))
theorem kX2_reach {G : aw_G} {d : Nat} (hd : 1 ≤ d) {σ : WSX2} {a1 : Int32} {post : WSX2 → Prop} (h : wp_X2_reach σ a1 post) : AC G MX2_reach d 0 0 4 [.ref 0, .int a1] (wX2 G σ) (aw_pv (wX2 G) post) := by
  refine AC.of (lv := [(0, .ref 0), (1, .int a1)]) (by decide) (Nat.le_of_ble_eq_true rfl) rfl ?_
  unfold wp_X2_reach at h
  refine aw_iload_n 1 dX2_reach_0 rfl rfl ?_
  refine aw_iconst (v := (4 : Int32)) dX2_reach_1 (by decide) ?_
  refine aw_ishr dX2_reach_2 ?_
  refine aw_topi (fun y1 ey1 => ?_)
  have h := h y1 ey1
  refine aw_istore_n (lv' := [(2, .int y1), (0, .ref 0), (1, .int a1)]) dX2_reach_3 rfl (by decide) rfl ?_
  refine aw_iload_n 0 dX2_reach_4 rfl rfl ?_
  refine aw_bipush (v := (15 : Int32)) dX2_reach_5 (by decide) ?_
  refine aw_iand dX2_reach_7 ?_
  refine aw_iconst (v := (2 : Int32)) dX2_reach_8 (by decide) ?_
  refine aw_imul dX2_reach_9 ?_
  refine aw_topi (fun y2 ey2 => ?_)
  have h := h y2 ey2
  refine aw_istore_n (lv' := [(3, .int y2), (2, .int y1), (0, .ref 0), (1, .int a1)]) dX2_reach_10 rfl (by decide) rfl ?_
  refine aw_aload_n 2 dX2_reach_11 rfl rfl ?_
  refine aw_getf (v := .ref 3) fX2_16 0 rfl rfl dX2_reach_12 ?_
  refine aw_iload_n 0 dX2_reach_15 rfl rfl ?_
  refine aw_iald 3 (n := 32) (f := σ.1.2.1) rfl h.1 dX2_reach_16 ?_
  have h := h.2
  refine aw_iload_n 1 dX2_reach_17 rfl rfl ?_
  refine aw_iconst (v := (1 : Int32)) dX2_reach_18 (by decide) ?_
  refine aw_iadd dX2_reach_19 ?_
  refine aw_icmp_eq 82 dX2_reach_20 (by decide) (fun c10 => ?_) (fun c10 => ?_)
  · have h := h.1 c10
    refine aw_lvsub (lv' := [(0, .ref 0), (1, .int a1)]) [2, 3] rfl ?_
    exact aw_X2_reach_82 hd  h
  · have h := h.2 c10
    refine aw_aload_n 2 dX2_reach_23 rfl rfl ?_
    refine aw_getf (v := .ref 3) fX2_16 0 rfl rfl dX2_reach_24 ?_
    refine aw_iload_n 0 dX2_reach_27 rfl rfl ?_
    refine aw_iconst (v := (1 : Int32)) dX2_reach_28 (by decide) ?_
    refine aw_iadd dX2_reach_29 ?_
    refine aw_iald 3 (n := 32) (f := σ.1.2.1) rfl h.1 dX2_reach_30 ?_
    have h := h.2
    refine aw_iload_n 1 dX2_reach_31 rfl rfl ?_
    refine aw_iconst (v := (1 : Int32)) dX2_reach_32 (by decide) ?_
    refine aw_iadd dX2_reach_33 ?_
    refine aw_icmp_eq 59 dX2_reach_34 (by decide) (fun c9 => ?_) (fun c9 => ?_)
    · have h := h.1 c9
      refine aw_lvsub (lv' := [(0, .ref 0), (1, .int a1), (2, .int y1), (3, .int y2)]) [2, 3, 1, 0] rfl ?_
      exact aw_X2_reach_59 hd  h
    · have h := h.2 c9
      refine aw_aload_n 2 dX2_reach_37 rfl rfl ?_
      refine aw_dup dX2_reach_38 rfl ?_
      refine aw_getf (v := .int σ.2.2.1) fX2_30 0 rfl rfl dX2_reach_39 ?_
      refine aw_iconst (v := (1 : Int32)) dX2_reach_42 (by decide) ?_
      refine aw_iadd dX2_reach_43 ?_
      refine aw_topi (fun y7 ey7 => ?_)
      have h := h y7 ey7
      refine aw_putf fX2_30 0 (w' := (wX2 G (σ.1, (σ.2.1, (y7, σ.2.2.2))))) rfl (fun _ => ⟨rfl, rfl⟩) (Nat.le_of_ble_eq_true rfl) rfl dX2_reach_44 ?_
      refine aw_aload_n 2 dX2_reach_47 rfl rfl ?_
      refine aw_dup dX2_reach_48 rfl ?_
      refine aw_getf (v := .long σ.2.1.2) fX2_26 0 rfl rfl dX2_reach_49 ?_
      refine aw_ldc2 (v := (20 : Int64)) dX2_reach_52 oX2_86 ?_
      refine aw_ladd dX2_reach_55 ?_
      refine aw_topl (fun y8 ey8 => ?_)
      have h := h y8 ey8
      refine aw_putf fX2_26 0 (w' := (wX2 G (σ.1, ((σ.2.1.1, y8), (y7, σ.2.2.2))))) rfl (fun _ => ⟨rfl, rfl⟩) (Nat.le_of_ble_eq_true rfl) rfl dX2_reach_56 ?_
      refine aw_lvsub (lv' := [(0, .ref 0), (1, .int a1), (2, .int y1), (3, .int y2)]) [2, 3, 1, 0] rfl ?_
      exact aw_X2_reach_59 hd  h
def wp_X2_begin (σ : WSX2) (post : WSX2 → Prop) : Prop :=
  (∀ y1 : Int32, y1 = (σ.2.1.1 + (1 : Int32)) → (∀ y2 : Int64, y2 = (σ.2.1.2 + (1 : Int64)) → wp_X2_reach (σ.1, ((y1, y2), σ.2.2)) σ.1.2.2 (fun τ4 => post τ4)))
theorem kX2_begin {G : aw_G} {d : Nat} (hd : 2 ≤ d) {σ : WSX2} {post : WSX2 → Prop} (h : wp_X2_begin σ post) : AC G MX2_begin d 0 0 4 [.ref 0] (wX2 G σ) (aw_pv (wX2 G) post) := by
  refine AC.of (lv := [(0, .ref 0)]) (by decide) (Nat.le_of_ble_eq_true rfl) rfl ?_
  unfold wp_X2_begin at h
  refine aw_aload_n 0 dX2_begin_0 rfl rfl ?_
  refine aw_dup dX2_begin_1 rfl ?_
  refine aw_getf (v := .int σ.2.1.1) fX2_23 0 rfl rfl dX2_begin_2 ?_
  refine aw_iconst (v := (1 : Int32)) dX2_begin_5 (by decide) ?_
  refine aw_iadd dX2_begin_6 ?_
  refine aw_topi (fun y1 ey1 => ?_)
  have h := h y1 ey1
  refine aw_putf fX2_23 0 (w' := (wX2 G (σ.1, ((y1, σ.2.1.2), σ.2.2)))) rfl (fun _ => ⟨rfl, rfl⟩) (Nat.le_of_ble_eq_true rfl) rfl dX2_begin_7 ?_
  refine aw_aload_n 0 dX2_begin_10 rfl rfl ?_
  refine aw_dup dX2_begin_11 rfl ?_
  refine aw_getf (v := .long σ.2.1.2) fX2_26 0 rfl rfl dX2_begin_12 ?_
  refine aw_lconst (v := (1 : Int64)) dX2_begin_15 (by decide) ?_
  refine aw_ladd dX2_begin_16 ?_
  refine aw_topl (fun y2 ey2 => ?_)
  have h := h y2 ey2
  refine aw_putf fX2_26 0 (w' := (wX2 G (σ.1, ((y1, y2), σ.2.2)))) rfl (fun _ => ⟨rfl, rfl⟩) (Nat.le_of_ble_eq_true rfl) rfl dX2_begin_17 ?_
  refine aw_aload_n 0 dX2_begin_20 rfl rfl ?_
  refine aw_aload_n 0 dX2_begin_21 rfl rfl ?_
  refine aw_getf (v := .int σ.1.2.2) fX2_19 0 rfl rfl dX2_begin_22 ?_
  refine aw_callVT (mc1 := 0) (ms1 := 0) (mc := 0) (ms := 0) (st := []) (q := 0) (As := [.int σ.1.2.2]) lX2_82 insX2_reach selX2_reach ⟨TX2, 8, rfl⟩ (by omega) (kX2_reach (d := 1) (by omega) h) (Nat.le_of_ble_eq_true rfl) rfl rfl rfl dX2_begin_25 rfl (fun _ _ hh => ?_)
  obtain ⟨τ4, rfl, rfl, h⟩ := hh
  refine aw_stk (st' := []) rfl ?_
  exact aw_vret rfl dX2_begin_28 ⟨τ4, rfl, rfl, h⟩
def wp_X2_pass (σ : WSX2) (a1 : Int32) (a2 : Int32) (post : Int32 → WSX2 → Prop) : Prop :=
  wp_X2_fill σ ((a1 >>> ((7 : Int32) &&& 31)) &&& (31 : Int32)) a2 (fun r1 τ2 => (∀ y3 : Int32, y3 = (τ2.1.2.2 + (4 : Int32)) → post (0 : Int32) ((τ2.1.1, (τ2.1.2.1, y3)), τ2.2)))
theorem kX2_pass {G : aw_G} {d : Nat} (hd : 1 ≤ d) {σ : WSX2} {a1 : Int32} {a2 : Int32} {post : Int32 → WSX2 → Prop} (h : wp_X2_pass σ a1 a2 post) : AC G MX2_pass d 0 0 4 [.ref 0, .int a1, .int a2] (wX2 G σ) (aw_pi (wX2 G) post) := by
  refine AC.of (lv := [(0, .ref 0), (1, .int a1), (2, .int a2)]) (by decide) (Nat.le_of_ble_eq_true rfl) rfl ?_
  unfold wp_X2_pass at h
  refine aw_aload_n 0 dX2_pass_0 rfl rfl ?_
  refine aw_iload_n 1 dX2_pass_1 rfl rfl ?_
  refine aw_bipush (v := (7 : Int32)) dX2_pass_2 (by decide) ?_
  refine aw_ishr dX2_pass_4 ?_
  refine aw_bipush (v := (31 : Int32)) dX2_pass_5 (by decide) ?_
  refine aw_iand dX2_pass_7 ?_
  refine aw_iload_n 2 dX2_pass_8 rfl rfl ?_
  refine aw_callVT (mc1 := 0) (ms1 := 0) (mc := 0) (ms := 0) (st := []) (q := 0) (As := [.int ((a1 >>> ((7 : Int32) &&& 31)) &&& (31 : Int32)), .int a2]) lX2_93 insX2_fill selX2_fill ⟨TX2, 8, rfl⟩ (by omega) (kX2_fill (d := 0) (by omega) h) (Nat.le_of_ble_eq_true rfl) rfl rfl rfl dX2_pass_9 rfl (fun _ _ hh => ?_)
  obtain ⟨r1, τ2, rfl, rfl, h⟩ := hh
  refine aw_stk (st' := [.int r1]) rfl ?_
  refine aw_pop dX2_pass_12 rfl ?_
  refine aw_aload_n 0 dX2_pass_13 rfl rfl ?_
  refine aw_dup dX2_pass_14 rfl ?_
  refine aw_getf (v := .int τ2.1.2.2) fX2_19 0 rfl rfl dX2_pass_15 ?_
  refine aw_iconst (v := (4 : Int32)) dX2_pass_18 (by decide) ?_
  refine aw_iadd dX2_pass_19 ?_
  refine aw_topi (fun y3 ey3 => ?_)
  have h := h y3 ey3
  refine aw_putf fX2_19 0 (w' := (wX2 G ((τ2.1.1, (τ2.1.2.1, y3)), τ2.2))) rfl (fun _ => ⟨rfl, rfl⟩) (Nat.le_of_ble_eq_true rfl) rfl dX2_pass_20 ?_
  refine aw_iconst (v := (0 : Int32)) dX2_pass_23 (by decide) ?_
  exact aw_iret rfl dX2_pass_24 ⟨_, ((τ2.1.1, (τ2.1.2.1, y3)), τ2.2), rfl, rfl, h⟩
def wp_X2_jumpDistance (a0 : Int32) (post : Int32 → Unit → Prop) : Prop :=
  post (((((a0 >>> ((31 : Int32) &&& 31)) <<< ((20 : Int32) &&& 31)) ||| (a0 &&& (1044480 : Int32))) ||| ((a0 >>> ((9 : Int32) &&& 31)) &&& (2048 : Int32))) ||| ((a0 >>> ((20 : Int32) &&& 31)) &&& (2046 : Int32))) ()
theorem kX2_jumpDistance {G : aw_G} {d : Nat} (hd : 0 ≤ d) {a0 : Int32} {post : Int32 → Unit → Prop} (h : wp_X2_jumpDistance a0 post) : AC G MX2_jumpDistance d 0 0 0 [.int a0] [] (aw_pi (fun _ : Unit => []) post) := by
  refine AC.of (lv := [(0, .int a0)]) (by decide) (Nat.le_of_ble_eq_true rfl) rfl ?_
  unfold wp_X2_jumpDistance at h
  refine aw_iload_n 0 dX2_jumpDistance_0 rfl rfl ?_
  refine aw_bipush (v := (31 : Int32)) dX2_jumpDistance_1 (by decide) ?_
  refine aw_ishr dX2_jumpDistance_3 ?_
  refine aw_bipush (v := (20 : Int32)) dX2_jumpDistance_4 (by decide) ?_
  refine aw_ishl dX2_jumpDistance_6 ?_
  refine aw_iload_n 0 dX2_jumpDistance_7 rfl rfl ?_
  refine aw_ldc (v := (1044480 : Int32)) dX2_jumpDistance_8 oX2_96 ?_
  refine aw_iand dX2_jumpDistance_10 ?_
  refine aw_ior dX2_jumpDistance_11 ?_
  refine aw_iload_n 0 dX2_jumpDistance_12 rfl rfl ?_
  refine aw_bipush (v := (9 : Int32)) dX2_jumpDistance_13 (by decide) ?_
  refine aw_ishr dX2_jumpDistance_15 ?_
  refine aw_sipush (v := (2048 : Int32)) dX2_jumpDistance_16 (by decide) ?_
  refine aw_iand dX2_jumpDistance_19 ?_
  refine aw_ior dX2_jumpDistance_20 ?_
  refine aw_iload_n 0 dX2_jumpDistance_21 rfl rfl ?_
  refine aw_bipush (v := (20 : Int32)) dX2_jumpDistance_22 (by decide) ?_
  refine aw_ishr dX2_jumpDistance_24 ?_
  refine aw_sipush (v := (2046 : Int32)) dX2_jumpDistance_25 (by decide) ?_
  refine aw_iand dX2_jumpDistance_28 ?_
  refine aw_ior dX2_jumpDistance_29 ?_
  exact aw_iret rfl dX2_jumpDistance_30 ⟨_, (), rfl, rfl, h⟩
def wp_X2_jump (σ : WSX2) (a1 : Int32) (a2 : Int32) (post : Int32 → WSX2 → Prop) : Prop :=
  wp_X2_fill σ ((a1 >>> ((7 : Int32) &&& 31)) &&& (31 : Int32)) (σ.1.2.2 + (4 : Int32)) (fun r1 τ2 => (∀ y3 : Int64, y3 = (τ2.2.1.2 + (1 : Int64)) → post (0 : Int32) ((τ2.1.1, (τ2.1.2.1, a2)), ((τ2.2.1.1, y3), τ2.2.2))))
theorem kX2_jump {G : aw_G} {d : Nat} (hd : 1 ≤ d) {σ : WSX2} {a1 : Int32} {a2 : Int32} {post : Int32 → WSX2 → Prop} (h : wp_X2_jump σ a1 a2 post) : AC G MX2_jump d 0 0 4 [.ref 0, .int a1, .int a2] (wX2 G σ) (aw_pi (wX2 G) post) := by
  refine AC.of (lv := [(0, .ref 0), (1, .int a1), (2, .int a2)]) (by decide) (Nat.le_of_ble_eq_true rfl) rfl ?_
  unfold wp_X2_jump at h
  refine aw_aload_n 0 dX2_jump_0 rfl rfl ?_
  refine aw_iload_n 1 dX2_jump_1 rfl rfl ?_
  refine aw_bipush (v := (7 : Int32)) dX2_jump_2 (by decide) ?_
  refine aw_ishr dX2_jump_4 ?_
  refine aw_bipush (v := (31 : Int32)) dX2_jump_5 (by decide) ?_
  refine aw_iand dX2_jump_7 ?_
  refine aw_aload_n 0 dX2_jump_8 rfl rfl ?_
  refine aw_getf (v := .int σ.1.2.2) fX2_19 0 rfl rfl dX2_jump_9 ?_
  refine aw_iconst (v := (4 : Int32)) dX2_jump_12 (by decide) ?_
  refine aw_iadd dX2_jump_13 ?_
  refine aw_callVT (mc1 := 0) (ms1 := 0) (mc := 0) (ms := 0) (st := []) (q := 0) (As := [.int ((a1 >>> ((7 : Int32) &&& 31)) &&& (31 : Int32)), .int (σ.1.2.2 + (4 : Int32))]) lX2_93 insX2_fill selX2_fill ⟨TX2, 8, rfl⟩ (by omega) (kX2_fill (d := 0) (by omega) h) (Nat.le_of_ble_eq_true rfl) rfl rfl rfl dX2_jump_14 rfl (fun _ _ hh => ?_)
  obtain ⟨r1, τ2, rfl, rfl, h⟩ := hh
  refine aw_stk (st' := [.int r1]) rfl ?_
  refine aw_pop dX2_jump_17 rfl ?_
  refine aw_aload_n 0 dX2_jump_18 rfl rfl ?_
  refine aw_dup dX2_jump_19 rfl ?_
  refine aw_getf (v := .long τ2.2.1.2) fX2_26 0 rfl rfl dX2_jump_20 ?_
  refine aw_lconst (v := (1 : Int64)) dX2_jump_23 (by decide) ?_
  refine aw_ladd dX2_jump_24 ?_
  refine aw_topl (fun y3 ey3 => ?_)
  have h := h y3 ey3
  refine aw_putf fX2_26 0 (w' := (wX2 G (τ2.1, ((τ2.2.1.1, y3), τ2.2.2)))) rfl (fun _ => ⟨rfl, rfl⟩) (Nat.le_of_ble_eq_true rfl) rfl dX2_jump_25 ?_
  refine aw_aload_n 0 dX2_jump_28 rfl rfl ?_
  refine aw_iload_n 2 dX2_jump_29 rfl rfl ?_
  refine aw_putf fX2_19 0 (w' := (wX2 G ((τ2.1.1, (τ2.1.2.1, a2)), ((τ2.2.1.1, y3), τ2.2.2)))) rfl (fun _ => ⟨rfl, rfl⟩) (Nat.le_of_ble_eq_true rfl) rfl dX2_jump_30 ?_
  refine aw_iconst (v := (0 : Int32)) dX2_jump_33 (by decide) ?_
  exact aw_iret rfl dX2_jump_34 ⟨_, ((τ2.1.1, (τ2.1.2.1, a2)), ((τ2.2.1.1, y3), τ2.2.2)), rfl, rfl, h⟩
def wp_X2_third (a0 : Int32) (post : Int32 → Unit → Prop) : Prop :=
  post ((a0 >>> ((12 : Int32) &&& 31)) &&& (7 : Int32)) ()
theorem kX2_third {G : aw_G} {d : Nat} (hd : 0 ≤ d) {a0 : Int32} {post : Int32 → Unit → Prop} (h : wp_X2_third a0 post) : AC G MX2_third d 0 0 0 [.int a0] [] (aw_pi (fun _ : Unit => []) post) := by
  refine AC.of (lv := [(0, .int a0)]) (by decide) (Nat.le_of_ble_eq_true rfl) rfl ?_
  unfold wp_X2_third at h
  refine aw_iload_n 0 dX2_third_0 rfl rfl ?_
  refine aw_bipush (v := (12 : Int32)) dX2_third_1 (by decide) ?_
  refine aw_ishr dX2_third_3 ?_
  refine aw_bipush (v := (7 : Int32)) dX2_third_4 (by decide) ?_
  refine aw_iand dX2_third_6 ?_
  exact aw_iret rfl dX2_third_7 ⟨_, (), rfl, rfl, h⟩
def wp_X2_left (σ : WSX2) (a1 : Int32) (post : Int32 → WSX2 → Prop) : Prop :=
  (vp_in ((a1 >>> ((15 : Int32) &&& 31)) &&& (31 : Int32)) 32 ∧ post (σ.1.1.2 (((a1 >>> ((15 : Int32) &&& 31)) &&& (31 : Int32))).toNatClampNeg) σ)
theorem kX2_left {G : aw_G} {d : Nat} (hd : 0 ≤ d) {σ : WSX2} {a1 : Int32} {post : Int32 → WSX2 → Prop} (h : wp_X2_left σ a1 post) : AC G MX2_left d 0 0 4 [.ref 0, .int a1] (wX2 G σ) (aw_pi (wX2 G) post) := by
  refine AC.of (lv := [(0, .ref 0), (1, .int a1)]) (by decide) (Nat.le_of_ble_eq_true rfl) rfl ?_
  unfold wp_X2_left at h
  refine aw_aload_n 0 dX2_left_0 rfl rfl ?_
  refine aw_getf (v := .ref 2) fX2_13 0 rfl rfl dX2_left_1 ?_
  refine aw_iload_n 1 dX2_left_4 rfl rfl ?_
  refine aw_bipush (v := (15 : Int32)) dX2_left_5 (by decide) ?_
  refine aw_ishr dX2_left_7 ?_
  refine aw_bipush (v := (31 : Int32)) dX2_left_8 (by decide) ?_
  refine aw_iand dX2_left_10 ?_
  refine aw_iald 2 (n := 32) (f := σ.1.1.2) rfl h.1 dX2_left_11 ?_
  have h := h.2
  exact aw_iret rfl dX2_left_12 ⟨_, σ, rfl, rfl, h⟩
def wp_X2_doJumpByRegister (σ : WSX2) (a1 : Int32) (post : Int32 → WSX2 → Prop) : Prop :=
  wp_X2_third a1 (fun r1 τ2 => ((r1 = 0 → wp_X2_begin σ  (fun τ4 => wp_X2_left τ4 a1 (fun r5 τ6 => wp_X2_jump τ6 a1 ((r5 + (a1 >>> ((20 : Int32) &&& 31))) &&& ((-2) : Int32)) (fun r7 τ8 => post r7 τ8)))) ∧ (¬ r1 = 0 → post (2 : Int32) σ)))
theorem kX2_doJumpByRegister {G : aw_G} {d : Nat} (hd : 3 ≤ d) {σ : WSX2} {a1 : Int32} {post : Int32 → WSX2 → Prop} (h : wp_X2_doJumpByRegister σ a1 post) : AC G MX2_doJumpByRegister d 0 0 4 [.ref 0, .int a1] (wX2 G σ) (aw_pi (wX2 G) post) := by
  refine AC.of (lv := [(0, .ref 0), (1, .int a1)]) (by decide) (Nat.le_of_ble_eq_true rfl) rfl ?_
  unfold wp_X2_doJumpByRegister at h
  refine aw_iload_n 1 dX2_doJumpByRegister_0 rfl rfl ?_
  refine aw_callST (st := []) (As := [.int a1]) lX2_97 sttX2_third (by omega) (kX2_third (d := 0) (by omega) h) rfl rfl rfl dX2_doJumpByRegister_1 rfl (fun _ _ hh => ?_)
  obtain ⟨r1, τ2, rfl, rfl, h⟩ := hh
  refine ⟨rfl, (fun x hx => by cases hx; rfl), ?_⟩
  refine aw_stk (st' := [.int r1]) rfl ?_
  refine aw_if_eq 9 dX2_doJumpByRegister_4 (by decide) (fun c9 => ?_) (fun c9 => ?_)
  · have h := h.1 c9
    refine aw_aload_n 0 dX2_doJumpByRegister_9 rfl rfl ?_
    refine aw_callVT (mc1 := 0) (ms1 := 0) (mc := 0) (ms := 0) (st := []) (q := 0) (As := []) lX2_50 insX2_begin selX2_begin ⟨TX2, 8, rfl⟩ (by omega) (kX2_begin (d := 2) (by omega) h) (Nat.le_of_ble_eq_true rfl) rfl rfl rfl dX2_doJumpByRegister_10 rfl (fun _ _ hh => ?_)
    obtain ⟨τ4, rfl, rfl, h⟩ := hh
    refine aw_stk (st' := []) rfl ?_
    refine aw_aload_n 0 dX2_doJumpByRegister_13 rfl rfl ?_
    refine aw_iload_n 1 dX2_doJumpByRegister_14 rfl rfl ?_
    refine aw_aload_n 0 dX2_doJumpByRegister_15 rfl rfl ?_
    refine aw_iload_n 1 dX2_doJumpByRegister_16 rfl rfl ?_
    refine aw_callVT (mc1 := 0) (ms1 := 0) (mc := 0) (ms := 0) (st := [.int a1, .ref 0]) (q := 0) (As := [.int a1]) lX2_100 insX2_left selX2_left ⟨TX2, 8, rfl⟩ (by omega) (kX2_left (d := 0) (by omega) h) (Nat.le_of_ble_eq_true rfl) rfl rfl rfl dX2_doJumpByRegister_17 rfl (fun _ _ hh => ?_)
    obtain ⟨r5, τ6, rfl, rfl, h⟩ := hh
    refine aw_stk (st' := [.int r5, .int a1, .ref 0]) rfl ?_
    refine aw_iload_n 1 dX2_doJumpByRegister_20 rfl rfl ?_
    refine aw_bipush (v := (20 : Int32)) dX2_doJumpByRegister_21 (by decide) ?_
    refine aw_ishr dX2_doJumpByRegister_23 ?_
    refine aw_iadd dX2_doJumpByRegister_24 ?_
    refine aw_bipush (v := ((-2) : Int32)) dX2_doJumpByRegister_25 (by decide) ?_
    refine aw_iand dX2_doJumpByRegister_27 ?_
    refine aw_callVT (mc1 := 0) (ms1 := 0) (mc := 0) (ms := 0) (st := []) (q := 0) (As := [.int a1, .int ((r5 + (a1 >>> ((20 : Int32) &&& 31))) &&& ((-2) : Int32))]) lX2_61 insX2_jump selX2_jump ⟨TX2, 8, rfl⟩ (by omega) (kX2_jump (d := 1) (by omega) h) (Nat.le_of_ble_eq_true rfl) rfl rfl rfl dX2_doJumpByRegister_28 rfl (fun _ _ hh => ?_)
    obtain ⟨r7, τ8, rfl, rfl, h⟩ := hh
    refine aw_stk (st' := [.int r7]) rfl ?_
    exact aw_iret rfl dX2_doJumpByRegister_31 ⟨_, τ8, rfl, rfl, h⟩
  · have h := h.2 c9
    refine aw_iconst (v := (2 : Int32)) dX2_doJumpByRegister_7 (by decide) ?_
    exact aw_iret rfl dX2_doJumpByRegister_8 ⟨_, σ, rfl, rfl, h⟩
def wp_X2_right (σ : WSX2) (a1 : Int32) (post : Int32 → WSX2 → Prop) : Prop :=
  (vp_in ((a1 >>> ((20 : Int32) &&& 31)) &&& (31 : Int32)) 32 ∧ post (σ.1.1.2 (((a1 >>> ((20 : Int32) &&& 31)) &&& (31 : Int32))).toNatClampNeg) σ)
theorem kX2_right {G : aw_G} {d : Nat} (hd : 0 ≤ d) {σ : WSX2} {a1 : Int32} {post : Int32 → WSX2 → Prop} (h : wp_X2_right σ a1 post) : AC G MX2_right d 0 0 4 [.ref 0, .int a1] (wX2 G σ) (aw_pi (wX2 G) post) := by
  refine AC.of (lv := [(0, .ref 0), (1, .int a1)]) (by decide) (Nat.le_of_ble_eq_true rfl) rfl ?_
  unfold wp_X2_right at h
  refine aw_aload_n 0 dX2_right_0 rfl rfl ?_
  refine aw_getf (v := .ref 2) fX2_13 0 rfl rfl dX2_right_1 ?_
  refine aw_iload_n 1 dX2_right_4 rfl rfl ?_
  refine aw_bipush (v := (20 : Int32)) dX2_right_5 (by decide) ?_
  refine aw_ishr dX2_right_7 ?_
  refine aw_bipush (v := (31 : Int32)) dX2_right_8 (by decide) ?_
  refine aw_iand dX2_right_10 ?_
  refine aw_iald 2 (n := 32) (f := σ.1.1.2) rfl h.1 dX2_right_11 ?_
  have h := h.2
  exact aw_iret rfl dX2_right_12 ⟨_, σ, rfl, rfl, h⟩
def wp_X2_holds (a0 : Int32) (a1 : Int32) (a2 : Int32) (post : Int32 → Unit → Prop) : Prop :=
  ((a0 = (0 : Int32) → ((¬ a1 = a2 → post (0 : Int32) ()) ∧ (a1 = a2 → post (1 : Int32) ()))) ∧ (¬ a0 = (0 : Int32) → ((a0 = (1 : Int32) → ((a1 = a2 → post (0 : Int32) ()) ∧ (¬ a1 = a2 → post (1 : Int32) ()))) ∧ (¬ a0 = (1 : Int32) → ((a0 = (2 : Int32) → (((lg_cmp ((a1).toInt64 &&& (4294967295 : Int64)) ((a2).toInt64 &&& (4294967295 : Int64))) < 0 → post (0 : Int32) ()) ∧ (¬ (lg_cmp ((a1).toInt64 &&& (4294967295 : Int64)) ((a2).toInt64 &&& (4294967295 : Int64))) < 0 → post (1 : Int32) ()))) ∧ (¬ a0 = (2 : Int32) → ((a0 = (3 : Int32) → (((lg_cmp ((a1).toInt64 &&& (4294967295 : Int64)) ((a2).toInt64 &&& (4294967295 : Int64))) < 0 → post (0 : Int32) ()) ∧ (¬ (lg_cmp ((a1).toInt64 &&& (4294967295 : Int64)) ((a2).toInt64 &&& (4294967295 : Int64))) < 0 → post (1 : Int32) ()))) ∧ (¬ a0 = (3 : Int32) → ((a0 = (4 : Int32) → ((a2 ≤ a1 → post (0 : Int32) ()) ∧ (¬ a2 ≤ a1 → post (1 : Int32) ()))) ∧ (¬ a0 = (4 : Int32) → ((a0 = (5 : Int32) → ((a1 < a2 → post (0 : Int32) ()) ∧ (¬ a1 < a2 → post (1 : Int32) ()))) ∧ (¬ a0 = (5 : Int32) → ((a0 = (6 : Int32) → ((0 ≤ (lg_cmp ((a1).toInt64 &&& (4294967295 : Int64)) ((a2).toInt64 &&& (4294967295 : Int64))) → post (0 : Int32) ()) ∧ (¬ 0 ≤ (lg_cmp ((a1).toInt64 &&& (4294967295 : Int64)) ((a2).toInt64 &&& (4294967295 : Int64))) → post (1 : Int32) ()))) ∧ (¬ a0 = (6 : Int32) → (((lg_cmp ((a1).toInt64 &&& (4294967295 : Int64)) ((a2).toInt64 &&& (4294967295 : Int64))) < 0 → post (0 : Int32) ()) ∧ (¬ (lg_cmp ((a1).toInt64 &&& (4294967295 : Int64)) ((a2).toInt64 &&& (4294967295 : Int64))) < 0 → post (1 : Int32) ()))))))))))))))))
theorem kX2_holds {G : aw_G} {d : Nat} (hd : 0 ≤ d) {a0 : Int32} {a1 : Int32} {a2 : Int32} {post : Int32 → Unit → Prop} (h : wp_X2_holds a0 a1 a2 post) : AC G MX2_holds d 0 0 0 [.int a0, .int a1, .int a2] [] (aw_pi (fun _ : Unit => []) post) := by
  refine AC.of (lv := [(0, .int a0), (1, .int a1), (2, .int a2)]) (by decide) (Nat.le_of_ble_eq_true rfl) rfl ?_
  unfold wp_X2_holds at h
  refine aw_iload_n 0 dX2_holds_0 rfl rfl ?_
  by_cases c1 : a0 = (0 : Int32)
  · refine aw_tableIn 44 (off := 43) dX2_holds_1 (by rw [c1]; decide) (by rw [c1]; decide) (by rw [c1]; rfl) (by decide) ?_
    have h := h.1 c1
    refine aw_iload_n 1 dX2_holds_44 rfl rfl ?_
    refine aw_iload_n 2 dX2_holds_45 rfl rfl ?_
    refine aw_icmp_ne 53 dX2_holds_46 (by decide) (fun c2 => ?_) (fun c2 => ?_)
    · have h := h.1 c2
      refine aw_iconst (v := (0 : Int32)) dX2_holds_53 (by decide) ?_
      exact aw_zret rfl rfl dX2_holds_54 ⟨_, (), rfl, rfl, h⟩
    · have h := h.2 c2
      refine aw_iconst (v := (1 : Int32)) dX2_holds_49 (by decide) ?_
      refine aw_goto 54 dX2_holds_50 (by decide) ?_
      exact aw_zret rfl rfl dX2_holds_54 ⟨_, (), rfl, rfl, h⟩
  have h := h.2 c1
  by_cases c3 : a0 = (1 : Int32)
  · refine aw_tableIn 55 (off := 54) dX2_holds_1 (by rw [c3]; decide) (by rw [c3]; decide) (by rw [c3]; rfl) (by decide) ?_
    have h := h.1 c3
    refine aw_iload_n 1 dX2_holds_55 rfl rfl ?_
    refine aw_iload_n 2 dX2_holds_56 rfl rfl ?_
    refine aw_icmp_eq 64 dX2_holds_57 (by decide) (fun c4 => ?_) (fun c4 => ?_)
    · have h := h.1 c4
      refine aw_iconst (v := (0 : Int32)) dX2_holds_64 (by decide) ?_
      exact aw_zret rfl rfl dX2_holds_65 ⟨_, (), rfl, rfl, h⟩
    · have h := h.2 c4
      refine aw_iconst (v := (1 : Int32)) dX2_holds_60 (by decide) ?_
      refine aw_goto 65 dX2_holds_61 (by decide) ?_
      exact aw_zret rfl rfl dX2_holds_65 ⟨_, (), rfl, rfl, h⟩
  have h := h.2 c3
  by_cases c5 : a0 = (2 : Int32)
  · refine aw_tableIn 110 (off := 109) dX2_holds_1 (by rw [c5]; decide) (by rw [c5]; decide) (by rw [c5]; rfl) (by decide) ?_
    have h := h.1 c5
    refine aw_iload_n 1 dX2_holds_110 rfl rfl ?_
    refine aw_i2l dX2_holds_111 ?_
    refine aw_ldc2 (v := (4294967295 : Int64)) dX2_holds_112 oX2_113 ?_
    refine aw_land dX2_holds_115 ?_
    refine aw_iload_n 2 dX2_holds_116 rfl rfl ?_
    refine aw_i2l dX2_holds_117 ?_
    refine aw_ldc2 (v := (4294967295 : Int64)) dX2_holds_118 oX2_113 ?_
    refine aw_land dX2_holds_121 ?_
    refine aw_lcmp dX2_holds_122 ?_
    refine aw_if_lt 130 dX2_holds_123 (by decide) (fun c6 => ?_) (fun c6 => ?_)
    · have h := h.1 c6
      refine aw_iconst (v := (0 : Int32)) dX2_holds_130 (by decide) ?_
      exact aw_zret rfl rfl dX2_holds_131 ⟨_, (), rfl, rfl, h⟩
    · have h := h.2 c6
      refine aw_iconst (v := (1 : Int32)) dX2_holds_126 (by decide) ?_
      refine aw_goto 131 dX2_holds_127 (by decide) ?_
      exact aw_zret rfl rfl dX2_holds_131 ⟨_, (), rfl, rfl, h⟩
  have h := h.2 c5
  by_cases c7 : a0 = (3 : Int32)
  · refine aw_tableIn 110 (off := 109) dX2_holds_1 (by rw [c7]; decide) (by rw [c7]; decide) (by rw [c7]; rfl) (by decide) ?_
    have h := h.1 c7
    refine aw_iload_n 1 dX2_holds_110 rfl rfl ?_
    refine aw_i2l dX2_holds_111 ?_
    refine aw_ldc2 (v := (4294967295 : Int64)) dX2_holds_112 oX2_113 ?_
    refine aw_land dX2_holds_115 ?_
    refine aw_iload_n 2 dX2_holds_116 rfl rfl ?_
    refine aw_i2l dX2_holds_117 ?_
    refine aw_ldc2 (v := (4294967295 : Int64)) dX2_holds_118 oX2_113 ?_
    refine aw_land dX2_holds_121 ?_
    refine aw_lcmp dX2_holds_122 ?_
    refine aw_if_lt 130 dX2_holds_123 (by decide) (fun c8 => ?_) (fun c8 => ?_)
    · have h := h.1 c8
      refine aw_iconst (v := (0 : Int32)) dX2_holds_130 (by decide) ?_
      exact aw_zret rfl rfl dX2_holds_131 ⟨_, (), rfl, rfl, h⟩
    · have h := h.2 c8
      refine aw_iconst (v := (1 : Int32)) dX2_holds_126 (by decide) ?_
      refine aw_goto 131 dX2_holds_127 (by decide) ?_
      exact aw_zret rfl rfl dX2_holds_131 ⟨_, (), rfl, rfl, h⟩
  have h := h.2 c7
  by_cases c9 : a0 = (4 : Int32)
  · refine aw_tableIn 66 (off := 65) dX2_holds_1 (by rw [c9]; decide) (by rw [c9]; decide) (by rw [c9]; rfl) (by decide) ?_
    have h := h.1 c9
    refine aw_iload_n 1 dX2_holds_66 rfl rfl ?_
    refine aw_iload_n 2 dX2_holds_67 rfl rfl ?_
    refine aw_icmp_ge 75 dX2_holds_68 (by decide) (fun c10 => ?_) (fun c10 => ?_)
    · have h := h.1 c10
      refine aw_iconst (v := (0 : Int32)) dX2_holds_75 (by decide) ?_
      exact aw_zret rfl rfl dX2_holds_76 ⟨_, (), rfl, rfl, h⟩
    · have h := h.2 c10
      refine aw_iconst (v := (1 : Int32)) dX2_holds_71 (by decide) ?_
      refine aw_goto 76 dX2_holds_72 (by decide) ?_
      exact aw_zret rfl rfl dX2_holds_76 ⟨_, (), rfl, rfl, h⟩
  have h := h.2 c9
  by_cases c11 : a0 = (5 : Int32)
  · refine aw_tableIn 77 (off := 76) dX2_holds_1 (by rw [c11]; decide) (by rw [c11]; decide) (by rw [c11]; rfl) (by decide) ?_
    have h := h.1 c11
    refine aw_iload_n 1 dX2_holds_77 rfl rfl ?_
    refine aw_iload_n 2 dX2_holds_78 rfl rfl ?_
    refine aw_icmp_lt 86 dX2_holds_79 (by decide) (fun c12 => ?_) (fun c12 => ?_)
    · have h := h.1 c12
      refine aw_iconst (v := (0 : Int32)) dX2_holds_86 (by decide) ?_
      exact aw_zret rfl rfl dX2_holds_87 ⟨_, (), rfl, rfl, h⟩
    · have h := h.2 c12
      refine aw_iconst (v := (1 : Int32)) dX2_holds_82 (by decide) ?_
      refine aw_goto 87 dX2_holds_83 (by decide) ?_
      exact aw_zret rfl rfl dX2_holds_87 ⟨_, (), rfl, rfl, h⟩
  have h := h.2 c11
  by_cases c13 : a0 = (6 : Int32)
  · refine aw_tableIn 88 (off := 87) dX2_holds_1 (by rw [c13]; decide) (by rw [c13]; decide) (by rw [c13]; rfl) (by decide) ?_
    have h := h.1 c13
    refine aw_iload_n 1 dX2_holds_88 rfl rfl ?_
    refine aw_i2l dX2_holds_89 ?_
    refine aw_ldc2 (v := (4294967295 : Int64)) dX2_holds_90 oX2_113 ?_
    refine aw_land dX2_holds_93 ?_
    refine aw_iload_n 2 dX2_holds_94 rfl rfl ?_
    refine aw_i2l dX2_holds_95 ?_
    refine aw_ldc2 (v := (4294967295 : Int64)) dX2_holds_96 oX2_113 ?_
    refine aw_land dX2_holds_99 ?_
    refine aw_lcmp dX2_holds_100 ?_
    refine aw_if_ge 108 dX2_holds_101 (by decide) (fun c14 => ?_) (fun c14 => ?_)
    · have h := h.1 c14
      refine aw_iconst (v := (0 : Int32)) dX2_holds_108 (by decide) ?_
      exact aw_zret rfl rfl dX2_holds_109 ⟨_, (), rfl, rfl, h⟩
    · have h := h.2 c14
      refine aw_iconst (v := (1 : Int32)) dX2_holds_104 (by decide) ?_
      refine aw_goto 109 dX2_holds_105 (by decide) ?_
      exact aw_zret rfl rfl dX2_holds_109 ⟨_, (), rfl, rfl, h⟩
  have h := h.2 c13
  refine aw_tableOut 110 dX2_holds_1 (by have := lv_neT (a := 0) c1 rfl; have := lv_neT (a := 1) c3 rfl; have := lv_neT (a := 2) c5 rfl; have := lv_neT (a := 3) c7 rfl; have := lv_neT (a := 4) c9 rfl; have := lv_neT (a := 5) c11 rfl; have := lv_neT (a := 6) c13 rfl; omega) (by decide) ?_
  refine aw_iload_n 1 dX2_holds_110 rfl rfl ?_
  refine aw_i2l dX2_holds_111 ?_
  refine aw_ldc2 (v := (4294967295 : Int64)) dX2_holds_112 oX2_113 ?_
  refine aw_land dX2_holds_115 ?_
  refine aw_iload_n 2 dX2_holds_116 rfl rfl ?_
  refine aw_i2l dX2_holds_117 ?_
  refine aw_ldc2 (v := (4294967295 : Int64)) dX2_holds_118 oX2_113 ?_
  refine aw_land dX2_holds_121 ?_
  refine aw_lcmp dX2_holds_122 ?_
  refine aw_if_lt 130 dX2_holds_123 (by decide) (fun c15 => ?_) (fun c15 => ?_)
  · have h := h.1 c15
    refine aw_iconst (v := (0 : Int32)) dX2_holds_130 (by decide) ?_
    exact aw_zret rfl rfl dX2_holds_131 ⟨_, (), rfl, rfl, h⟩
  · have h := h.2 c15
    refine aw_iconst (v := (1 : Int32)) dX2_holds_126 (by decide) ?_
    refine aw_goto 131 dX2_holds_127 (by decide) ?_
    exact aw_zret rfl rfl dX2_holds_131 ⟨_, (), rfl, rfl, h⟩
def wp_X2_branchDistance (a0 : Int32) (post : Int32 → Unit → Prop) : Prop :=
  post (((((a0 >>> ((31 : Int32) &&& 31)) <<< ((12 : Int32) &&& 31)) ||| ((a0 <<< ((4 : Int32) &&& 31)) &&& (2048 : Int32))) ||| ((a0 >>> ((20 : Int32) &&& 31)) &&& (2016 : Int32))) ||| ((a0 >>> ((7 : Int32) &&& 31)) &&& (30 : Int32))) ()
theorem kX2_branchDistance {G : aw_G} {d : Nat} (hd : 0 ≤ d) {a0 : Int32} {post : Int32 → Unit → Prop} (h : wp_X2_branchDistance a0 post) : AC G MX2_branchDistance d 0 0 0 [.int a0] [] (aw_pi (fun _ : Unit => []) post) := by
  refine AC.of (lv := [(0, .int a0)]) (by decide) (Nat.le_of_ble_eq_true rfl) rfl ?_
  unfold wp_X2_branchDistance at h
  refine aw_iload_n 0 dX2_branchDistance_0 rfl rfl ?_
  refine aw_bipush (v := (31 : Int32)) dX2_branchDistance_1 (by decide) ?_
  refine aw_ishr dX2_branchDistance_3 ?_
  refine aw_bipush (v := (12 : Int32)) dX2_branchDistance_4 (by decide) ?_
  refine aw_ishl dX2_branchDistance_6 ?_
  refine aw_iload_n 0 dX2_branchDistance_7 rfl rfl ?_
  refine aw_iconst (v := (4 : Int32)) dX2_branchDistance_8 (by decide) ?_
  refine aw_ishl dX2_branchDistance_9 ?_
  refine aw_sipush (v := (2048 : Int32)) dX2_branchDistance_10 (by decide) ?_
  refine aw_iand dX2_branchDistance_13 ?_
  refine aw_ior dX2_branchDistance_14 ?_
  refine aw_iload_n 0 dX2_branchDistance_15 rfl rfl ?_
  refine aw_bipush (v := (20 : Int32)) dX2_branchDistance_16 (by decide) ?_
  refine aw_ishr dX2_branchDistance_18 ?_
  refine aw_sipush (v := (2016 : Int32)) dX2_branchDistance_19 (by decide) ?_
  refine aw_iand dX2_branchDistance_22 ?_
  refine aw_ior dX2_branchDistance_23 ?_
  refine aw_iload_n 0 dX2_branchDistance_24 rfl rfl ?_
  refine aw_bipush (v := (7 : Int32)) dX2_branchDistance_25 (by decide) ?_
  refine aw_ishr dX2_branchDistance_27 ?_
  refine aw_bipush (v := (30 : Int32)) dX2_branchDistance_28 (by decide) ?_
  refine aw_iand dX2_branchDistance_30 ?_
  refine aw_ior dX2_branchDistance_31 ?_
  exact aw_iret rfl dX2_branchDistance_32 ⟨_, (), rfl, rfl, h⟩
def wp_X2_doBranch (σ : WSX2) (a1 : Int32) (post : Int32 → WSX2 → Prop) : Prop :=
  wp_X2_third a1 (fun r1 τ2 => ((r1 = (2 : Int32) → post (2 : Int32) σ) ∧ (¬ r1 = (2 : Int32) → ((¬ r1 = (3 : Int32) → wp_X2_begin σ  (fun τ4 => wp_X2_left τ4 a1 (fun r5 τ6 => wp_X2_right τ6 a1 (fun r7 τ8 => wp_X2_holds r1 r5 r7 (fun r9 τ10 => ((r9 = 0 → (∀ y11 : Int32, y11 = (τ8.1.2.2 + (4 : Int32)) → post (0 : Int32) ((τ8.1.1, (τ8.1.2.1, y11)), τ8.2))) ∧ (¬ r9 = 0 → (∀ y12 : Int64, y12 = (τ8.2.1.2 + (1 : Int64)) → wp_X2_branchDistance a1 (fun r13 τ14 => (∀ y15 : Int32, y15 = (τ8.1.2.2 + r13) → post (0 : Int32) ((τ8.1.1, (τ8.1.2.1, y15)), ((τ8.2.1.1, y12), τ8.2.2)))))))))))) ∧ (r1 = (3 : Int32) → post (2 : Int32) σ)))))
theorem kX2_doBranch {G : aw_G} {d : Nat} (hd : 3 ≤ d) {σ : WSX2} {a1 : Int32} {post : Int32 → WSX2 → Prop} (h : wp_X2_doBranch σ a1 post) : AC G MX2_doBranch d 0 0 4 [.ref 0, .int a1] (wX2 G σ) (aw_pi (wX2 G) post) := by
  refine AC.of (lv := [(0, .ref 0), (1, .int a1)]) (by decide) (Nat.le_of_ble_eq_true rfl) rfl ?_
  unfold wp_X2_doBranch at h
  refine aw_iload_n 1 dX2_doBranch_0 rfl rfl ?_
  refine aw_callST (st := []) (As := [.int a1]) lX2_97 sttX2_third (by omega) (kX2_third (d := 0) (by omega) h) rfl rfl rfl dX2_doBranch_1 rfl (fun _ _ hh => ?_)
  obtain ⟨r1, τ2, rfl, rfl, h⟩ := hh
  refine ⟨rfl, (fun x hx => by cases hx; rfl), ?_⟩
  refine aw_stk (st' := [.int r1]) rfl ?_
  refine aw_istore_n (lv' := [(2, .int r1), (0, .ref 0), (1, .int a1)]) dX2_doBranch_4 rfl (by decide) rfl ?_
  refine aw_iload_n 0 dX2_doBranch_5 rfl rfl ?_
  refine aw_iconst (v := (2 : Int32)) dX2_doBranch_6 (by decide) ?_
  refine aw_icmp_eq 15 dX2_doBranch_7 (by decide) (fun c18 => ?_) (fun c18 => ?_)
  · have h := h.1 c18
    refine aw_iconst (v := (2 : Int32)) dX2_doBranch_15 (by decide) ?_
    exact aw_iret rfl dX2_doBranch_16 ⟨_, σ, rfl, rfl, h⟩
  · have h := h.2 c18
    refine aw_iload_n 0 dX2_doBranch_10 rfl rfl ?_
    refine aw_iconst (v := (3 : Int32)) dX2_doBranch_11 (by decide) ?_
    refine aw_icmp_ne 17 dX2_doBranch_12 (by decide) (fun c17 => ?_) (fun c17 => ?_)
    · have h := h.1 c17
      refine aw_aload_n 1 dX2_doBranch_17 rfl rfl ?_
      refine aw_callVT (mc1 := 0) (ms1 := 0) (mc := 0) (ms := 0) (st := []) (q := 0) (As := []) lX2_50 insX2_begin selX2_begin ⟨TX2, 8, rfl⟩ (by omega) (kX2_begin (d := 2) (by omega) h) (Nat.le_of_ble_eq_true rfl) rfl rfl rfl dX2_doBranch_18 rfl (fun _ _ hh => ?_)
      obtain ⟨τ4, rfl, rfl, h⟩ := hh
      refine aw_stk (st' := []) rfl ?_
      refine aw_iload_n 0 dX2_doBranch_21 rfl rfl ?_
      refine aw_aload_n 1 dX2_doBranch_22 rfl rfl ?_
      refine aw_iload_n 2 dX2_doBranch_23 rfl rfl ?_
      refine aw_callVT (mc1 := 0) (ms1 := 0) (mc := 0) (ms := 0) (st := [.int r1]) (q := 0) (As := [.int a1]) lX2_100 insX2_left selX2_left ⟨TX2, 8, rfl⟩ (by omega) (kX2_left (d := 0) (by omega) h) (Nat.le_of_ble_eq_true rfl) rfl rfl rfl dX2_doBranch_24 rfl (fun _ _ hh => ?_)
      obtain ⟨r5, τ6, rfl, rfl, h⟩ := hh
      refine aw_stk (st' := [.int r5, .int r1]) rfl ?_
      refine aw_aload_n 1 dX2_doBranch_27 rfl rfl ?_
      refine aw_iload_n 2 dX2_doBranch_28 rfl rfl ?_
      refine aw_callVT (mc1 := 0) (ms1 := 0) (mc := 0) (ms := 0) (st := [.int r5, .int r1]) (q := 0) (As := [.int a1]) lX2_103 insX2_right selX2_right ⟨TX2, 8, rfl⟩ (by omega) (kX2_right (d := 0) (by omega) h) (Nat.le_of_ble_eq_true rfl) rfl rfl rfl dX2_doBranch_29 rfl (fun _ _ hh => ?_)
      obtain ⟨r7, τ8, rfl, rfl, h⟩ := hh
      refine aw_stk (st' := [.int r7, .int r5, .int r1]) rfl ?_
      refine aw_callST (st := []) (As := [.int r1, .int r5, .int r7]) lX2_106 sttX2_holds (by omega) (kX2_holds (d := 0) (by omega) h) rfl rfl rfl dX2_doBranch_32 rfl (fun _ _ hh => ?_)
      obtain ⟨r9, τ10, rfl, rfl, h⟩ := hh
      refine ⟨rfl, (fun x hx => by cases hx; rfl), ?_⟩
      refine aw_stk (st' := [.int r9]) rfl ?_
      refine aw_if_eq 64 dX2_doBranch_35 (by decide) (fun c16 => ?_) (fun c16 => ?_)
      · have h := h.1 c16
        refine aw_aload_n 1 dX2_doBranch_64 rfl rfl ?_
        refine aw_dup dX2_doBranch_65 rfl ?_
        refine aw_getf (v := .int τ8.1.2.2) fX2_19 0 rfl rfl dX2_doBranch_66 ?_
        refine aw_iconst (v := (4 : Int32)) dX2_doBranch_69 (by decide) ?_
        refine aw_iadd dX2_doBranch_70 ?_
        refine aw_topi (fun y11 ey11 => ?_)
        have h := h y11 ey11
        refine aw_putf fX2_19 0 (w' := (wX2 G ((τ8.1.1, (τ8.1.2.1, y11)), τ8.2))) rfl (fun _ => ⟨rfl, rfl⟩) (Nat.le_of_ble_eq_true rfl) rfl dX2_doBranch_71 ?_
        refine aw_iconst (v := (0 : Int32)) dX2_doBranch_74 (by decide) ?_
        exact aw_iret rfl dX2_doBranch_75 ⟨_, ((τ8.1.1, (τ8.1.2.1, y11)), τ8.2), rfl, rfl, h⟩
      · have h := h.2 c16
        refine aw_aload_n 1 dX2_doBranch_38 rfl rfl ?_
        refine aw_dup dX2_doBranch_39 rfl ?_
        refine aw_getf (v := .long τ8.2.1.2) fX2_26 0 rfl rfl dX2_doBranch_40 ?_
        refine aw_lconst (v := (1 : Int64)) dX2_doBranch_43 (by decide) ?_
        refine aw_ladd dX2_doBranch_44 ?_
        refine aw_topl (fun y12 ey12 => ?_)
        have h := h y12 ey12
        refine aw_putf fX2_26 0 (w' := (wX2 G (τ8.1, ((τ8.2.1.1, y12), τ8.2.2)))) rfl (fun _ => ⟨rfl, rfl⟩) (Nat.le_of_ble_eq_true rfl) rfl dX2_doBranch_45 ?_
        refine aw_aload_n 1 dX2_doBranch_48 rfl rfl ?_
        refine aw_dup dX2_doBranch_49 rfl ?_
        refine aw_getf (v := .int τ8.1.2.2) fX2_19 0 rfl rfl dX2_doBranch_50 ?_
        refine aw_iload_n 2 dX2_doBranch_53 rfl rfl ?_
        refine aw_callST (st := [.int τ8.1.2.2, .ref 0]) (As := [.int a1]) lX2_110 sttX2_branchDistance (by omega) (kX2_branchDistance (d := 0) (by omega) h) rfl rfl rfl dX2_doBranch_54 rfl (fun _ _ hh => ?_)
        obtain ⟨r13, τ14, rfl, rfl, h⟩ := hh
        refine ⟨rfl, (fun x hx => by cases hx; rfl), ?_⟩
        refine aw_stk (st' := [.int r13, .int τ8.1.2.2, .ref 0]) rfl ?_
        refine aw_iadd dX2_doBranch_57 ?_
        refine aw_topi (fun y15 ey15 => ?_)
        have h := h y15 ey15
        refine aw_putf fX2_19 0 (w' := (wX2 G ((τ8.1.1, (τ8.1.2.1, y15)), ((τ8.2.1.1, y12), τ8.2.2)))) rfl (fun _ => ⟨rfl, rfl⟩) (Nat.le_of_ble_eq_true rfl) rfl dX2_doBranch_58 ?_
        refine aw_goto 74 dX2_doBranch_61 (by decide) ?_
        refine aw_iconst (v := (0 : Int32)) dX2_doBranch_74 (by decide) ?_
        exact aw_iret rfl dX2_doBranch_75 ⟨_, ((τ8.1.1, (τ8.1.2.1, y15)), ((τ8.2.1.1, y12), τ8.2.2)), rfl, rfl, h⟩
    · have h := h.2 c17
      refine aw_iconst (v := (2 : Int32)) dX2_doBranch_15 (by decide) ?_
      exact aw_iret rfl dX2_doBranch_16 ⟨_, σ, rfl, rfl, h⟩
def wp_X2_doLoad (σ : WSX2) (a1 : Int32) (post : Int32 → WSX2 → Prop) : Prop :=
  wp_X2_third a1 (fun r1 τ2 => ((r1 = (2 : Int32) → wp_X2_left σ a1 (fun r3 τ4 => (∀ y5 : Int32, y5 = (r3 + (a1 >>> ((20 : Int32) &&& 31))) → wp_X2_isPlace y5 (fun r6 τ7 => ((¬ r6 = 0 → wp_X2_begin τ4  (fun τ9 => wp_X2_reach τ9 y5 (fun τ11 => (vp_in (y5 >>> ((2 : Int32) &&& 31)) 4096 ∧ wp_X2_pass τ11 a1 (τ11.1.1.1 ((y5 >>> ((2 : Int32) &&& 31))).toNatClampNeg) (fun r12 τ13 => post r12 τ13))))) ∧ (r6 = 0 → post (3 : Int32) τ4)))))) ∧ (¬ r1 = (2 : Int32) → post (2 : Int32) σ)))
theorem kX2_doLoad {G : aw_G} {d : Nat} (hd : 3 ≤ d) {σ : WSX2} {a1 : Int32} {post : Int32 → WSX2 → Prop} (h : wp_X2_doLoad σ a1 post) : AC G MX2_doLoad d 0 0 4 [.ref 0, .int a1] (wX2 G σ) (aw_pi (wX2 G) post) := by
  refine AC.of (lv := [(0, .ref 0), (1, .int a1)]) (by decide) (Nat.le_of_ble_eq_true rfl) rfl ?_
  unfold wp_X2_doLoad at h
  refine aw_iload_n 1 dX2_doLoad_0 rfl rfl ?_
  refine aw_callST (st := []) (As := [.int a1]) lX2_97 sttX2_third (by omega) (kX2_third (d := 0) (by omega) h) rfl rfl rfl dX2_doLoad_1 rfl (fun _ _ hh => ?_)
  obtain ⟨r1, τ2, rfl, rfl, h⟩ := hh
  refine ⟨rfl, (fun x hx => by cases hx; rfl), ?_⟩
  refine aw_stk (st' := [.int r1]) rfl ?_
  refine aw_iconst (v := (2 : Int32)) dX2_doLoad_4 (by decide) ?_
  refine aw_icmp_eq 10 dX2_doLoad_5 (by decide) (fun c15 => ?_) (fun c15 => ?_)
  · have h := h.1 c15
    refine aw_aload_n 0 dX2_doLoad_10 rfl rfl ?_
    refine aw_iload_n 1 dX2_doLoad_11 rfl rfl ?_
    refine aw_callVT (mc1 := 0) (ms1 := 0) (mc := 0) (ms := 0) (st := []) (q := 0) (As := [.int a1]) lX2_100 insX2_left selX2_left ⟨TX2, 8, rfl⟩ (by omega) (kX2_left (d := 0) (by omega) h) (Nat.le_of_ble_eq_true rfl) rfl rfl rfl dX2_doLoad_12 rfl (fun _ _ hh => ?_)
    obtain ⟨r3, τ4, rfl, rfl, h⟩ := hh
    refine aw_stk (st' := [.int r3]) rfl ?_
    refine aw_iload_n 1 dX2_doLoad_15 rfl rfl ?_
    refine aw_bipush (v := (20 : Int32)) dX2_doLoad_16 (by decide) ?_
    refine aw_ishr dX2_doLoad_18 ?_
    refine aw_iadd dX2_doLoad_19 ?_
    refine aw_topi (fun y5 ey5 => ?_)
    have h := h y5 ey5
    refine aw_istore_n (lv' := [(2, .int y5), (0, .ref 0), (1, .int a1)]) dX2_doLoad_20 rfl (by decide) rfl ?_
    refine aw_iload_n 0 dX2_doLoad_21 rfl rfl ?_
    refine aw_callST (st := []) (As := [.int y5]) lX2_36 sttX2_isPlace (by omega) (kX2_isPlace (d := 0) (by omega) h) rfl rfl rfl dX2_doLoad_22 rfl (fun _ _ hh => ?_)
    obtain ⟨r6, τ7, rfl, rfl, h⟩ := hh
    refine ⟨rfl, (fun x hx => by cases hx; rfl), ?_⟩
    refine aw_stk (st' := [.int r6]) rfl ?_
    refine aw_if_ne 30 dX2_doLoad_25 (by decide) (fun c14 => ?_) (fun c14 => ?_)
    · have h := h.1 c14
      refine aw_aload_n 1 dX2_doLoad_30 rfl rfl ?_
      refine aw_callVT (mc1 := 0) (ms1 := 0) (mc := 0) (ms := 0) (st := []) (q := 0) (As := []) lX2_50 insX2_begin selX2_begin ⟨TX2, 8, rfl⟩ (by omega) (kX2_begin (d := 2) (by omega) h) (Nat.le_of_ble_eq_true rfl) rfl rfl rfl dX2_doLoad_31 rfl (fun _ _ hh => ?_)
      obtain ⟨τ9, rfl, rfl, h⟩ := hh
      refine aw_stk (st' := []) rfl ?_
      refine aw_aload_n 1 dX2_doLoad_34 rfl rfl ?_
      refine aw_iload_n 0 dX2_doLoad_35 rfl rfl ?_
      refine aw_callVT (mc1 := 0) (ms1 := 0) (mc := 0) (ms := 0) (st := []) (q := 0) (As := [.int y5]) lX2_82 insX2_reach selX2_reach ⟨TX2, 8, rfl⟩ (by omega) (kX2_reach (d := 1) (by omega) h) (Nat.le_of_ble_eq_true rfl) rfl rfl rfl dX2_doLoad_36 rfl (fun _ _ hh => ?_)
      obtain ⟨τ11, rfl, rfl, h⟩ := hh
      refine aw_stk (st' := []) rfl ?_
      refine aw_aload_n 1 dX2_doLoad_39 rfl rfl ?_
      refine aw_iload_n 2 dX2_doLoad_40 rfl rfl ?_
      refine aw_aload_n 1 dX2_doLoad_41 rfl rfl ?_
      refine aw_getf (v := .ref 1) fX2_9 0 rfl rfl dX2_doLoad_42 ?_
      refine aw_iload_n 0 dX2_doLoad_45 rfl rfl ?_
      refine aw_iconst (v := (2 : Int32)) dX2_doLoad_46 (by decide) ?_
      refine aw_ishr dX2_doLoad_47 ?_
      refine aw_iald 1 (n := 4096) (f := τ11.1.1.1) rfl h.1 dX2_doLoad_48 ?_
      have h := h.2
      refine aw_callVT (mc1 := 0) (ms1 := 0) (mc := 0) (ms := 0) (st := []) (q := 0) (As := [.int a1, .int (τ11.1.1.1 ((y5 >>> ((2 : Int32) &&& 31))).toNatClampNeg)]) lX2_53 insX2_pass selX2_pass ⟨TX2, 8, rfl⟩ (by omega) (kX2_pass (d := 1) (by omega) h) (Nat.le_of_ble_eq_true rfl) rfl rfl rfl dX2_doLoad_49 rfl (fun _ _ hh => ?_)
      obtain ⟨r12, τ13, rfl, rfl, h⟩ := hh
      refine aw_stk (st' := [.int r12]) rfl ?_
      exact aw_iret rfl dX2_doLoad_52 ⟨_, τ13, rfl, rfl, h⟩
    · have h := h.2 c14
      refine aw_iconst (v := (3 : Int32)) dX2_doLoad_28 (by decide) ?_
      exact aw_iret rfl dX2_doLoad_29 ⟨_, τ4, rfl, rfl, h⟩
  · have h := h.2 c15
    refine aw_iconst (v := (2 : Int32)) dX2_doLoad_8 (by decide) ?_
    exact aw_iret rfl dX2_doLoad_9 ⟨_, σ, rfl, rfl, h⟩
def wp_X2_storeDistance (a0 : Int32) (post : Int32 → Unit → Prop) : Prop :=
  post (((a0 >>> ((25 : Int32) &&& 31)) <<< ((5 : Int32) &&& 31)) ||| ((a0 >>> ((7 : Int32) &&& 31)) &&& (31 : Int32))) ()
theorem kX2_storeDistance {G : aw_G} {d : Nat} (hd : 0 ≤ d) {a0 : Int32} {post : Int32 → Unit → Prop} (h : wp_X2_storeDistance a0 post) : AC G MX2_storeDistance d 0 0 0 [.int a0] [] (aw_pi (fun _ : Unit => []) post) := by
  refine AC.of (lv := [(0, .int a0)]) (by decide) (Nat.le_of_ble_eq_true rfl) rfl ?_
  unfold wp_X2_storeDistance at h
  refine aw_iload_n 0 dX2_storeDistance_0 rfl rfl ?_
  refine aw_bipush (v := (25 : Int32)) dX2_storeDistance_1 (by decide) ?_
  refine aw_ishr dX2_storeDistance_3 ?_
  refine aw_iconst (v := (5 : Int32)) dX2_storeDistance_4 (by decide) ?_
  refine aw_ishl dX2_storeDistance_5 ?_
  refine aw_iload_n 0 dX2_storeDistance_6 rfl rfl ?_
  refine aw_bipush (v := (7 : Int32)) dX2_storeDistance_7 (by decide) ?_
  refine aw_ishr dX2_storeDistance_9 ?_
  refine aw_bipush (v := (31 : Int32)) dX2_storeDistance_10 (by decide) ?_
  refine aw_iand dX2_storeDistance_12 ?_
  refine aw_ior dX2_storeDistance_13 ?_
  exact aw_iret rfl dX2_storeDistance_14 ⟨_, (), rfl, rfl, h⟩
def wp_X2_doStore (σ : WSX2) (a1 : Int32) (post : Int32 → WSX2 → Prop) : Prop :=
  wp_X2_third a1 (fun r1 τ2 => ((r1 = (2 : Int32) → wp_X2_left σ a1 (fun r3 τ4 => wp_X2_storeDistance a1 (fun r5 τ6 => (∀ y7 : Int32, y7 = (r3 + r5) → wp_X2_isPlace y7 (fun r8 τ9 => ((¬ r8 = 0 → wp_X2_begin τ4  (fun τ11 => wp_X2_reach τ11 y7 (fun τ13 => wp_X2_right τ13 a1 (fun r14 τ15 => (vp_in (y7 >>> ((2 : Int32) &&& 31)) 4096 ∧ ∀ y16 : Nat → Int32, y16 = upd τ15.1.1.1 ((y7 >>> ((2 : Int32) &&& 31))).toNatClampNeg r14 → (∀ y17 : Int32, y17 = (τ15.1.2.2 + (4 : Int32)) → post (0 : Int32) (((y16, τ15.1.1.2), (τ15.1.2.1, y17)), τ15.2))))))) ∧ (r8 = 0 → post (3 : Int32) τ4))))))) ∧ (¬ r1 = (2 : Int32) → post (2 : Int32) σ)))
theorem kX2_doStore {G : aw_G} {d : Nat} (hd : 3 ≤ d) {σ : WSX2} {a1 : Int32} {post : Int32 → WSX2 → Prop} (h : wp_X2_doStore σ a1 post) : AC G MX2_doStore d 0 0 4 [.ref 0, .int a1] (wX2 G σ) (aw_pi (wX2 G) post) := by
  refine AC.of (lv := [(0, .ref 0), (1, .int a1)]) (by decide) (Nat.le_of_ble_eq_true rfl) rfl ?_
  unfold wp_X2_doStore at h
  refine aw_iload_n 1 dX2_doStore_0 rfl rfl ?_
  refine aw_callST (st := []) (As := [.int a1]) lX2_97 sttX2_third (by omega) (kX2_third (d := 0) (by omega) h) rfl rfl rfl dX2_doStore_1 rfl (fun _ _ hh => ?_)
  obtain ⟨r1, τ2, rfl, rfl, h⟩ := hh
  refine ⟨rfl, (fun x hx => by cases hx; rfl), ?_⟩
  refine aw_stk (st' := [.int r1]) rfl ?_
  refine aw_iconst (v := (2 : Int32)) dX2_doStore_4 (by decide) ?_
  refine aw_icmp_eq 10 dX2_doStore_5 (by decide) (fun c19 => ?_) (fun c19 => ?_)
  · have h := h.1 c19
    refine aw_aload_n 0 dX2_doStore_10 rfl rfl ?_
    refine aw_iload_n 1 dX2_doStore_11 rfl rfl ?_
    refine aw_callVT (mc1 := 0) (ms1 := 0) (mc := 0) (ms := 0) (st := []) (q := 0) (As := [.int a1]) lX2_100 insX2_left selX2_left ⟨TX2, 8, rfl⟩ (by omega) (kX2_left (d := 0) (by omega) h) (Nat.le_of_ble_eq_true rfl) rfl rfl rfl dX2_doStore_12 rfl (fun _ _ hh => ?_)
    obtain ⟨r3, τ4, rfl, rfl, h⟩ := hh
    refine aw_stk (st' := [.int r3]) rfl ?_
    refine aw_iload_n 1 dX2_doStore_15 rfl rfl ?_
    refine aw_callST (st := [.int r3]) (As := [.int a1]) lX2_115 sttX2_storeDistance (by omega) (kX2_storeDistance (d := 0) (by omega) h) rfl rfl rfl dX2_doStore_16 rfl (fun _ _ hh => ?_)
    obtain ⟨r5, τ6, rfl, rfl, h⟩ := hh
    refine ⟨rfl, (fun x hx => by cases hx; rfl), ?_⟩
    refine aw_stk (st' := [.int r5, .int r3]) rfl ?_
    refine aw_iadd dX2_doStore_19 ?_
    refine aw_topi (fun y7 ey7 => ?_)
    have h := h y7 ey7
    refine aw_istore_n (lv' := [(2, .int y7), (0, .ref 0), (1, .int a1)]) dX2_doStore_20 rfl (by decide) rfl ?_
    refine aw_iload_n 0 dX2_doStore_21 rfl rfl ?_
    refine aw_callST (st := []) (As := [.int y7]) lX2_36 sttX2_isPlace (by omega) (kX2_isPlace (d := 0) (by omega) h) rfl rfl rfl dX2_doStore_22 rfl (fun _ _ hh => ?_)
    obtain ⟨r8, τ9, rfl, rfl, h⟩ := hh
    refine ⟨rfl, (fun x hx => by cases hx; rfl), ?_⟩
    refine aw_stk (st' := [.int r8]) rfl ?_
    refine aw_if_ne 30 dX2_doStore_25 (by decide) (fun c18 => ?_) (fun c18 => ?_)
    · have h := h.1 c18
      refine aw_aload_n 1 dX2_doStore_30 rfl rfl ?_
      refine aw_callVT (mc1 := 0) (ms1 := 0) (mc := 0) (ms := 0) (st := []) (q := 0) (As := []) lX2_50 insX2_begin selX2_begin ⟨TX2, 8, rfl⟩ (by omega) (kX2_begin (d := 2) (by omega) h) (Nat.le_of_ble_eq_true rfl) rfl rfl rfl dX2_doStore_31 rfl (fun _ _ hh => ?_)
      obtain ⟨τ11, rfl, rfl, h⟩ := hh
      refine aw_stk (st' := []) rfl ?_
      refine aw_aload_n 1 dX2_doStore_34 rfl rfl ?_
      refine aw_iload_n 0 dX2_doStore_35 rfl rfl ?_
      refine aw_callVT (mc1 := 0) (ms1 := 0) (mc := 0) (ms := 0) (st := []) (q := 0) (As := [.int y7]) lX2_82 insX2_reach selX2_reach ⟨TX2, 8, rfl⟩ (by omega) (kX2_reach (d := 1) (by omega) h) (Nat.le_of_ble_eq_true rfl) rfl rfl rfl dX2_doStore_36 rfl (fun _ _ hh => ?_)
      obtain ⟨τ13, rfl, rfl, h⟩ := hh
      refine aw_stk (st' := []) rfl ?_
      refine aw_aload_n 1 dX2_doStore_39 rfl rfl ?_
      refine aw_getf (v := .ref 1) fX2_9 0 rfl rfl dX2_doStore_40 ?_
      refine aw_iload_n 0 dX2_doStore_43 rfl rfl ?_
      refine aw_iconst (v := (2 : Int32)) dX2_doStore_44 (by decide) ?_
      refine aw_ishr dX2_doStore_45 ?_
      refine aw_aload_n 1 dX2_doStore_46 rfl rfl ?_
      refine aw_iload_n 2 dX2_doStore_47 rfl rfl ?_
      refine aw_callVT (mc1 := 0) (ms1 := 0) (mc := 0) (ms := 0) (st := [.int (y7 >>> ((2 : Int32) &&& 31)), .ref 1]) (q := 0) (As := [.int a1]) lX2_103 insX2_right selX2_right ⟨TX2, 8, rfl⟩ (by omega) (kX2_right (d := 0) (by omega) h) (Nat.le_of_ble_eq_true rfl) rfl rfl rfl dX2_doStore_48 rfl (fun _ _ hh => ?_)
      obtain ⟨r14, τ15, rfl, rfl, h⟩ := hh
      refine aw_stk (st' := [.int r14, .int (y7 >>> ((2 : Int32) &&& 31)), .ref 1]) rfl ?_
      refine aw_iast 1 (n := 4096) (f := τ15.1.1.1) (w' := fun y16 => (wX2 G (((y16, τ15.1.1.2), τ15.1.2), τ15.2))) rfl h.1 (fun _ => rfl) dX2_doStore_51 (fun y16 ey16 => ?_)
      have h := h.2 y16 ey16
      refine aw_aload_n 1 dX2_doStore_52 rfl rfl ?_
      refine aw_dup dX2_doStore_53 rfl ?_
      refine aw_getf (v := .int τ15.1.2.2) fX2_19 0 rfl rfl dX2_doStore_54 ?_
      refine aw_iconst (v := (4 : Int32)) dX2_doStore_57 (by decide) ?_
      refine aw_iadd dX2_doStore_58 ?_
      refine aw_topi (fun y17 ey17 => ?_)
      have h := h y17 ey17
      refine aw_putf fX2_19 0 (w' := (wX2 G (((y16, τ15.1.1.2), (τ15.1.2.1, y17)), τ15.2))) rfl (fun _ => ⟨rfl, rfl⟩) (Nat.le_of_ble_eq_true rfl) rfl dX2_doStore_59 ?_
      refine aw_iconst (v := (0 : Int32)) dX2_doStore_62 (by decide) ?_
      exact aw_iret rfl dX2_doStore_63 ⟨_, (((y16, τ15.1.1.2), (τ15.1.2.1, y17)), τ15.2), rfl, rfl, h⟩
    · have h := h.2 c18
      refine aw_iconst (v := (3 : Int32)) dX2_doStore_28 (by decide) ?_
      exact aw_iret rfl dX2_doStore_29 ⟨_, τ4, rfl, rfl, h⟩
  · have h := h.2 c19
    refine aw_iconst (v := (2 : Int32)) dX2_doStore_8 (by decide) ?_
    exact aw_iret rfl dX2_doStore_9 ⟨_, σ, rfl, rfl, h⟩
def wp_X2_join (a0 : Int32) (a1 : Int32) (a2 : Int32) (post : Int32 → Unit → Prop) : Prop :=
  ((a0 = (0 : Int32) → post (a1 + a2) ()) ∧ (¬ a0 = (0 : Int32) → ((a0 = (1 : Int32) → post (a1 <<< ((a2 &&& (31 : Int32)) &&& 31)) ()) ∧ (¬ a0 = (1 : Int32) → ((a0 = (2 : Int32) → ((a2 ≤ a1 → post (0 : Int32) ()) ∧ (¬ a2 ≤ a1 → post (1 : Int32) ()))) ∧ (¬ a0 = (2 : Int32) → ((a0 = (3 : Int32) → ((0 ≤ (lg_cmp ((a1).toInt64 &&& (4294967295 : Int64)) ((a2).toInt64 &&& (4294967295 : Int64))) → post (0 : Int32) ()) ∧ (¬ 0 ≤ (lg_cmp ((a1).toInt64 &&& (4294967295 : Int64)) ((a2).toInt64 &&& (4294967295 : Int64))) → post (1 : Int32) ()))) ∧ (¬ a0 = (3 : Int32) → ((a0 = (4 : Int32) → post (a1 ^^^ a2) ()) ∧ (¬ a0 = (4 : Int32) → ((a0 = (5 : Int32) → post ((a1).toUInt32 >>> (((a2 &&& (31 : Int32))).toUInt32 &&& Int32.toUInt32 31)).toInt32 ()) ∧ (¬ a0 = (5 : Int32) → ((a0 = (6 : Int32) → post (a1 ||| a2) ()) ∧ (¬ a0 = (6 : Int32) → post (a1 &&& a2) ()))))))))))))))
theorem kX2_join {G : aw_G} {d : Nat} (hd : 0 ≤ d) {a0 : Int32} {a1 : Int32} {a2 : Int32} {post : Int32 → Unit → Prop} (h : wp_X2_join a0 a1 a2 post) : AC G MX2_join d 0 0 0 [.int a0, .int a1, .int a2] [] (aw_pi (fun _ : Unit => []) post) := by
  refine AC.of (lv := [(0, .int a0), (1, .int a1), (2, .int a2)]) (by decide) (Nat.le_of_ble_eq_true rfl) rfl ?_
  unfold wp_X2_join at h
  refine aw_iload_n 0 dX2_join_0 rfl rfl ?_
  by_cases c1 : a0 = (0 : Int32)
  · refine aw_tableIn 44 (off := 43) dX2_join_1 (by rw [c1]; decide) (by rw [c1]; decide) (by rw [c1]; rfl) (by decide) ?_
    have h := h.1 c1
    refine aw_iload_n 1 dX2_join_44 rfl rfl ?_
    refine aw_iload_n 2 dX2_join_45 rfl rfl ?_
    refine aw_iadd dX2_join_46 ?_
    exact aw_iret rfl dX2_join_47 ⟨_, (), rfl, rfl, h⟩
  have h := h.2 c1
  by_cases c2 : a0 = (1 : Int32)
  · refine aw_tableIn 48 (off := 47) dX2_join_1 (by rw [c2]; decide) (by rw [c2]; decide) (by rw [c2]; rfl) (by decide) ?_
    have h := h.1 c2
    refine aw_iload_n 1 dX2_join_48 rfl rfl ?_
    refine aw_iload_n 2 dX2_join_49 rfl rfl ?_
    refine aw_bipush (v := (31 : Int32)) dX2_join_50 (by decide) ?_
    refine aw_iand dX2_join_52 ?_
    refine aw_ishl dX2_join_53 ?_
    exact aw_iret rfl dX2_join_54 ⟨_, (), rfl, rfl, h⟩
  have h := h.2 c2
  by_cases c3 : a0 = (2 : Int32)
  · refine aw_tableIn 55 (off := 54) dX2_join_1 (by rw [c3]; decide) (by rw [c3]; decide) (by rw [c3]; rfl) (by decide) ?_
    have h := h.1 c3
    refine aw_iload_n 1 dX2_join_55 rfl rfl ?_
    refine aw_iload_n 2 dX2_join_56 rfl rfl ?_
    refine aw_icmp_ge 64 dX2_join_57 (by decide) (fun c4 => ?_) (fun c4 => ?_)
    · have h := h.1 c4
      refine aw_iconst (v := (0 : Int32)) dX2_join_64 (by decide) ?_
      exact aw_iret rfl dX2_join_65 ⟨_, (), rfl, rfl, h⟩
    · have h := h.2 c4
      refine aw_iconst (v := (1 : Int32)) dX2_join_60 (by decide) ?_
      refine aw_goto 65 dX2_join_61 (by decide) ?_
      exact aw_iret rfl dX2_join_65 ⟨_, (), rfl, rfl, h⟩
  have h := h.2 c3
  by_cases c5 : a0 = (3 : Int32)
  · refine aw_tableIn 66 (off := 65) dX2_join_1 (by rw [c5]; decide) (by rw [c5]; decide) (by rw [c5]; rfl) (by decide) ?_
    have h := h.1 c5
    refine aw_iload_n 1 dX2_join_66 rfl rfl ?_
    refine aw_i2l dX2_join_67 ?_
    refine aw_ldc2 (v := (4294967295 : Int64)) dX2_join_68 oX2_113 ?_
    refine aw_land dX2_join_71 ?_
    refine aw_iload_n 2 dX2_join_72 rfl rfl ?_
    refine aw_i2l dX2_join_73 ?_
    refine aw_ldc2 (v := (4294967295 : Int64)) dX2_join_74 oX2_113 ?_
    refine aw_land dX2_join_77 ?_
    refine aw_lcmp dX2_join_78 ?_
    refine aw_if_ge 86 dX2_join_79 (by decide) (fun c6 => ?_) (fun c6 => ?_)
    · have h := h.1 c6
      refine aw_iconst (v := (0 : Int32)) dX2_join_86 (by decide) ?_
      exact aw_iret rfl dX2_join_87 ⟨_, (), rfl, rfl, h⟩
    · have h := h.2 c6
      refine aw_iconst (v := (1 : Int32)) dX2_join_82 (by decide) ?_
      refine aw_goto 87 dX2_join_83 (by decide) ?_
      exact aw_iret rfl dX2_join_87 ⟨_, (), rfl, rfl, h⟩
  have h := h.2 c5
  by_cases c7 : a0 = (4 : Int32)
  · refine aw_tableIn 88 (off := 87) dX2_join_1 (by rw [c7]; decide) (by rw [c7]; decide) (by rw [c7]; rfl) (by decide) ?_
    have h := h.1 c7
    refine aw_iload_n 1 dX2_join_88 rfl rfl ?_
    refine aw_iload_n 2 dX2_join_89 rfl rfl ?_
    refine aw_ixor dX2_join_90 ?_
    exact aw_iret rfl dX2_join_91 ⟨_, (), rfl, rfl, h⟩
  have h := h.2 c7
  by_cases c8 : a0 = (5 : Int32)
  · refine aw_tableIn 92 (off := 91) dX2_join_1 (by rw [c8]; decide) (by rw [c8]; decide) (by rw [c8]; rfl) (by decide) ?_
    have h := h.1 c8
    refine aw_iload_n 1 dX2_join_92 rfl rfl ?_
    refine aw_iload_n 2 dX2_join_93 rfl rfl ?_
    refine aw_bipush (v := (31 : Int32)) dX2_join_94 (by decide) ?_
    refine aw_iand dX2_join_96 ?_
    refine aw_iushr dX2_join_97 ?_
    exact aw_iret rfl dX2_join_98 ⟨_, (), rfl, rfl, h⟩
  have h := h.2 c8
  by_cases c9 : a0 = (6 : Int32)
  · refine aw_tableIn 99 (off := 98) dX2_join_1 (by rw [c9]; decide) (by rw [c9]; decide) (by rw [c9]; rfl) (by decide) ?_
    have h := h.1 c9
    refine aw_iload_n 1 dX2_join_99 rfl rfl ?_
    refine aw_iload_n 2 dX2_join_100 rfl rfl ?_
    refine aw_ior dX2_join_101 ?_
    exact aw_iret rfl dX2_join_102 ⟨_, (), rfl, rfl, h⟩
  have h := h.2 c9
  refine aw_tableOut 103 dX2_join_1 (by have := lv_neT (a := 0) c1 rfl; have := lv_neT (a := 1) c2 rfl; have := lv_neT (a := 2) c3 rfl; have := lv_neT (a := 3) c5 rfl; have := lv_neT (a := 4) c7 rfl; have := lv_neT (a := 5) c8 rfl; have := lv_neT (a := 6) c9 rfl; omega) (by decide) ?_
  refine aw_iload_n 1 dX2_join_103 rfl rfl ?_
  refine aw_iload_n 2 dX2_join_104 rfl rfl ?_
  refine aw_iand dX2_join_105 ?_
  exact aw_iret rfl dX2_join_106 ⟨_, (), rfl, rfl, h⟩
def wp_X2_doWithNumber_91  (post : Int32 → WSX2 → Prop) (σ : WSX2) (s0 : Int32) (s1 : Int32) : Prop :=
  wp_X2_pass σ s1 s0 (fun r11 τ12 => post r11 τ12)
theorem aw_X2_doWithNumber_91 {G : aw_G} {d : Nat} (hd : 3 ≤ d) {post : Int32 → WSX2 → Prop}  {σ : WSX2} {s0 : Int32} {s1 : Int32} (h : wp_X2_doWithNumber_91  post σ s0 s1) : AW G MX2_doWithNumber d 0 0 4 (aw_pi (wX2 G) post) 91 [] [.int s0, .int s1, .ref 0] (wX2 G σ) := by
  unfold wp_X2_doWithNumber_91 at h
  refine aw_callVT (mc1 := 0) (ms1 := 0) (mc := 0) (ms := 0) (st := []) (q := 0) (As := [.int s1, .int s0]) lX2_53 insX2_pass selX2_pass ⟨TX2, 8, rfl⟩ (by omega) (kX2_pass (d := 1) (by omega) h) (Nat.le_of_ble_eq_true rfl) rfl rfl rfl dX2_doWithNumber_91 rfl (fun _ _ hh => ?_)
  obtain ⟨r11, τ12, rfl, rfl, h⟩ := hh
  refine aw_stk (st' := [.int r11]) rfl ?_
  exact aw_iret rfl dX2_doWithNumber_94 ⟨_, τ12, rfl, rfl, h⟩
def wp_X2_doWithNumber_55  (post : Int32 → WSX2 → Prop) (σ : WSX2) (x1 : Int32) (x2 : Int32) (x4 : Int32) (x5 : Int32) : Prop :=
  wp_X2_begin σ  (fun τ6 => ((x5 = 0 → wp_X2_left τ6 x1 (fun r7 τ8 => wp_X2_join x2 r7 x4 (fun r9 τ10 => wp_X2_doWithNumber_91  post τ8 r9 x1))) ∧ (¬ x5 = 0 → wp_X2_left τ6 x1 (fun r13 τ14 => wp_X2_doWithNumber_91  post τ14 (r13 >>> ((x4 &&& (31 : Int32)) &&& 31)) x1))))
theorem aw_X2_doWithNumber_55 {G : aw_G} {d : Nat} (hd : 3 ≤ d) {post : Int32 → WSX2 → Prop}  {σ : WSX2} {x1 : Int32} {x2 : Int32} {x4 : Int32} {x5 : Int32} (h : wp_X2_doWithNumber_55  post σ x1 x2 x4 x5) : AW G MX2_doWithNumber d 0 0 4 (aw_pi (wX2 G) post) 55 [(0, .ref 0), (1, .int x1), (2, .int x2), (4, .int x4), (5, .int x5)] [] (wX2 G σ) := by
  unfold wp_X2_doWithNumber_55 at h
  refine aw_aload_n 0 dX2_doWithNumber_55 rfl rfl ?_
  refine aw_callVT (mc1 := 0) (ms1 := 0) (mc := 0) (ms := 0) (st := []) (q := 0) (As := []) lX2_50 insX2_begin selX2_begin ⟨TX2, 8, rfl⟩ (by omega) (kX2_begin (d := 2) (by omega) h) (Nat.le_of_ble_eq_true rfl) rfl rfl rfl dX2_doWithNumber_56 rfl (fun _ _ hh => ?_)
  obtain ⟨τ6, rfl, rfl, h⟩ := hh
  refine aw_stk (st' := []) rfl ?_
  refine aw_aload_n 0 dX2_doWithNumber_59 rfl rfl ?_
  refine aw_iload_n 1 dX2_doWithNumber_60 rfl rfl ?_
  refine aw_iload 4 dX2_doWithNumber_61 rfl ?_
  refine aw_if_eq 80 dX2_doWithNumber_63 (by decide) (fun c15 => ?_) (fun c15 => ?_)
  · have h := h.1 c15
    refine aw_iload_n 2 dX2_doWithNumber_80 rfl rfl ?_
    refine aw_aload_n 0 dX2_doWithNumber_81 rfl rfl ?_
    refine aw_iload_n 1 dX2_doWithNumber_82 rfl rfl ?_
    refine aw_callVT (mc1 := 0) (ms1 := 0) (mc := 0) (ms := 0) (st := [.int x2, .int x1, .ref 0]) (q := 0) (As := [.int x1]) lX2_100 insX2_left selX2_left ⟨TX2, 8, rfl⟩ (by omega) (kX2_left (d := 0) (by omega) h) (Nat.le_of_ble_eq_true rfl) rfl rfl rfl dX2_doWithNumber_83 rfl (fun _ _ hh => ?_)
    obtain ⟨r7, τ8, rfl, rfl, h⟩ := hh
    refine aw_stk (st' := [.int r7, .int x2, .int x1, .ref 0]) rfl ?_
    refine aw_iload 3 dX2_doWithNumber_86 rfl ?_
    refine aw_callST (st := [.int x1, .ref 0]) (As := [.int x2, .int r7, .int x4]) lX2_118 sttX2_join (by omega) (kX2_join (d := 0) (by omega) h) rfl rfl rfl dX2_doWithNumber_88 rfl (fun _ _ hh => ?_)
    obtain ⟨r9, τ10, rfl, rfl, h⟩ := hh
    refine ⟨rfl, (fun x hx => by cases hx; rfl), ?_⟩
    refine aw_stk (st' := [.int r9, .int x1, .ref 0]) rfl ?_
    refine aw_lvsub (lv' := []) [] rfl ?_
    exact aw_X2_doWithNumber_91 hd  h
  · have h := h.2 c15
    refine aw_aload_n 0 dX2_doWithNumber_66 rfl rfl ?_
    refine aw_iload_n 1 dX2_doWithNumber_67 rfl rfl ?_
    refine aw_callVT (mc1 := 0) (ms1 := 0) (mc := 0) (ms := 0) (st := [.int x1, .ref 0]) (q := 0) (As := [.int x1]) lX2_100 insX2_left selX2_left ⟨TX2, 8, rfl⟩ (by omega) (kX2_left (d := 0) (by omega) h) (Nat.le_of_ble_eq_true rfl) rfl rfl rfl dX2_doWithNumber_68 rfl (fun _ _ hh => ?_)
    obtain ⟨r13, τ14, rfl, rfl, h⟩ := hh
    refine aw_stk (st' := [.int r13, .int x1, .ref 0]) rfl ?_
    refine aw_iload 3 dX2_doWithNumber_71 rfl ?_
    refine aw_bipush (v := (31 : Int32)) dX2_doWithNumber_73 (by decide) ?_
    refine aw_iand dX2_doWithNumber_75 ?_
    refine aw_ishr dX2_doWithNumber_76 ?_
    refine aw_goto 91 dX2_doWithNumber_77 (by decide) ?_
    refine aw_lvsub (lv' := []) [] rfl ?_
    exact aw_X2_doWithNumber_91 hd  h
def wp_X2_doWithNumber_44  (post : Int32 → WSX2 → Prop) (σ : WSX2) (x1 : Int32) (x2 : Int32) (x3 : Int32) (x4 : Int32) (x5 : Int32) : Prop :=
  ((x3 = 0 → wp_X2_doWithNumber_55  post σ x1 x2 x4 x5) ∧ (¬ x3 = 0 → ((¬ x5 = 0 → wp_X2_doWithNumber_55  post σ x1 x2 x4 x5) ∧ (x5 = 0 → post (2 : Int32) σ))))
theorem aw_X2_doWithNumber_44 {G : aw_G} {d : Nat} (hd : 3 ≤ d) {post : Int32 → WSX2 → Prop}  {σ : WSX2} {x1 : Int32} {x2 : Int32} {x3 : Int32} {x4 : Int32} {x5 : Int32} (h : wp_X2_doWithNumber_44  post σ x1 x2 x3 x4 x5) : AW G MX2_doWithNumber d 0 0 4 (aw_pi (wX2 G) post) 44 [(0, .ref 0), (1, .int x1), (2, .int x2), (3, .int x3), (4, .int x4), (5, .int x5)] [] (wX2 G σ) := by
  unfold wp_X2_doWithNumber_44 at h
  refine aw_iload_n 3 dX2_doWithNumber_44 rfl rfl ?_
  refine aw_if_eq 55 dX2_doWithNumber_45 (by decide) (fun c17 => ?_) (fun c17 => ?_)
  · have h := h.1 c17
    refine aw_lvsub (lv' := [(0, .ref 0), (1, .int x1), (2, .int x2), (4, .int x4), (5, .int x5)]) [0, 1, 2, 4, 5] rfl ?_
    exact aw_X2_doWithNumber_55 hd  h
  · have h := h.2 c17
    refine aw_iload 5 dX2_doWithNumber_48 rfl ?_
    refine aw_if_ne 55 dX2_doWithNumber_50 (by decide) (fun c16 => ?_) (fun c16 => ?_)
    · have h := h.1 c16
      refine aw_lvsub (lv' := [(0, .ref 0), (1, .int x1), (2, .int x2), (4, .int x4), (5, .int x5)]) [0, 1, 2, 4, 5] rfl ?_
      exact aw_X2_doWithNumber_55 hd  h
    · have h := h.2 c16
      refine aw_iconst (v := (2 : Int32)) dX2_doWithNumber_53 (by decide) ?_
      exact aw_iret rfl dX2_doWithNumber_54 ⟨_, σ, rfl, rfl, h⟩
def wp_X2_doWithNumber_32  (post : Int32 → WSX2 → Prop) (σ : WSX2) (x1 : Int32) (x2 : Int32) (x3 : Int32) (x4 : Int32) (s0 : Int32) : Prop :=
  ((x2 = (1 : Int32) → wp_X2_doWithNumber_44  post σ x1 x2 x3 x4 s0) ∧ (¬ x2 = (1 : Int32) → ((¬ x2 = (5 : Int32) → wp_X2_doWithNumber_55  post σ x1 x2 x4 s0) ∧ (x2 = (5 : Int32) → wp_X2_doWithNumber_44  post σ x1 x2 x3 x4 s0))))
theorem aw_X2_doWithNumber_32 {G : aw_G} {d : Nat} (hd : 3 ≤ d) {post : Int32 → WSX2 → Prop}  {σ : WSX2} {x1 : Int32} {x2 : Int32} {x3 : Int32} {x4 : Int32} {s0 : Int32} (h : wp_X2_doWithNumber_32  post σ x1 x2 x3 x4 s0) : AW G MX2_doWithNumber d 0 0 4 (aw_pi (wX2 G) post) 32 [(0, .ref 0), (1, .int x1), (2, .int x2), (3, .int x3), (4, .int x4)] [.int s0] (wX2 G σ) := by
  unfold wp_X2_doWithNumber_32 at h
  refine aw_istore (lv' := [(5, .int s0), (0, .ref 0), (1, .int x1), (2, .int x2), (3, .int x3), (4, .int x4)]) dX2_doWithNumber_32 (by decide) rfl ?_
  refine aw_iload_n 3 dX2_doWithNumber_34 rfl rfl ?_
  refine aw_iconst (v := (1 : Int32)) dX2_doWithNumber_35 (by decide) ?_
  refine aw_icmp_eq 44 dX2_doWithNumber_36 (by decide) (fun c19 => ?_) (fun c19 => ?_)
  · have h := h.1 c19
    refine aw_lvsub (lv' := [(0, .ref 0), (1, .int x1), (2, .int x2), (3, .int x3), (4, .int x4), (5, .int s0)]) [1, 2, 3, 4, 5, 0] rfl ?_
    exact aw_X2_doWithNumber_44 hd  h
  · have h := h.2 c19
    refine aw_iload_n 3 dX2_doWithNumber_39 rfl rfl ?_
    refine aw_iconst (v := (5 : Int32)) dX2_doWithNumber_40 (by decide) ?_
    refine aw_icmp_ne 55 dX2_doWithNumber_41 (by decide) (fun c18 => ?_) (fun c18 => ?_)
    · have h := h.1 c18
      refine aw_lvsub (lv' := [(0, .ref 0), (1, .int x1), (2, .int x2), (4, .int x4), (5, .int s0)]) [1, 2, 3, 5, 0] rfl ?_
      exact aw_X2_doWithNumber_55 hd  h
    · have h := h.2 c18
      refine aw_lvsub (lv' := [(0, .ref 0), (1, .int x1), (2, .int x2), (3, .int x3), (4, .int x4), (5, .int s0)]) [1, 2, 3, 4, 5, 0] rfl ?_
      exact aw_X2_doWithNumber_44 hd  h
def wp_X2_doWithNumber_31  (post : Int32 → WSX2 → Prop) (σ : WSX2) (x1 : Int32) (x2 : Int32) (x3 : Int32) (x4 : Int32) : Prop :=
  wp_X2_doWithNumber_32  post σ x1 x2 x3 x4 (0 : Int32)
theorem aw_X2_doWithNumber_31 {G : aw_G} {d : Nat} (hd : 3 ≤ d) {post : Int32 → WSX2 → Prop}  {σ : WSX2} {x1 : Int32} {x2 : Int32} {x3 : Int32} {x4 : Int32} (h : wp_X2_doWithNumber_31  post σ x1 x2 x3 x4) : AW G MX2_doWithNumber d 0 0 4 (aw_pi (wX2 G) post) 31 [(0, .ref 0), (1, .int x1), (2, .int x2), (3, .int x3), (4, .int x4)] [] (wX2 G σ) := by
  unfold wp_X2_doWithNumber_31 at h
  refine aw_iconst (v := (0 : Int32)) dX2_doWithNumber_31 (by decide) ?_
  exact aw_X2_doWithNumber_32 hd  h
def wp_X2_doWithNumber (σ : WSX2) (a1 : Int32) (post : Int32 → WSX2 → Prop) : Prop :=
  wp_X2_third a1 (fun r1 τ2 => (∀ y3 : Int32, y3 = ((a1).toUInt32 >>> (((25 : Int32)).toUInt32 &&& Int32.toUInt32 31)).toInt32 → (∀ y4 : Int32, y4 = (a1 >>> ((20 : Int32) &&& 31)) → ((¬ r1 = (5 : Int32) → wp_X2_doWithNumber_31  post σ a1 r1 y3 y4) ∧ (r1 = (5 : Int32) → ((¬ y3 = (32 : Int32) → wp_X2_doWithNumber_31  post σ a1 r1 y3 y4) ∧ (y3 = (32 : Int32) → wp_X2_doWithNumber_32  post σ a1 r1 y3 y4 (1 : Int32))))))))
theorem kX2_doWithNumber {G : aw_G} {d : Nat} (hd : 3 ≤ d) {σ : WSX2} {a1 : Int32} {post : Int32 → WSX2 → Prop} (h : wp_X2_doWithNumber σ a1 post) : AC G MX2_doWithNumber d 0 0 4 [.ref 0, .int a1] (wX2 G σ) (aw_pi (wX2 G) post) := by
  refine AC.of (lv := [(0, .ref 0), (1, .int a1)]) (by decide) (Nat.le_of_ble_eq_true rfl) rfl ?_
  unfold wp_X2_doWithNumber at h
  refine aw_iload_n 1 dX2_doWithNumber_0 rfl rfl ?_
  refine aw_callST (st := []) (As := [.int a1]) lX2_97 sttX2_third (by omega) (kX2_third (d := 0) (by omega) h) rfl rfl rfl dX2_doWithNumber_1 rfl (fun _ _ hh => ?_)
  obtain ⟨r1, τ2, rfl, rfl, h⟩ := hh
  refine ⟨rfl, (fun x hx => by cases hx; rfl), ?_⟩
  refine aw_stk (st' := [.int r1]) rfl ?_
  refine aw_istore_n (lv' := [(2, .int r1), (0, .ref 0), (1, .int a1)]) dX2_doWithNumber_4 rfl (by decide) rfl ?_
  refine aw_iload_n 2 dX2_doWithNumber_5 rfl rfl ?_
  refine aw_bipush (v := (25 : Int32)) dX2_doWithNumber_6 (by decide) ?_
  refine aw_iushr dX2_doWithNumber_8 ?_
  refine aw_topi (fun y3 ey3 => ?_)
  have h := h y3 ey3
  refine aw_istore_n (lv' := [(3, .int y3), (2, .int r1), (0, .ref 0), (1, .int a1)]) dX2_doWithNumber_9 rfl (by decide) rfl ?_
  refine aw_iload_n 3 dX2_doWithNumber_10 rfl rfl ?_
  refine aw_bipush (v := (20 : Int32)) dX2_doWithNumber_11 (by decide) ?_
  refine aw_ishr dX2_doWithNumber_13 ?_
  refine aw_topi (fun y4 ey4 => ?_)
  have h := h y4 ey4
  refine aw_istore (lv' := [(4, .int y4), (3, .int y3), (2, .int r1), (0, .ref 0), (1, .int a1)]) dX2_doWithNumber_14 (by decide) rfl ?_
  refine aw_iload_n 2 dX2_doWithNumber_16 rfl rfl ?_
  refine aw_iconst (v := (5 : Int32)) dX2_doWithNumber_17 (by decide) ?_
  refine aw_icmp_ne 31 dX2_doWithNumber_18 (by decide) (fun c21 => ?_) (fun c21 => ?_)
  · have h := h.1 c21
    refine aw_lvsub (lv' := [(0, .ref 0), (1, .int a1), (2, .int r1), (3, .int y3), (4, .int y4)]) [3, 4, 2, 1, 0] rfl ?_
    exact aw_X2_doWithNumber_31 hd  h
  · have h := h.2 c21
    refine aw_iload_n 1 dX2_doWithNumber_21 rfl rfl ?_
    refine aw_bipush (v := (32 : Int32)) dX2_doWithNumber_22 (by decide) ?_
    refine aw_icmp_ne 31 dX2_doWithNumber_24 (by decide) (fun c20 => ?_) (fun c20 => ?_)
    · have h := h.1 c20
      refine aw_lvsub (lv' := [(0, .ref 0), (1, .int a1), (2, .int r1), (3, .int y3), (4, .int y4)]) [3, 4, 2, 1, 0] rfl ?_
      exact aw_X2_doWithNumber_31 hd  h
    · have h := h.2 c20
      refine aw_iconst (v := (1 : Int32)) dX2_doWithNumber_27 (by decide) ?_
      refine aw_goto 32 dX2_doWithNumber_28 (by decide) ?_
      refine aw_lvsub (lv' := [(0, .ref 0), (1, .int a1), (2, .int r1), (3, .int y3), (4, .int y4)]) [3, 4, 2, 1, 0] rfl ?_
      exact aw_X2_doWithNumber_32 hd  h
def wp_X2_product (σ : WSX2) (a1 : Int32) (a2 : Int32) (a3 : Int32) (post : Int32 → WSX2 → Prop) : Prop :=
  (∀ y1 : Int64, y1 = (σ.2.1.2 + (3 : Int64)) → ((a1 = (0 : Int32) → post (a2 * a3) (σ.1, ((σ.2.1.1, y1), σ.2.2))) ∧ (¬ a1 = (0 : Int32) → ((a1 = (1 : Int32) → post ((((a2).toInt64 * (a3).toInt64) >>> (((32 : Int32)).toInt64 &&& 63))).toInt32 (σ.1, ((σ.2.1.1, y1), σ.2.2))) ∧ (¬ a1 = (1 : Int32) → ((a1 = (2 : Int32) → post ((((a2).toInt64 * ((a3).toInt64 &&& (4294967295 : Int64))) >>> (((32 : Int32)).toInt64 &&& 63))).toInt32 (σ.1, ((σ.2.1.1, y1), σ.2.2))) ∧ (¬ a1 = (2 : Int32) → post ((((((a2).toInt64 &&& (4294967295 : Int64)) * ((a3).toInt64 &&& (4294967295 : Int64)))).toUInt64 >>> (((32 : Int32)).toInt64.toUInt64 &&& Int64.toUInt64 63)).toInt64).toInt32 (σ.1, ((σ.2.1.1, y1), σ.2.2)))))))))
theorem kX2_product {G : aw_G} {d : Nat} (hd : 0 ≤ d) {σ : WSX2} {a1 : Int32} {a2 : Int32} {a3 : Int32} {post : Int32 → WSX2 → Prop} (h : wp_X2_product σ a1 a2 a3 post) : AC G MX2_product d 0 0 4 [.ref 0, .int a1, .int a2, .int a3] (wX2 G σ) (aw_pi (wX2 G) post) := by
  refine AC.of (lv := [(0, .ref 0), (1, .int a1), (2, .int a2), (3, .int a3)]) (by decide) (Nat.le_of_ble_eq_true rfl) rfl ?_
  unfold wp_X2_product at h
  refine aw_aload_n 0 dX2_product_0 rfl rfl ?_
  refine aw_dup dX2_product_1 rfl ?_
  refine aw_getf (v := .long σ.2.1.2) fX2_26 0 rfl rfl dX2_product_2 ?_
  refine aw_ldc2 (v := (3 : Int64)) dX2_product_5 oX2_128 ?_
  refine aw_ladd dX2_product_8 ?_
  refine aw_topl (fun y1 ey1 => ?_)
  have h := h y1 ey1
  refine aw_putf fX2_26 0 (w' := (wX2 G (σ.1, ((σ.2.1.1, y1), σ.2.2)))) rfl (fun _ => ⟨rfl, rfl⟩) (Nat.le_of_ble_eq_true rfl) rfl dX2_product_9 ?_
  refine aw_iload_n 1 dX2_product_12 rfl rfl ?_
  by_cases c2 : a1 = (0 : Int32)
  · refine aw_tableIn 40 (off := 27) dX2_product_13 (by rw [c2]; decide) (by rw [c2]; decide) (by rw [c2]; rfl) (by decide) ?_
    have h := h.1 c2
    refine aw_iload_n 2 dX2_product_40 rfl rfl ?_
    refine aw_iload_n 3 dX2_product_41 rfl rfl ?_
    refine aw_imul dX2_product_42 ?_
    exact aw_iret rfl dX2_product_43 ⟨_, (σ.1, ((σ.2.1.1, y1), σ.2.2)), rfl, rfl, h⟩
  have h := h.2 c2
  by_cases c3 : a1 = (1 : Int32)
  · refine aw_tableIn 44 (off := 31) dX2_product_13 (by rw [c3]; decide) (by rw [c3]; decide) (by rw [c3]; rfl) (by decide) ?_
    have h := h.1 c3
    refine aw_iload_n 2 dX2_product_44 rfl rfl ?_
    refine aw_i2l dX2_product_45 ?_
    refine aw_iload_n 3 dX2_product_46 rfl rfl ?_
    refine aw_i2l dX2_product_47 ?_
    refine aw_lmul dX2_product_48 ?_
    refine aw_bipush (v := (32 : Int32)) dX2_product_49 (by decide) ?_
    refine aw_lshr dX2_product_51 ?_
    refine aw_l2i dX2_product_52 ?_
    exact aw_iret rfl dX2_product_53 ⟨_, (σ.1, ((σ.2.1.1, y1), σ.2.2)), rfl, rfl, h⟩
  have h := h.2 c3
  by_cases c4 : a1 = (2 : Int32)
  · refine aw_tableIn 54 (off := 41) dX2_product_13 (by rw [c4]; decide) (by rw [c4]; decide) (by rw [c4]; rfl) (by decide) ?_
    have h := h.1 c4
    refine aw_iload_n 2 dX2_product_54 rfl rfl ?_
    refine aw_i2l dX2_product_55 ?_
    refine aw_iload_n 3 dX2_product_56 rfl rfl ?_
    refine aw_i2l dX2_product_57 ?_
    refine aw_ldc2 (v := (4294967295 : Int64)) dX2_product_58 oX2_113 ?_
    refine aw_land dX2_product_61 ?_
    refine aw_lmul dX2_product_62 ?_
    refine aw_bipush (v := (32 : Int32)) dX2_product_63 (by decide) ?_
    refine aw_lshr dX2_product_65 ?_
    refine aw_l2i dX2_product_66 ?_
    exact aw_iret rfl dX2_product_67 ⟨_, (σ.1, ((σ.2.1.1, y1), σ.2.2)), rfl, rfl, h⟩
  have h := h.2 c4
  refine aw_tableOut 68 dX2_product_13 (by have := lv_neT (a := 0) c2 rfl; have := lv_neT (a := 1) c3 rfl; have := lv_neT (a := 2) c4 rfl; omega) (by decide) ?_
  refine aw_iload_n 2 dX2_product_68 rfl rfl ?_
  refine aw_i2l dX2_product_69 ?_
  refine aw_ldc2 (v := (4294967295 : Int64)) dX2_product_70 oX2_113 ?_
  refine aw_land dX2_product_73 ?_
  refine aw_iload_n 3 dX2_product_74 rfl rfl ?_
  refine aw_i2l dX2_product_75 ?_
  refine aw_ldc2 (v := (4294967295 : Int64)) dX2_product_76 oX2_113 ?_
  refine aw_land dX2_product_79 ?_
  refine aw_lmul dX2_product_80 ?_
  refine aw_bipush (v := (32 : Int32)) dX2_product_81 (by decide) ?_
  refine aw_lushr dX2_product_83 ?_
  refine aw_l2i dX2_product_84 ?_
  exact aw_iret rfl dX2_product_85 ⟨_, (σ.1, ((σ.2.1.1, y1), σ.2.2)), rfl, rfl, h⟩
def wp_X2_division_106  (post : Int32 → WSX2 → Prop) (σ : WSX2) (x4 : Int32) (x6 : Int64) (s0 : Int64) : Prop :=
  ((¬ (lg_cmp s0 (0 : Int64)) = 0 → ((x4 = 0 → (¬ s0 = 0 ∧ post ((x6 - x6 / s0 * s0)).toInt32 σ)) ∧ (¬ x4 = 0 → (¬ s0 = 0 ∧ post ((x6 / s0)).toInt32 σ)))) ∧ ((lg_cmp s0 (0 : Int64)) = 0 → post (0 : Int32) σ))
theorem aw_X2_division_106 {G : aw_G} {d : Nat} (hd : 1 ≤ d) {post : Int32 → WSX2 → Prop}  {σ : WSX2} {x4 : Int32} {x6 : Int64} {s0 : Int64} (h : wp_X2_division_106  post σ x4 x6 s0) : AW G MX2_division d 0 0 4 (aw_pi (wX2 G) post) 106 [(4, .int x4), (6, .long x6)] [.long s0] (wX2 G σ) := by
  unfold wp_X2_division_106 at h
  refine aw_lstore (lv' := [(8, .long s0), (4, .int x4), (6, .long x6)]) dX2_division_106 (by decide) rfl ?_
  refine aw_lload 0 dX2_division_108 rfl ?_
  refine aw_lconst (v := (0 : Int64)) dX2_division_110 (by decide) ?_
  refine aw_lcmp dX2_division_111 ?_
  refine aw_if_ne 117 dX2_division_112 (by decide) (fun c7 => ?_) (fun c7 => ?_)
  · have h := h.1 c7
    refine aw_iload 1 dX2_division_117 rfl ?_
    refine aw_if_eq 130 dX2_division_119 (by decide) (fun c6 => ?_) (fun c6 => ?_)
    · have h := h.1 c6
      refine aw_lload 2 dX2_division_130 rfl ?_
      refine aw_lload 0 dX2_division_132 rfl ?_
      refine aw_lrem dX2_division_134 h.1 ?_
      have h := h.2
      refine aw_l2i dX2_division_135 ?_
      exact aw_iret rfl dX2_division_136 ⟨_, σ, rfl, rfl, h⟩
    · have h := h.2 c6
      refine aw_lload 2 dX2_division_122 rfl ?_
      refine aw_lload 0 dX2_division_124 rfl ?_
      refine aw_ldiv dX2_division_126 h.1 ?_
      have h := h.2
      refine aw_goto 135 dX2_division_127 (by decide) ?_
      refine aw_l2i dX2_division_135 ?_
      exact aw_iret rfl dX2_division_136 ⟨_, σ, rfl, rfl, h⟩
  · have h := h.2 c7
    refine aw_iconst (v := (0 : Int32)) dX2_division_115 (by decide) ?_
    exact aw_iret rfl dX2_division_116 ⟨_, σ, rfl, rfl, h⟩
def wp_X2_division_88  (post : Int32 → WSX2 → Prop) (σ : WSX2) (x3 : Int32) (x4 : Int32) (x5 : Int32) (s0 : Int64) : Prop :=
  ((x5 = 0 → wp_X2_division_106  post σ x4 s0 ((x3).toInt64 &&& (4294967295 : Int64))) ∧ (¬ x5 = 0 → wp_X2_division_106  post σ x4 s0 (x3).toInt64))
theorem aw_X2_division_88 {G : aw_G} {d : Nat} (hd : 1 ≤ d) {post : Int32 → WSX2 → Prop}  {σ : WSX2} {x3 : Int32} {x4 : Int32} {x5 : Int32} {s0 : Int64} (h : wp_X2_division_88  post σ x3 x4 x5 s0) : AW G MX2_division d 0 0 4 (aw_pi (wX2 G) post) 88 [(3, .int x3), (4, .int x4), (5, .int x5)] [.long s0] (wX2 G σ) := by
  unfold wp_X2_division_88 at h
  refine aw_lstore (lv' := [(6, .long s0), (3, .int x3), (4, .int x4), (5, .int x5)]) dX2_division_88 (by decide) rfl ?_
  refine aw_iload 3 dX2_division_90 rfl ?_
  refine aw_if_eq 100 dX2_division_92 (by decide) (fun c8 => ?_) (fun c8 => ?_)
  · have h := h.1 c8
    refine aw_iload_n 1 dX2_division_100 rfl rfl ?_
    refine aw_i2l dX2_division_101 ?_
    refine aw_ldc2 (v := (4294967295 : Int64)) dX2_division_102 oX2_113 ?_
    refine aw_land dX2_division_105 ?_
    refine aw_lvsub (lv' := [(4, .int x4), (6, .long s0)]) [2, 0] rfl ?_
    exact aw_X2_division_106 hd  h
  · have h := h.2 c8
    refine aw_iload_n 1 dX2_division_95 rfl rfl ?_
    refine aw_i2l dX2_division_96 ?_
    refine aw_goto 106 dX2_division_97 (by decide) ?_
    refine aw_lvsub (lv' := [(4, .int x4), (6, .long s0)]) [2, 0] rfl ?_
    exact aw_X2_division_106 hd  h
def wp_X2_division_70  (post : Int32 → WSX2 → Prop) (σ : WSX2) (x2 : Int32) (x3 : Int32) (x4 : Int32) (s0 : Int32) : Prop :=
  ((s0 = 0 → wp_X2_division_88  post σ x3 x4 s0 ((x2).toInt64 &&& (4294967295 : Int64))) ∧ (¬ s0 = 0 → wp_X2_division_88  post σ x3 x4 s0 (x2).toInt64))
theorem aw_X2_division_70 {G : aw_G} {d : Nat} (hd : 1 ≤ d) {post : Int32 → WSX2 → Prop}  {σ : WSX2} {x2 : Int32} {x3 : Int32} {x4 : Int32} {s0 : Int32} (h : wp_X2_division_70  post σ x2 x3 x4 s0) : AW G MX2_division d 0 0 4 (aw_pi (wX2 G) post) 70 [(2, .int x2), (3, .int x3), (4, .int x4)] [.int s0] (wX2 G σ) := by
  unfold wp_X2_division_70 at h
  refine aw_istore (lv' := [(5, .int s0), (2, .int x2), (3, .int x3), (4, .int x4)]) dX2_division_70 (by decide) rfl ?_
  refine aw_iload 0 dX2_division_72 rfl ?_
  refine aw_if_eq 82 dX2_division_74 (by decide) (fun c9 => ?_) (fun c9 => ?_)
  · have h := h.1 c9
    refine aw_iload_n 1 dX2_division_82 rfl rfl ?_
    refine aw_i2l dX2_division_83 ?_
    refine aw_ldc2 (v := (4294967295 : Int64)) dX2_division_84 oX2_113 ?_
    refine aw_land dX2_division_87 ?_
    refine aw_lvsub (lv' := [(3, .int x3), (4, .int x4), (5, .int s0)]) [2, 3, 0] rfl ?_
    exact aw_X2_division_88 hd  h
  · have h := h.2 c9
    refine aw_iload_n 1 dX2_division_77 rfl rfl ?_
    refine aw_i2l dX2_division_78 ?_
    refine aw_goto 88 dX2_division_79 (by decide) ?_
    refine aw_lvsub (lv' := [(3, .int x3), (4, .int x4), (5, .int s0)]) [2, 3, 0] rfl ?_
    exact aw_X2_division_88 hd  h
def wp_X2_division_65  (post : Int32 → WSX2 → Prop) (σ : WSX2) (x2 : Int32) (x3 : Int32) (x4 : Int32) : Prop :=
  wp_X2_division_70  post σ x2 x3 x4 (1 : Int32)
theorem aw_X2_division_65 {G : aw_G} {d : Nat} (hd : 1 ≤ d) {post : Int32 → WSX2 → Prop}  {σ : WSX2} {x2 : Int32} {x3 : Int32} {x4 : Int32} (h : wp_X2_division_65  post σ x2 x3 x4) : AW G MX2_division d 0 0 4 (aw_pi (wX2 G) post) 65 [(2, .int x2), (3, .int x3), (4, .int x4)] [] (wX2 G σ) := by
  unfold wp_X2_division_65 at h
  refine aw_iconst (v := (1 : Int32)) dX2_division_65 (by decide) ?_
  refine aw_goto 70 dX2_division_66 (by decide) ?_
  exact aw_X2_division_70 hd  h
def wp_X2_division_37  (post : Int32 → WSX2 → Prop) (σ : WSX2) (x1 : Int32) (x2 : Int32) (x3 : Int32) (s0 : Int32) : Prop :=
  ((¬ x3 = 0 → ((x1 = (4 : Int32) → wp_X2_division_65  post σ x2 x3 s0) ∧ (¬ x1 = (4 : Int32) → ((¬ x1 = (6 : Int32) → wp_X2_division_70  post σ x2 x3 s0 (0 : Int32)) ∧ (x1 = (6 : Int32) → wp_X2_division_65  post σ x2 x3 s0))))) ∧ (x3 = 0 → ((s0 = 0 → post x2 σ) ∧ (¬ s0 = 0 → post ((-1) : Int32) σ))))
theorem aw_X2_division_37 {G : aw_G} {d : Nat} (hd : 1 ≤ d) {post : Int32 → WSX2 → Prop}  {σ : WSX2} {x1 : Int32} {x2 : Int32} {x3 : Int32} {s0 : Int32} (h : wp_X2_division_37  post σ x1 x2 x3 s0) : AW G MX2_division d 0 0 4 (aw_pi (wX2 G) post) 37 [(1, .int x1), (2, .int x2), (3, .int x3)] [.int s0] (wX2 G σ) := by
  unfold wp_X2_division_37 at h
  refine aw_istore (lv' := [(4, .int s0), (1, .int x1), (2, .int x2), (3, .int x3)]) dX2_division_37 (by decide) rfl ?_
  refine aw_iload_n 3 dX2_division_39 rfl rfl ?_
  refine aw_if_ne 54 dX2_division_40 (by decide) (fun c13 => ?_) (fun c13 => ?_)
  · have h := h.1 c13
    refine aw_iload_n 1 dX2_division_54 rfl rfl ?_
    refine aw_iconst (v := (4 : Int32)) dX2_division_55 (by decide) ?_
    refine aw_icmp_eq 65 dX2_division_56 (by decide) (fun c11 => ?_) (fun c11 => ?_)
    · have h := h.1 c11
      refine aw_lvsub (lv' := [(2, .int x2), (3, .int x3), (4, .int s0)]) [2, 3, 0] rfl ?_
      exact aw_X2_division_65 hd  h
    · have h := h.2 c11
      refine aw_iload_n 1 dX2_division_59 rfl rfl ?_
      refine aw_bipush (v := (6 : Int32)) dX2_division_60 (by decide) ?_
      refine aw_icmp_ne 69 dX2_division_62 (by decide) (fun c10 => ?_) (fun c10 => ?_)
      · have h := h.1 c10
        refine aw_iconst (v := (0 : Int32)) dX2_division_69 (by decide) ?_
        refine aw_lvsub (lv' := [(2, .int x2), (3, .int x3), (4, .int s0)]) [2, 3, 0] rfl ?_
        exact aw_X2_division_70 hd  h
      · have h := h.2 c10
        refine aw_lvsub (lv' := [(2, .int x2), (3, .int x3), (4, .int s0)]) [2, 3, 0] rfl ?_
        exact aw_X2_division_65 hd  h
  · have h := h.2 c13
    refine aw_iload 0 dX2_division_43 rfl ?_
    refine aw_if_eq 52 dX2_division_45 (by decide) (fun c12 => ?_) (fun c12 => ?_)
    · have h := h.1 c12
      refine aw_iload_n 2 dX2_division_52 rfl rfl ?_
      exact aw_iret rfl dX2_division_53 ⟨_, σ, rfl, rfl, h⟩
    · have h := h.2 c12
      refine aw_iconst (v := ((-1) : Int32)) dX2_division_48 (by decide) ?_
      refine aw_goto 53 dX2_division_49 (by decide) ?_
      exact aw_iret rfl dX2_division_53 ⟨_, σ, rfl, rfl, h⟩
def wp_X2_division_32  (post : Int32 → WSX2 → Prop) (σ : WSX2) (x1 : Int32) (x2 : Int32) (x3 : Int32) : Prop :=
  wp_X2_division_37  post σ x1 x2 x3 (1 : Int32)
theorem aw_X2_division_32 {G : aw_G} {d : Nat} (hd : 1 ≤ d) {post : Int32 → WSX2 → Prop}  {σ : WSX2} {x1 : Int32} {x2 : Int32} {x3 : Int32} (h : wp_X2_division_32  post σ x1 x2 x3) : AW G MX2_division d 0 0 4 (aw_pi (wX2 G) post) 32 [(1, .int x1), (2, .int x2), (3, .int x3)] [] (wX2 G σ) := by
  unfold wp_X2_division_32 at h
  refine aw_iconst (v := (1 : Int32)) dX2_division_32 (by decide) ?_
  refine aw_goto 37 dX2_division_33 (by decide) ?_
  exact aw_X2_division_37 hd  h
def wp_X2_division (σ : WSX2) (a1 : Int32) (a2 : Int32) (a3 : Int32) (post : Int32 → WSX2 → Prop) : Prop :=
  (∀ y1 : Int64, y1 = (σ.2.1.2 + (32 : Int64)) → wp_X2_note (σ.1, ((σ.2.1.1, y1), σ.2.2)) a2 (fun τ3 => wp_X2_note τ3 a3 (fun τ5 => ((a1 = (4 : Int32) → wp_X2_division_32  post τ5 a1 a2 a3) ∧ (¬ a1 = (4 : Int32) → ((¬ a1 = (5 : Int32) → wp_X2_division_37  post τ5 a1 a2 a3 (0 : Int32)) ∧ (a1 = (5 : Int32) → wp_X2_division_32  post τ5 a1 a2 a3)))))))
theorem kX2_division {G : aw_G} {d : Nat} (hd : 1 ≤ d) {σ : WSX2} {a1 : Int32} {a2 : Int32} {a3 : Int32} {post : Int32 → WSX2 → Prop} (h : wp_X2_division σ a1 a2 a3 post) : AC G MX2_division d 0 0 4 [.ref 0, .int a1, .int a2, .int a3] (wX2 G σ) (aw_pi (wX2 G) post) := by
  refine AC.of (lv := [(0, .ref 0), (1, .int a1), (2, .int a2), (3, .int a3)]) (by decide) (Nat.le_of_ble_eq_true rfl) rfl ?_
  unfold wp_X2_division at h
  refine aw_aload_n 0 dX2_division_0 rfl rfl ?_
  refine aw_dup dX2_division_1 rfl ?_
  refine aw_getf (v := .long σ.2.1.2) fX2_26 0 rfl rfl dX2_division_2 ?_
  refine aw_ldc2 (v := (32 : Int64)) dX2_division_5 oX2_130 ?_
  refine aw_ladd dX2_division_8 ?_
  refine aw_topl (fun y1 ey1 => ?_)
  have h := h y1 ey1
  refine aw_putf fX2_26 0 (w' := (wX2 G (σ.1, ((σ.2.1.1, y1), σ.2.2)))) rfl (fun _ => ⟨rfl, rfl⟩) (Nat.le_of_ble_eq_true rfl) rfl dX2_division_9 ?_
  refine aw_aload_n 0 dX2_division_12 rfl rfl ?_
  refine aw_iload_n 2 dX2_division_13 rfl rfl ?_
  refine aw_callVT (mc1 := 0) (ms1 := 0) (mc := 0) (ms := 0) (st := []) (q := 0) (As := [.int a2]) lX2_88 insX2_note selX2_note ⟨TX2, 8, rfl⟩ (by omega) (kX2_note (d := 0) (by omega) h) (Nat.le_of_ble_eq_true rfl) rfl rfl rfl dX2_division_14 rfl (fun _ _ hh => ?_)
  obtain ⟨τ3, rfl, rfl, h⟩ := hh
  refine aw_stk (st' := []) rfl ?_
  refine aw_aload_n 0 dX2_division_17 rfl rfl ?_
  refine aw_iload_n 3 dX2_division_18 rfl rfl ?_
  refine aw_callVT (mc1 := 0) (ms1 := 0) (mc := 0) (ms := 0) (st := []) (q := 0) (As := [.int a3]) lX2_88 insX2_note selX2_note ⟨TX2, 8, rfl⟩ (by omega) (kX2_note (d := 0) (by omega) h) (Nat.le_of_ble_eq_true rfl) rfl rfl rfl dX2_division_19 rfl (fun _ _ hh => ?_)
  obtain ⟨τ5, rfl, rfl, h⟩ := hh
  refine aw_stk (st' := []) rfl ?_
  refine aw_iload_n 1 dX2_division_22 rfl rfl ?_
  refine aw_iconst (v := (4 : Int32)) dX2_division_23 (by decide) ?_
  refine aw_icmp_eq 32 dX2_division_24 (by decide) (fun c15 => ?_) (fun c15 => ?_)
  · have h := h.1 c15
    refine aw_lvsub (lv' := [(1, .int a1), (2, .int a2), (3, .int a3)]) [1, 2, 3] rfl ?_
    exact aw_X2_division_32 hd  h
  · have h := h.2 c15
    refine aw_iload_n 1 dX2_division_27 rfl rfl ?_
    refine aw_iconst (v := (5 : Int32)) dX2_division_28 (by decide) ?_
    refine aw_icmp_ne 36 dX2_division_29 (by decide) (fun c14 => ?_) (fun c14 => ?_)
    · have h := h.1 c14
      refine aw_iconst (v := (0 : Int32)) dX2_division_36 (by decide) ?_
      refine aw_lvsub (lv' := [(1, .int a1), (2, .int a2), (3, .int a3)]) [1, 2, 3] rfl ?_
      exact aw_X2_division_37 hd  h
    · have h := h.2 c14
      refine aw_lvsub (lv' := [(1, .int a1), (2, .int a2), (3, .int a3)]) [1, 2, 3] rfl ?_
      exact aw_X2_division_32 hd  h
def wp_X2_doWithRegisters_103  (post : Int32 → WSX2 → Prop) (σ : WSX2) (s0 : Int32) (s1 : Int32) : Prop :=
  wp_X2_pass σ s1 s0 (fun r19 τ20 => post r19 τ20)
theorem aw_X2_doWithRegisters_103 {G : aw_G} {d : Nat} (hd : 3 ≤ d) {post : Int32 → WSX2 → Prop}  {σ : WSX2} {s0 : Int32} {s1 : Int32} (h : wp_X2_doWithRegisters_103  post σ s0 s1) : AW G MX2_doWithRegisters d 0 0 4 (aw_pi (wX2 G) post) 103 [] [.int s0, .int s1, .ref 0] (wX2 G σ) := by
  unfold wp_X2_doWithRegisters_103 at h
  refine aw_callVT (mc1 := 0) (ms1 := 0) (mc := 0) (ms := 0) (st := []) (q := 0) (As := [.int s1, .int s0]) lX2_53 insX2_pass selX2_pass ⟨TX2, 8, rfl⟩ (by omega) (kX2_pass (d := 1) (by omega) h) (Nat.le_of_ble_eq_true rfl) rfl rfl rfl dX2_doWithRegisters_103 rfl (fun _ _ hh => ?_)
  obtain ⟨r19, τ20, rfl, rfl, h⟩ := hh
  refine aw_stk (st' := [.int r19]) rfl ?_
  exact aw_iret rfl dX2_doWithRegisters_106 ⟨_, τ20, rfl, rfl, h⟩
def wp_X2_doWithRegisters_142  (post : Int32 → WSX2 → Prop) (σ : WSX2) (s0 : Int32) (s1 : Int32) : Prop :=
  wp_X2_pass σ s1 s0 (fun r27 τ28 => post r27 τ28)
theorem aw_X2_doWithRegisters_142 {G : aw_G} {d : Nat} (hd : 3 ≤ d) {post : Int32 → WSX2 → Prop}  {σ : WSX2} {s0 : Int32} {s1 : Int32} (h : wp_X2_doWithRegisters_142  post σ s0 s1) : AW G MX2_doWithRegisters d 0 0 4 (aw_pi (wX2 G) post) 142 [] [.int s0, .int s1, .ref 0] (wX2 G σ) := by
  unfold wp_X2_doWithRegisters_142 at h
  refine aw_callVT (mc1 := 0) (ms1 := 0) (mc := 0) (ms := 0) (st := []) (q := 0) (As := [.int s1, .int s0]) lX2_53 insX2_pass selX2_pass ⟨TX2, 8, rfl⟩ (by omega) (kX2_pass (d := 1) (by omega) h) (Nat.le_of_ble_eq_true rfl) rfl rfl rfl dX2_doWithRegisters_142 rfl (fun _ _ hh => ?_)
  obtain ⟨r27, τ28, rfl, rfl, h⟩ := hh
  refine aw_stk (st' := [.int r27]) rfl ?_
  exact aw_iret rfl dX2_doWithRegisters_145 ⟨_, τ28, rfl, rfl, h⟩
def wp_X2_doWithRegisters_118  (post : Int32 → WSX2 → Prop) (σ : WSX2) (x1 : Int32) (x2 : Int32) (x3 : Int32) (x4 : Int32) : Prop :=
  wp_X2_begin σ  (fun τ26 => ((¬ x2 = 0 → wp_X2_doWithRegisters_142  post τ26 (x3 >>> ((x4 &&& (31 : Int32)) &&& 31)) x1) ∧ (x2 = 0 → wp_X2_doWithRegisters_142  post τ26 (x3 - x4) x1)))
theorem aw_X2_doWithRegisters_118 {G : aw_G} {d : Nat} (hd : 3 ≤ d) {post : Int32 → WSX2 → Prop}  {σ : WSX2} {x1 : Int32} {x2 : Int32} {x3 : Int32} {x4 : Int32} (h : wp_X2_doWithRegisters_118  post σ x1 x2 x3 x4) : AW G MX2_doWithRegisters d 0 0 4 (aw_pi (wX2 G) post) 118 [(0, .ref 0), (1, .int x1), (2, .int x2), (3, .int x3), (4, .int x4)] [] (wX2 G σ) := by
  unfold wp_X2_doWithRegisters_118 at h
  refine aw_aload_n 0 dX2_doWithRegisters_118 rfl rfl ?_
  refine aw_callVT (mc1 := 0) (ms1 := 0) (mc := 0) (ms := 0) (st := []) (q := 0) (As := []) lX2_50 insX2_begin selX2_begin ⟨TX2, 8, rfl⟩ (by omega) (kX2_begin (d := 2) (by omega) h) (Nat.le_of_ble_eq_true rfl) rfl rfl rfl dX2_doWithRegisters_119 rfl (fun _ _ hh => ?_)
  obtain ⟨τ26, rfl, rfl, h⟩ := hh
  refine aw_stk (st' := []) rfl ?_
  refine aw_aload_n 0 dX2_doWithRegisters_122 rfl rfl ?_
  refine aw_iload_n 1 dX2_doWithRegisters_123 rfl rfl ?_
  refine aw_iload_n 2 dX2_doWithRegisters_124 rfl rfl ?_
  refine aw_if_ne 135 dX2_doWithRegisters_125 (by decide) (fun c29 => ?_) (fun c29 => ?_)
  · have h := h.1 c29
    refine aw_iload_n 3 dX2_doWithRegisters_135 rfl rfl ?_
    refine aw_iload 4 dX2_doWithRegisters_136 rfl ?_
    refine aw_bipush (v := (31 : Int32)) dX2_doWithRegisters_138 (by decide) ?_
    refine aw_iand dX2_doWithRegisters_140 ?_
    refine aw_ishr dX2_doWithRegisters_141 ?_
    refine aw_lvsub (lv' := []) [] rfl ?_
    exact aw_X2_doWithRegisters_142 hd  h
  · have h := h.2 c29
    refine aw_iload_n 3 dX2_doWithRegisters_128 rfl rfl ?_
    refine aw_iload 4 dX2_doWithRegisters_129 rfl ?_
    refine aw_isub dX2_doWithRegisters_131 ?_
    refine aw_goto 142 dX2_doWithRegisters_132 (by decide) ?_
    refine aw_lvsub (lv' := []) [] rfl ?_
    exact aw_X2_doWithRegisters_142 hd  h
def wp_X2_doWithRegisters (σ : WSX2) (a1 : Int32) (post : Int32 → WSX2 → Prop) : Prop :=
  wp_X2_third a1 (fun r1 τ2 => wp_X2_left σ a1 (fun r3 τ4 => wp_X2_right τ4 a1 (fun r5 τ6 => ((((a1).toUInt32 >>> (((25 : Int32)).toUInt32 &&& Int32.toUInt32 31)).toInt32 = (0 : Int32) → wp_X2_begin τ6  (fun τ9 => wp_X2_join r1 r3 r5 (fun r10 τ11 => wp_X2_pass τ9 a1 r10 (fun r12 τ13 => post r12 τ13)))) ∧ (¬ ((a1).toUInt32 >>> (((25 : Int32)).toUInt32 &&& Int32.toUInt32 31)).toInt32 = (0 : Int32) → ((((a1).toUInt32 >>> (((25 : Int32)).toUInt32 &&& Int32.toUInt32 31)).toInt32 = (1 : Int32) → wp_X2_begin τ6  (fun τ16 => (((4 : Int32) ≤ r1 → wp_X2_division τ16 r1 r3 r5 (fun r17 τ18 => wp_X2_doWithRegisters_103  post τ18 r17 a1)) ∧ (¬ (4 : Int32) ≤ r1 → wp_X2_product τ16 r1 r3 r5 (fun r21 τ22 => wp_X2_doWithRegisters_103  post τ22 r21 a1))))) ∧ (¬ ((a1).toUInt32 >>> (((25 : Int32)).toUInt32 &&& Int32.toUInt32 31)).toInt32 = (1 : Int32) → ((((a1).toUInt32 >>> (((25 : Int32)).toUInt32 &&& Int32.toUInt32 31)).toInt32 = (32 : Int32) → ((r1 = 0 → wp_X2_doWithRegisters_118  post τ6 a1 r1 r3 r5) ∧ (¬ r1 = 0 → ((r1 = (5 : Int32) → wp_X2_doWithRegisters_118  post τ6 a1 r1 r3 r5) ∧ (¬ r1 = (5 : Int32) → post (2 : Int32) τ6))))) ∧ (¬ ((a1).toUInt32 >>> (((25 : Int32)).toUInt32 &&& Int32.toUInt32 31)).toInt32 = (32 : Int32) → post (2 : Int32) τ6)))))))))
theorem kX2_doWithRegisters {G : aw_G} {d : Nat} (hd : 3 ≤ d) {σ : WSX2} {a1 : Int32} {post : Int32 → WSX2 → Prop} (h : wp_X2_doWithRegisters σ a1 post) : AC G MX2_doWithRegisters d 0 0 4 [.ref 0, .int a1] (wX2 G σ) (aw_pi (wX2 G) post) := by
  refine AC.of (lv := [(0, .ref 0), (1, .int a1)]) (by decide) (Nat.le_of_ble_eq_true rfl) rfl ?_
  unfold wp_X2_doWithRegisters at h
  refine aw_iload_n 1 dX2_doWithRegisters_0 rfl rfl ?_
  refine aw_callST (st := []) (As := [.int a1]) lX2_97 sttX2_third (by omega) (kX2_third (d := 0) (by omega) h) rfl rfl rfl dX2_doWithRegisters_1 rfl (fun _ _ hh => ?_)
  obtain ⟨r1, τ2, rfl, rfl, h⟩ := hh
  refine ⟨rfl, (fun x hx => by cases hx; rfl), ?_⟩
  refine aw_stk (st' := [.int r1]) rfl ?_
  refine aw_istore_n (lv' := [(2, .int r1), (0, .ref 0), (1, .int a1)]) dX2_doWithRegisters_4 rfl (by decide) rfl ?_
  refine aw_aload_n 1 dX2_doWithRegisters_5 rfl rfl ?_
  refine aw_iload_n 2 dX2_doWithRegisters_6 rfl rfl ?_
  refine aw_callVT (mc1 := 0) (ms1 := 0) (mc := 0) (ms := 0) (st := []) (q := 0) (As := [.int a1]) lX2_100 insX2_left selX2_left ⟨TX2, 8, rfl⟩ (by omega) (kX2_left (d := 0) (by omega) h) (Nat.le_of_ble_eq_true rfl) rfl rfl rfl dX2_doWithRegisters_7 rfl (fun _ _ hh => ?_)
  obtain ⟨r3, τ4, rfl, rfl, h⟩ := hh
  refine aw_stk (st' := [.int r3]) rfl ?_
  refine aw_istore_n (lv' := [(3, .int r3), (2, .int r1), (0, .ref 0), (1, .int a1)]) dX2_doWithRegisters_10 rfl (by decide) rfl ?_
  refine aw_aload_n 2 dX2_doWithRegisters_11 rfl rfl ?_
  refine aw_iload_n 3 dX2_doWithRegisters_12 rfl rfl ?_
  refine aw_callVT (mc1 := 0) (ms1 := 0) (mc := 0) (ms := 0) (st := []) (q := 0) (As := [.int a1]) lX2_103 insX2_right selX2_right ⟨TX2, 8, rfl⟩ (by omega) (kX2_right (d := 0) (by omega) h) (Nat.le_of_ble_eq_true rfl) rfl rfl rfl dX2_doWithRegisters_13 rfl (fun _ _ hh => ?_)
  obtain ⟨r5, τ6, rfl, rfl, h⟩ := hh
  refine aw_stk (st' := [.int r5]) rfl ?_
  refine aw_istore (lv' := [(4, .int r5), (3, .int r3), (2, .int r1), (0, .ref 0), (1, .int a1)]) dX2_doWithRegisters_16 (by decide) rfl ?_
  refine aw_iload_n 4 dX2_doWithRegisters_18 rfl rfl ?_
  refine aw_bipush (v := (25 : Int32)) dX2_doWithRegisters_19 (by decide) ?_
  refine aw_iushr dX2_doWithRegisters_21 ?_
  by_cases c7 : ((a1).toUInt32 >>> (((25 : Int32)).toUInt32 &&& Int32.toUInt32 31)).toInt32 = (0 : Int32)
  · refine aw_lookup 56 (off := 34) dX2_doWithRegisters_22 (by decide) (aw_swh (a := 0) c7 rfl) (by decide) ?_
    have h := h.1 c7
    refine aw_aload_n 3 dX2_doWithRegisters_56 rfl rfl ?_
    refine aw_callVT (mc1 := 0) (ms1 := 0) (mc := 0) (ms := 0) (st := []) (q := 0) (As := []) lX2_50 insX2_begin selX2_begin ⟨TX2, 8, rfl⟩ (by omega) (kX2_begin (d := 2) (by omega) h) (Nat.le_of_ble_eq_true rfl) rfl rfl rfl dX2_doWithRegisters_57 rfl (fun _ _ hh => ?_)
    obtain ⟨τ9, rfl, rfl, h⟩ := hh
    refine aw_stk (st' := []) rfl ?_
    refine aw_aload_n 3 dX2_doWithRegisters_60 rfl rfl ?_
    refine aw_iload_n 4 dX2_doWithRegisters_61 rfl rfl ?_
    refine aw_iload_n 2 dX2_doWithRegisters_62 rfl rfl ?_
    refine aw_iload_n 1 dX2_doWithRegisters_63 rfl rfl ?_
    refine aw_iload 0 dX2_doWithRegisters_64 rfl ?_
    refine aw_callST (st := [.int a1, .ref 0]) (As := [.int r1, .int r3, .int r5]) lX2_118 sttX2_join (by omega) (kX2_join (d := 0) (by omega) h) rfl rfl rfl dX2_doWithRegisters_66 rfl (fun _ _ hh => ?_)
    obtain ⟨r10, τ11, rfl, rfl, h⟩ := hh
    refine ⟨rfl, (fun x hx => by cases hx; rfl), ?_⟩
    refine aw_stk (st' := [.int r10, .int a1, .ref 0]) rfl ?_
    refine aw_callVT (mc1 := 0) (ms1 := 0) (mc := 0) (ms := 0) (st := []) (q := 0) (As := [.int a1, .int r10]) lX2_53 insX2_pass selX2_pass ⟨TX2, 8, rfl⟩ (by omega) (kX2_pass (d := 1) (by omega) h) (Nat.le_of_ble_eq_true rfl) rfl rfl rfl dX2_doWithRegisters_69 rfl (fun _ _ hh => ?_)
    obtain ⟨r12, τ13, rfl, rfl, h⟩ := hh
    refine aw_stk (st' := [.int r12]) rfl ?_
    exact aw_iret rfl dX2_doWithRegisters_72 ⟨_, τ13, rfl, rfl, h⟩
  have h := h.2 c7
  by_cases c14 : ((a1).toUInt32 >>> (((25 : Int32)).toUInt32 &&& Int32.toUInt32 31)).toInt32 = (1 : Int32)
  · refine aw_lookup 73 (off := 51) dX2_doWithRegisters_22 (by decide) ((lv_osw (a := 0) c7 rfl).trans (aw_swh (a := 1) c14 rfl)) (by decide) ?_
    have h := h.1 c14
    refine aw_aload_n 3 dX2_doWithRegisters_73 rfl rfl ?_
    refine aw_callVT (mc1 := 0) (ms1 := 0) (mc := 0) (ms := 0) (st := []) (q := 0) (As := []) lX2_50 insX2_begin selX2_begin ⟨TX2, 8, rfl⟩ (by omega) (kX2_begin (d := 2) (by omega) h) (Nat.le_of_ble_eq_true rfl) rfl rfl rfl dX2_doWithRegisters_74 rfl (fun _ _ hh => ?_)
    obtain ⟨τ16, rfl, rfl, h⟩ := hh
    refine aw_stk (st' := []) rfl ?_
    refine aw_aload_n 3 dX2_doWithRegisters_77 rfl rfl ?_
    refine aw_iload_n 4 dX2_doWithRegisters_78 rfl rfl ?_
    refine aw_iload_n 2 dX2_doWithRegisters_79 rfl rfl ?_
    refine aw_iconst (v := (4 : Int32)) dX2_doWithRegisters_80 (by decide) ?_
    refine aw_icmp_ge 95 dX2_doWithRegisters_81 (by decide) (fun c23 => ?_) (fun c23 => ?_)
    · have h := h.1 c23
      refine aw_aload_n 3 dX2_doWithRegisters_95 rfl rfl ?_
      refine aw_iload_n 2 dX2_doWithRegisters_96 rfl rfl ?_
      refine aw_iload_n 1 dX2_doWithRegisters_97 rfl rfl ?_
      refine aw_iload 0 dX2_doWithRegisters_98 rfl ?_
      refine aw_callVT (mc1 := 0) (ms1 := 0) (mc := 0) (ms := 0) (st := [.int a1, .ref 0]) (q := 0) (As := [.int r1, .int r3, .int r5]) lX2_125 insX2_division selX2_division ⟨TX2, 8, rfl⟩ (by omega) (kX2_division (d := 1) (by omega) h) (Nat.le_of_ble_eq_true rfl) rfl rfl rfl dX2_doWithRegisters_100 rfl (fun _ _ hh => ?_)
      obtain ⟨r17, τ18, rfl, rfl, h⟩ := hh
      refine aw_stk (st' := [.int r17, .int a1, .ref 0]) rfl ?_
      refine aw_lvsub (lv' := []) [] rfl ?_
      exact aw_X2_doWithRegisters_103 hd  h
    · have h := h.2 c23
      refine aw_aload_n 3 dX2_doWithRegisters_84 rfl rfl ?_
      refine aw_iload_n 2 dX2_doWithRegisters_85 rfl rfl ?_
      refine aw_iload_n 1 dX2_doWithRegisters_86 rfl rfl ?_
      refine aw_iload 0 dX2_doWithRegisters_87 rfl ?_
      refine aw_callVT (mc1 := 0) (ms1 := 0) (mc := 0) (ms := 0) (st := [.int a1, .ref 0]) (q := 0) (As := [.int r1, .int r3, .int r5]) lX2_122 insX2_product selX2_product ⟨TX2, 8, rfl⟩ (by omega) (kX2_product (d := 0) (by omega) h) (Nat.le_of_ble_eq_true rfl) rfl rfl rfl dX2_doWithRegisters_89 rfl (fun _ _ hh => ?_)
      obtain ⟨r21, τ22, rfl, rfl, h⟩ := hh
      refine aw_stk (st' := [.int r21, .int a1, .ref 0]) rfl ?_
      refine aw_goto 103 dX2_doWithRegisters_92 (by decide) ?_
      refine aw_lvsub (lv' := []) [] rfl ?_
      exact aw_X2_doWithRegisters_103 hd  h
  have h := h.2 c14
  by_cases c24 : ((a1).toUInt32 >>> (((25 : Int32)).toUInt32 &&& Int32.toUInt32 31)).toInt32 = (32 : Int32)
  · refine aw_lookup 107 (off := 85) dX2_doWithRegisters_22 (by decide) ((lv_osw (a := 0) c7 rfl).trans ((lv_osw (a := 1) c14 rfl).trans (aw_swh (a := 32) c24 rfl))) (by decide) ?_
    have h := h.1 c24
    refine aw_iload_n 2 dX2_doWithRegisters_107 rfl rfl ?_
    refine aw_if_eq 118 dX2_doWithRegisters_108 (by decide) (fun c31 => ?_) (fun c31 => ?_)
    · have h := h.1 c31
      refine aw_lvsub (lv' := [(0, .ref 0), (1, .int a1), (2, .int r1), (3, .int r3), (4, .int r5)]) [3, 4, 2, 1, 0] rfl ?_
      exact aw_X2_doWithRegisters_118 hd  h
    · have h := h.2 c31
      refine aw_iload_n 2 dX2_doWithRegisters_111 rfl rfl ?_
      refine aw_iconst (v := (5 : Int32)) dX2_doWithRegisters_112 (by decide) ?_
      refine aw_icmp_eq 118 dX2_doWithRegisters_113 (by decide) (fun c30 => ?_) (fun c30 => ?_)
      · have h := h.1 c30
        refine aw_lvsub (lv' := [(0, .ref 0), (1, .int a1), (2, .int r1), (3, .int r3), (4, .int r5)]) [3, 4, 2, 1, 0] rfl ?_
        exact aw_X2_doWithRegisters_118 hd  h
      · have h := h.2 c30
        refine aw_iconst (v := (2 : Int32)) dX2_doWithRegisters_116 (by decide) ?_
        exact aw_iret rfl dX2_doWithRegisters_117 ⟨_, τ6, rfl, rfl, h⟩
  have h := h.2 c24
  refine aw_lookup 146 (off := 124) dX2_doWithRegisters_22 (by decide) ((lv_osw (a := 0) c7 rfl).trans ((lv_osw (a := 1) c14 rfl).trans ((lv_osw (a := 32) c24 rfl).trans rfl))) (by decide) ?_
  refine aw_iconst (v := (2 : Int32)) dX2_doWithRegisters_146 (by decide) ?_
  exact aw_iret rfl dX2_doWithRegisters_147 ⟨_, τ6, rfl, rfl, h⟩
def wp_X2_doOrder (σ : WSX2) (post : Int32 → WSX2 → Prop) : Prop :=
  wp_X2_isPlace σ.1.2.2 (fun r1 τ2 => ((¬ r1 = 0 → (vp_in (σ.1.2.2 >>> ((2 : Int32) &&& 31)) 4096 ∧ (∀ y3 : Int32, y3 = (σ.1.1.1 ((σ.1.2.2 >>> ((2 : Int32) &&& 31))).toNatClampNeg) → (((y3 &&& (127 : Int32)) = (3 : Int32) → wp_X2_doLoad σ y3 (fun r5 τ6 => post r5 τ6)) ∧ (¬ (y3 &&& (127 : Int32)) = (3 : Int32) → (((y3 &&& (127 : Int32)) = (19 : Int32) → wp_X2_doWithNumber σ y3 (fun r8 τ9 => post r8 τ9)) ∧ (¬ (y3 &&& (127 : Int32)) = (19 : Int32) → (((y3 &&& (127 : Int32)) = (23 : Int32) → wp_X2_begin σ  (fun τ12 => wp_X2_pass τ12 y3 (τ12.1.2.2 + (y3 &&& ((-4096) : Int32))) (fun r13 τ14 => post r13 τ14))) ∧ (¬ (y3 &&& (127 : Int32)) = (23 : Int32) → (((y3 &&& (127 : Int32)) = (35 : Int32) → wp_X2_doStore σ y3 (fun r16 τ17 => post r16 τ17)) ∧ (¬ (y3 &&& (127 : Int32)) = (35 : Int32) → (((y3 &&& (127 : Int32)) = (51 : Int32) → wp_X2_doWithRegisters σ y3 (fun r19 τ20 => post r19 τ20)) ∧ (¬ (y3 &&& (127 : Int32)) = (51 : Int32) → (((y3 &&& (127 : Int32)) = (55 : Int32) → wp_X2_begin σ  (fun τ23 => wp_X2_pass τ23 y3 (y3 &&& ((-4096) : Int32)) (fun r24 τ25 => post r24 τ25))) ∧ (¬ (y3 &&& (127 : Int32)) = (55 : Int32) → (((y3 &&& (127 : Int32)) = (99 : Int32) → wp_X2_doBranch σ y3 (fun r27 τ28 => post r27 τ28)) ∧ (¬ (y3 &&& (127 : Int32)) = (99 : Int32) → (((y3 &&& (127 : Int32)) = (103 : Int32) → wp_X2_doJumpByRegister σ y3 (fun r30 τ31 => post r30 τ31)) ∧ (¬ (y3 &&& (127 : Int32)) = (103 : Int32) → (((y3 &&& (127 : Int32)) = (111 : Int32) → wp_X2_begin σ  (fun τ34 => wp_X2_jumpDistance y3 (fun r35 τ36 => wp_X2_jump τ34 y3 (τ34.1.2.2 + r35) (fun r37 τ38 => post r37 τ38)))) ∧ (¬ (y3 &&& (127 : Int32)) = (111 : Int32) → ((¬ y3 = (115 : Int32) → post (2 : Int32) σ) ∧ (y3 = (115 : Int32) → post (1 : Int32) σ))))))))))))))))))))))) ∧ (r1 = 0 → post (3 : Int32) σ)))
theorem kX2_doOrder {G : aw_G} {d : Nat} (hd : 4 ≤ d) {σ : WSX2} {post : Int32 → WSX2 → Prop} (h : wp_X2_doOrder σ post) : AC G MX2_doOrder d 0 0 4 [.ref 0] (wX2 G σ) (aw_pi (wX2 G) post) := by
  refine AC.of (lv := [(0, .ref 0)]) (by decide) (Nat.le_of_ble_eq_true rfl) rfl ?_
  unfold wp_X2_doOrder at h
  refine aw_aload_n 0 dX2_doOrder_0 rfl rfl ?_
  refine aw_getf (v := .int σ.1.2.2) fX2_19 0 rfl rfl dX2_doOrder_1 ?_
  refine aw_callST (st := []) (As := [.int σ.1.2.2]) lX2_36 sttX2_isPlace (by omega) (kX2_isPlace (d := 0) (by omega) h) rfl rfl rfl dX2_doOrder_4 rfl (fun _ _ hh => ?_)
  obtain ⟨r1, τ2, rfl, rfl, h⟩ := hh
  refine ⟨rfl, (fun x hx => by cases hx; rfl), ?_⟩
  refine aw_stk (st' := [.int r1]) rfl ?_
  refine aw_if_ne 12 dX2_doOrder_7 (by decide) (fun c40 => ?_) (fun c40 => ?_)
  · have h := h.1 c40
    refine aw_aload_n 0 dX2_doOrder_12 rfl rfl ?_
    refine aw_getf (v := .ref 1) fX2_9 0 rfl rfl dX2_doOrder_13 ?_
    refine aw_aload_n 0 dX2_doOrder_16 rfl rfl ?_
    refine aw_getf (v := .int σ.1.2.2) fX2_19 0 rfl rfl dX2_doOrder_17 ?_
    refine aw_iconst (v := (2 : Int32)) dX2_doOrder_20 (by decide) ?_
    refine aw_ishr dX2_doOrder_21 ?_
    refine aw_iald 1 (n := 4096) (f := σ.1.1.1) rfl h.1 dX2_doOrder_22 ?_
    have h := h.2
    refine aw_topi (fun y3 ey3 => ?_)
    have h := h y3 ey3
    refine aw_istore_n (lv' := [(1, .int y3), (0, .ref 0)]) dX2_doOrder_23 rfl (by decide) rfl ?_
    refine aw_iload_n 0 dX2_doOrder_24 rfl rfl ?_
    refine aw_bipush (v := (127 : Int32)) dX2_doOrder_25 (by decide) ?_
    refine aw_iand dX2_doOrder_27 ?_
    by_cases c4 : (y3 &&& (127 : Int32)) = (3 : Int32)
    · refine aw_lookup 178 (off := 150) dX2_doOrder_28 (by decide) (aw_swh (a := 3) c4 rfl) (by decide) ?_
      have h := h.1 c4
      refine aw_aload_n 1 dX2_doOrder_178 rfl rfl ?_
      refine aw_iload_n 0 dX2_doOrder_179 rfl rfl ?_
      refine aw_callVT (mc1 := 0) (ms1 := 0) (mc := 0) (ms := 0) (st := []) (q := 0) (As := [.int y3]) lX2_70 insX2_doLoad selX2_doLoad ⟨TX2, 8, rfl⟩ (by omega) (kX2_doLoad (d := 3) (by omega) h) (Nat.le_of_ble_eq_true rfl) rfl rfl rfl dX2_doOrder_180 rfl (fun _ _ hh => ?_)
      obtain ⟨r5, τ6, rfl, rfl, h⟩ := hh
      refine aw_stk (st' := [.int r5]) rfl ?_
      exact aw_iret rfl dX2_doOrder_183 ⟨_, τ6, rfl, rfl, h⟩
    have h := h.2 c4
    by_cases c7 : (y3 &&& (127 : Int32)) = (19 : Int32)
    · refine aw_lookup 190 (off := 162) dX2_doOrder_28 (by decide) ((lv_osw (a := 3) c4 rfl).trans (aw_swh (a := 19) c7 rfl)) (by decide) ?_
      have h := h.1 c7
      refine aw_aload_n 1 dX2_doOrder_190 rfl rfl ?_
      refine aw_iload_n 0 dX2_doOrder_191 rfl rfl ?_
      refine aw_callVT (mc1 := 0) (ms1 := 0) (mc := 0) (ms := 0) (st := []) (q := 0) (As := [.int y3]) lX2_76 insX2_doWithNumber selX2_doWithNumber ⟨TX2, 8, rfl⟩ (by omega) (kX2_doWithNumber (d := 3) (by omega) h) (Nat.le_of_ble_eq_true rfl) rfl rfl rfl dX2_doOrder_192 rfl (fun _ _ hh => ?_)
      obtain ⟨r8, τ9, rfl, rfl, h⟩ := hh
      refine aw_stk (st' := [.int r8]) rfl ?_
      exact aw_iret rfl dX2_doOrder_195 ⟨_, τ9, rfl, rfl, h⟩
    have h := h.2 c7
    by_cases c10 : (y3 &&& (127 : Int32)) = (23 : Int32)
    · refine aw_lookup 127 (off := 99) dX2_doOrder_28 (by decide) ((lv_osw (a := 3) c4 rfl).trans ((lv_osw (a := 19) c7 rfl).trans (aw_swh (a := 23) c10 rfl))) (by decide) ?_
      have h := h.1 c10
      refine aw_aload_n 1 dX2_doOrder_127 rfl rfl ?_
      refine aw_callVT (mc1 := 0) (ms1 := 0) (mc := 0) (ms := 0) (st := []) (q := 0) (As := []) lX2_50 insX2_begin selX2_begin ⟨TX2, 8, rfl⟩ (by omega) (kX2_begin (d := 2) (by omega) h) (Nat.le_of_ble_eq_true rfl) rfl rfl rfl dX2_doOrder_128 rfl (fun _ _ hh => ?_)
      obtain ⟨τ12, rfl, rfl, h⟩ := hh
      refine aw_stk (st' := []) rfl ?_
      refine aw_aload_n 1 dX2_doOrder_131 rfl rfl ?_
      refine aw_iload_n 0 dX2_doOrder_132 rfl rfl ?_
      refine aw_aload_n 1 dX2_doOrder_133 rfl rfl ?_
      refine aw_getf (v := .int τ12.1.2.2) fX2_19 0 rfl rfl dX2_doOrder_134 ?_
      refine aw_iload_n 0 dX2_doOrder_137 rfl rfl ?_
      refine aw_sipush (v := ((-4096) : Int32)) dX2_doOrder_138 (by decide) ?_
      refine aw_iand dX2_doOrder_141 ?_
      refine aw_iadd dX2_doOrder_142 ?_
      refine aw_callVT (mc1 := 0) (ms1 := 0) (mc := 0) (ms := 0) (st := []) (q := 0) (As := [.int y3, .int (τ12.1.2.2 + (y3 &&& ((-4096) : Int32)))]) lX2_53 insX2_pass selX2_pass ⟨TX2, 8, rfl⟩ (by omega) (kX2_pass (d := 1) (by omega) h) (Nat.le_of_ble_eq_true rfl) rfl rfl rfl dX2_doOrder_143 rfl (fun _ _ hh => ?_)
      obtain ⟨r13, τ14, rfl, rfl, h⟩ := hh
      refine aw_stk (st' := [.int r13]) rfl ?_
      exact aw_iret rfl dX2_doOrder_146 ⟨_, τ14, rfl, rfl, h⟩
    have h := h.2 c10
    by_cases c15 : (y3 &&& (127 : Int32)) = (35 : Int32)
    · refine aw_lookup 184 (off := 156) dX2_doOrder_28 (by decide) ((lv_osw (a := 3) c4 rfl).trans ((lv_osw (a := 19) c7 rfl).trans ((lv_osw (a := 23) c10 rfl).trans (aw_swh (a := 35) c15 rfl)))) (by decide) ?_
      have h := h.1 c15
      refine aw_aload_n 1 dX2_doOrder_184 rfl rfl ?_
      refine aw_iload_n 0 dX2_doOrder_185 rfl rfl ?_
      refine aw_callVT (mc1 := 0) (ms1 := 0) (mc := 0) (ms := 0) (st := []) (q := 0) (As := [.int y3]) lX2_73 insX2_doStore selX2_doStore ⟨TX2, 8, rfl⟩ (by omega) (kX2_doStore (d := 3) (by omega) h) (Nat.le_of_ble_eq_true rfl) rfl rfl rfl dX2_doOrder_186 rfl (fun _ _ hh => ?_)
      obtain ⟨r16, τ17, rfl, rfl, h⟩ := hh
      refine aw_stk (st' := [.int r16]) rfl ?_
      exact aw_iret rfl dX2_doOrder_189 ⟨_, τ17, rfl, rfl, h⟩
    have h := h.2 c15
    by_cases c18 : (y3 &&& (127 : Int32)) = (51 : Int32)
    · refine aw_lookup 196 (off := 168) dX2_doOrder_28 (by decide) ((lv_osw (a := 3) c4 rfl).trans ((lv_osw (a := 19) c7 rfl).trans ((lv_osw (a := 23) c10 rfl).trans ((lv_osw (a := 35) c15 rfl).trans (aw_swh (a := 51) c18 rfl))))) (by decide) ?_
      have h := h.1 c18
      refine aw_aload_n 1 dX2_doOrder_196 rfl rfl ?_
      refine aw_iload_n 0 dX2_doOrder_197 rfl rfl ?_
      refine aw_callVT (mc1 := 0) (ms1 := 0) (mc := 0) (ms := 0) (st := []) (q := 0) (As := [.int y3]) lX2_79 insX2_doWithRegisters selX2_doWithRegisters ⟨TX2, 8, rfl⟩ (by omega) (kX2_doWithRegisters (d := 3) (by omega) h) (Nat.le_of_ble_eq_true rfl) rfl rfl rfl dX2_doOrder_198 rfl (fun _ _ hh => ?_)
      obtain ⟨r19, τ20, rfl, rfl, h⟩ := hh
      refine aw_stk (st' := [.int r19]) rfl ?_
      exact aw_iret rfl dX2_doOrder_201 ⟨_, τ20, rfl, rfl, h⟩
    have h := h.2 c18
    by_cases c21 : (y3 &&& (127 : Int32)) = (55 : Int32)
    · refine aw_lookup 112 (off := 84) dX2_doOrder_28 (by decide) ((lv_osw (a := 3) c4 rfl).trans ((lv_osw (a := 19) c7 rfl).trans ((lv_osw (a := 23) c10 rfl).trans ((lv_osw (a := 35) c15 rfl).trans ((lv_osw (a := 51) c18 rfl).trans (aw_swh (a := 55) c21 rfl)))))) (by decide) ?_
      have h := h.1 c21
      refine aw_aload_n 1 dX2_doOrder_112 rfl rfl ?_
      refine aw_callVT (mc1 := 0) (ms1 := 0) (mc := 0) (ms := 0) (st := []) (q := 0) (As := []) lX2_50 insX2_begin selX2_begin ⟨TX2, 8, rfl⟩ (by omega) (kX2_begin (d := 2) (by omega) h) (Nat.le_of_ble_eq_true rfl) rfl rfl rfl dX2_doOrder_113 rfl (fun _ _ hh => ?_)
      obtain ⟨τ23, rfl, rfl, h⟩ := hh
      refine aw_stk (st' := []) rfl ?_
      refine aw_aload_n 1 dX2_doOrder_116 rfl rfl ?_
      refine aw_iload_n 0 dX2_doOrder_117 rfl rfl ?_
      refine aw_iload_n 0 dX2_doOrder_118 rfl rfl ?_
      refine aw_sipush (v := ((-4096) : Int32)) dX2_doOrder_119 (by decide) ?_
      refine aw_iand dX2_doOrder_122 ?_
      refine aw_callVT (mc1 := 0) (ms1 := 0) (mc := 0) (ms := 0) (st := []) (q := 0) (As := [.int y3, .int (y3 &&& ((-4096) : Int32))]) lX2_53 insX2_pass selX2_pass ⟨TX2, 8, rfl⟩ (by omega) (kX2_pass (d := 1) (by omega) h) (Nat.le_of_ble_eq_true rfl) rfl rfl rfl dX2_doOrder_123 rfl (fun _ _ hh => ?_)
      obtain ⟨r24, τ25, rfl, rfl, h⟩ := hh
      refine aw_stk (st' := [.int r24]) rfl ?_
      exact aw_iret rfl dX2_doOrder_126 ⟨_, τ25, rfl, rfl, h⟩
    have h := h.2 c21
    by_cases c26 : (y3 &&& (127 : Int32)) = (99 : Int32)
    · refine aw_lookup 172 (off := 144) dX2_doOrder_28 (by decide) ((lv_osw (a := 3) c4 rfl).trans ((lv_osw (a := 19) c7 rfl).trans ((lv_osw (a := 23) c10 rfl).trans ((lv_osw (a := 35) c15 rfl).trans ((lv_osw (a := 51) c18 rfl).trans ((lv_osw (a := 55) c21 rfl).trans (aw_swh (a := 99) c26 rfl))))))) (by decide) ?_
      have h := h.1 c26
      refine aw_aload_n 1 dX2_doOrder_172 rfl rfl ?_
      refine aw_iload_n 0 dX2_doOrder_173 rfl rfl ?_
      refine aw_callVT (mc1 := 0) (ms1 := 0) (mc := 0) (ms := 0) (st := []) (q := 0) (As := [.int y3]) lX2_67 insX2_doBranch selX2_doBranch ⟨TX2, 8, rfl⟩ (by omega) (kX2_doBranch (d := 3) (by omega) h) (Nat.le_of_ble_eq_true rfl) rfl rfl rfl dX2_doOrder_174 rfl (fun _ _ hh => ?_)
      obtain ⟨r27, τ28, rfl, rfl, h⟩ := hh
      refine aw_stk (st' := [.int r27]) rfl ?_
      exact aw_iret rfl dX2_doOrder_177 ⟨_, τ28, rfl, rfl, h⟩
    have h := h.2 c26
    by_cases c29 : (y3 &&& (127 : Int32)) = (103 : Int32)
    · refine aw_lookup 166 (off := 138) dX2_doOrder_28 (by decide) ((lv_osw (a := 3) c4 rfl).trans ((lv_osw (a := 19) c7 rfl).trans ((lv_osw (a := 23) c10 rfl).trans ((lv_osw (a := 35) c15 rfl).trans ((lv_osw (a := 51) c18 rfl).trans ((lv_osw (a := 55) c21 rfl).trans ((lv_osw (a := 99) c26 rfl).trans (aw_swh (a := 103) c29 rfl)))))))) (by decide) ?_
      have h := h.1 c29
      refine aw_aload_n 1 dX2_doOrder_166 rfl rfl ?_
      refine aw_iload_n 0 dX2_doOrder_167 rfl rfl ?_
      refine aw_callVT (mc1 := 0) (ms1 := 0) (mc := 0) (ms := 0) (st := []) (q := 0) (As := [.int y3]) lX2_64 insX2_doJumpByRegister selX2_doJumpByRegister ⟨TX2, 8, rfl⟩ (by omega) (kX2_doJumpByRegister (d := 3) (by omega) h) (Nat.le_of_ble_eq_true rfl) rfl rfl rfl dX2_doOrder_168 rfl (fun _ _ hh => ?_)
      obtain ⟨r30, τ31, rfl, rfl, h⟩ := hh
      refine aw_stk (st' := [.int r30]) rfl ?_
      exact aw_iret rfl dX2_doOrder_171 ⟨_, τ31, rfl, rfl, h⟩
    have h := h.2 c29
    by_cases c32 : (y3 &&& (127 : Int32)) = (111 : Int32)
    · refine aw_lookup 147 (off := 119) dX2_doOrder_28 (by decide) ((lv_osw (a := 3) c4 rfl).trans ((lv_osw (a := 19) c7 rfl).trans ((lv_osw (a := 23) c10 rfl).trans ((lv_osw (a := 35) c15 rfl).trans ((lv_osw (a := 51) c18 rfl).trans ((lv_osw (a := 55) c21 rfl).trans ((lv_osw (a := 99) c26 rfl).trans ((lv_osw (a := 103) c29 rfl).trans (aw_swh (a := 111) c32 rfl))))))))) (by decide) ?_
      have h := h.1 c32
      refine aw_aload_n 1 dX2_doOrder_147 rfl rfl ?_
      refine aw_callVT (mc1 := 0) (ms1 := 0) (mc := 0) (ms := 0) (st := []) (q := 0) (As := []) lX2_50 insX2_begin selX2_begin ⟨TX2, 8, rfl⟩ (by omega) (kX2_begin (d := 2) (by omega) h) (Nat.le_of_ble_eq_true rfl) rfl rfl rfl dX2_doOrder_148 rfl (fun _ _ hh => ?_)
      obtain ⟨τ34, rfl, rfl, h⟩ := hh
      refine aw_stk (st' := []) rfl ?_
      refine aw_aload_n 1 dX2_doOrder_151 rfl rfl ?_
      refine aw_iload_n 0 dX2_doOrder_152 rfl rfl ?_
      refine aw_aload_n 1 dX2_doOrder_153 rfl rfl ?_
      refine aw_getf (v := .int τ34.1.2.2) fX2_19 0 rfl rfl dX2_doOrder_154 ?_
      refine aw_iload_n 0 dX2_doOrder_157 rfl rfl ?_
      refine aw_callST (st := [.int τ34.1.2.2, .int y3, .ref 0]) (As := [.int y3]) lX2_57 sttX2_jumpDistance (by omega) (kX2_jumpDistance (d := 0) (by omega) h) rfl rfl rfl dX2_doOrder_158 rfl (fun _ _ hh => ?_)
      obtain ⟨r35, τ36, rfl, rfl, h⟩ := hh
      refine ⟨rfl, (fun x hx => by cases hx; rfl), ?_⟩
      refine aw_stk (st' := [.int r35, .int τ34.1.2.2, .int y3, .ref 0]) rfl ?_
      refine aw_iadd dX2_doOrder_161 ?_
      refine aw_callVT (mc1 := 0) (ms1 := 0) (mc := 0) (ms := 0) (st := []) (q := 0) (As := [.int y3, .int (τ34.1.2.2 + r35)]) lX2_61 insX2_jump selX2_jump ⟨TX2, 8, rfl⟩ (by omega) (kX2_jump (d := 1) (by omega) h) (Nat.le_of_ble_eq_true rfl) rfl rfl rfl dX2_doOrder_162 rfl (fun _ _ hh => ?_)
      obtain ⟨r37, τ38, rfl, rfl, h⟩ := hh
      refine aw_stk (st' := [.int r37]) rfl ?_
      exact aw_iret rfl dX2_doOrder_165 ⟨_, τ38, rfl, rfl, h⟩
    have h := h.2 c32
    refine aw_lookup 202 (off := 174) dX2_doOrder_28 (by decide) ((lv_osw (a := 3) c4 rfl).trans ((lv_osw (a := 19) c7 rfl).trans ((lv_osw (a := 23) c10 rfl).trans ((lv_osw (a := 35) c15 rfl).trans ((lv_osw (a := 51) c18 rfl).trans ((lv_osw (a := 55) c21 rfl).trans ((lv_osw (a := 99) c26 rfl).trans ((lv_osw (a := 103) c29 rfl).trans ((lv_osw (a := 111) c32 rfl).trans rfl))))))))) (by decide) ?_
    refine aw_iload_n 0 dX2_doOrder_202 rfl rfl ?_
    refine aw_bipush (v := (115 : Int32)) dX2_doOrder_203 (by decide) ?_
    refine aw_icmp_ne 212 dX2_doOrder_205 (by decide) (fun c39 => ?_) (fun c39 => ?_)
    · have h := h.1 c39
      refine aw_iconst (v := (2 : Int32)) dX2_doOrder_212 (by decide) ?_
      exact aw_iret rfl dX2_doOrder_213 ⟨_, σ, rfl, rfl, h⟩
    · have h := h.2 c39
      refine aw_iconst (v := (1 : Int32)) dX2_doOrder_208 (by decide) ?_
      refine aw_goto 213 dX2_doOrder_209 (by decide) ?_
      exact aw_iret rfl dX2_doOrder_213 ⟨_, σ, rfl, rfl, h⟩
  · have h := h.2 c40
    refine aw_iconst (v := (3 : Int32)) dX2_doOrder_10 (by decide) ?_
    exact aw_iret rfl dX2_doOrder_11 ⟨_, σ, rfl, rfl, h⟩
def wb_X2_work_2  (post : Int32 → WSX2 → Prop) (rec_2 : WSX2 × Int32 × Int32 → Prop) (σ : WSX2) (x1 : Int32) (x2 : Int32) : Prop :=
  ((x1 ≤ x2 → post (0 : Int32) σ) ∧ (¬ x1 ≤ x2 → wp_X2_doOrder σ  (fun r1 τ2 => ((r1 = 0 → rec_2 (τ2, x1, (x2 + 1))) ∧ (¬ r1 = 0 → post r1 τ2)))))
def wp_X2_work_2  (post : Int32 → WSX2 → Prop) (n : Nat) (σ : WSX2) (x1 : Int32) (x2 : Int32) : Prop := aw_loop (fun r (a : WSX2 × Int32 × Int32) => wb_X2_work_2  post r a.1 a.2.1 a.2.2) n (σ, x1, x2)
theorem aw_X2_work_2 {G : aw_G} {d : Nat} (hd : 5 ≤ d) {post : Int32 → WSX2 → Prop}  : ∀ (n : Nat) (σ : WSX2) (x1 : Int32) (x2 : Int32), wp_X2_work_2  post n σ x1 x2 → AW G MX2_work d 0 0 4 (aw_pi (wX2 G) post) 2 [(0, .ref 0), (1, .int x1), (2, .int x2)] [] (wX2 G σ) := by
  intro n
  induction n with
  | zero => intro σ x1 x2 h; exact h.elim
  | succ n ih =>
    intro σ x1 x2 h
    have hrec_2 : ∀ a : WSX2 × Int32 × Int32, aw_loop (fun r (a : WSX2 × Int32 × Int32) => wb_X2_work_2  post r a.1 a.2.1 a.2.2) n a → AW G MX2_work d 0 0 4 (aw_pi (wX2 G) post) 2 [(0, .ref 0), (1, .int a.2.1), (2, .int a.2.2)] [] (wX2 G a.1) := fun a h => ih a.1 a.2.1 a.2.2 h
    have h : wb_X2_work_2  post (aw_loop (fun r (a : WSX2 × Int32 × Int32) => wb_X2_work_2  post r a.1 a.2.1 a.2.2) n) σ x1 x2 := h
    unfold wb_X2_work_2 at h
    refine aw_iload_n 2 dX2_work_2 rfl rfl ?_
    refine aw_iload_n 1 dX2_work_3 rfl rfl ?_
    refine aw_icmp_ge 24 dX2_work_4 (by decide) (fun c4 => ?_) (fun c4 => ?_)
    · have h := h.1 c4
      refine aw_iconst (v := (0 : Int32)) dX2_work_24 (by decide) ?_
      exact aw_iret rfl dX2_work_25 ⟨_, σ, rfl, rfl, h⟩
    · have h := h.2 c4
      refine aw_aload_n 0 dX2_work_7 rfl rfl ?_
      refine aw_callVT (mc1 := 0) (ms1 := 0) (mc := 0) (ms := 0) (st := []) (q := 0) (As := []) lX2_46 insX2_doOrder selX2_doOrder ⟨TX2, 8, rfl⟩ (by omega) (kX2_doOrder (d := 4) (by omega) h) (Nat.le_of_ble_eq_true rfl) rfl rfl rfl dX2_work_8 rfl (fun _ _ hh => ?_)
      obtain ⟨r1, τ2, rfl, rfl, h⟩ := hh
      refine aw_stk (st' := [.int r1]) rfl ?_
      refine aw_istore_n (lv' := [(3, .int r1), (0, .ref 0), (1, .int x1), (2, .int x2)]) dX2_work_11 rfl (by decide) rfl ?_
      refine aw_iload_n 0 dX2_work_12 rfl rfl ?_
      refine aw_if_eq 18 dX2_work_13 (by decide) (fun c3 => ?_) (fun c3 => ?_)
      · have h := h.1 c3
        refine aw_iinc 3 (v := (x2 + 1)) (lv' := [(2, .int (x2 + 1)), (3, .int r1), (0, .ref 0), (1, .int x1)]) dX2_work_18 rfl rfl (by decide) rfl ?_
        refine aw_goto 2 dX2_work_21 (by decide) ?_
        refine aw_lvsub (lv' := [(0, .ref 0), (1, .int x1), (2, .int (x2 + 1))]) [2, 3, 0] rfl ?_
        exact hrec_2 (τ2, x1, (x2 + 1)) h
      · have h := h.2 c3
        refine aw_iload_n 0 dX2_work_16 rfl rfl ?_
        exact aw_iret rfl dX2_work_17 ⟨_, τ2, rfl, rfl, h⟩
def wp_X2_work (σ : WSX2) (a1 : Int32) (post : Int32 → WSX2 → Prop) : Prop :=
  (∃ n5, wp_X2_work_2  post n5 σ a1 (0 : Int32))
theorem kX2_work {G : aw_G} {d : Nat} (hd : 5 ≤ d) {σ : WSX2} {a1 : Int32} {post : Int32 → WSX2 → Prop} (h : wp_X2_work σ a1 post) : AC G MX2_work d 0 0 4 [.ref 0, .int a1] (wX2 G σ) (aw_pi (wX2 G) post) := by
  refine AC.of (lv := [(0, .ref 0), (1, .int a1)]) (by decide) (Nat.le_of_ble_eq_true rfl) rfl ?_
  unfold wp_X2_work at h
  refine aw_iconst (v := (0 : Int32)) dX2_work_0 (by decide) ?_
  refine aw_istore_n (lv' := [(2, .int (0 : Int32)), (0, .ref 0), (1, .int a1)]) dX2_work_1 rfl (by decide) rfl ?_
  refine aw_lvsub (lv' := [(0, .ref 0), (1, .int a1), (2, .int (0 : Int32))]) [1, 2, 0] rfl ?_
  obtain ⟨n5, h⟩ := h
  exact aw_X2_work_2 hd  n5 σ a1 (0 : Int32) h
end WalkX2
