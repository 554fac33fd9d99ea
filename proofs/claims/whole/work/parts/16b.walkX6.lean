section WalkX6
def wp_X6_begin (σ : WSX6) (a1 : Int32) (post : WSX6 → Prop) : Prop :=
  post ((σ.1.1, (0 : Int32)), (a1, σ.2.2))
theorem kX6_begin {G : aw_G} {d : Nat} (hd : 0 ≤ d) {σ : WSX6} {a1 : Int32} {post : WSX6 → Prop} (h : wp_X6_begin σ a1 post) : AC G MX6_begin d 0 0 2 [.ref 0, .int a1] (wX6 G σ) (aw_pv (wX6 G) post) := by
  refine AC.of (lv := [(0, .ref 0), (1, .int a1)]) (by decide) (Nat.le_of_ble_eq_true rfl) rfl ?_
  unfold wp_X6_begin at h
  refine aw_aload_n 0 dX6_begin_0 rfl rfl ?_
  refine aw_iconst (v := (0 : Int32)) dX6_begin_1 (by decide) ?_
  refine aw_putf fX6_15 0 (w' := (wX6 G ((σ.1.1, (0 : Int32)), σ.2))) rfl (fun _ => ⟨rfl, rfl⟩) (Nat.le_of_ble_eq_true rfl) rfl dX6_begin_2 ?_
  refine aw_aload_n 0 dX6_begin_5 rfl rfl ?_
  refine aw_iload_n 1 dX6_begin_6 rfl rfl ?_
  refine aw_putf fX6_19 0 (w' := (wX6 G ((σ.1.1, (0 : Int32)), (a1, σ.2.2)))) rfl (fun _ => ⟨rfl, rfl⟩) (Nat.le_of_ble_eq_true rfl) rfl dX6_begin_7 ?_
  exact aw_vret rfl dX6_begin_10 ⟨((σ.1.1, (0 : Int32)), (a1, σ.2.2)), rfl, rfl, h⟩
def wp_X6_addPublic (σ : WSX6) (a1 : Int32) (post : WSX6 → Prop) : Prop :=
  (((200 : Int32) ≤ σ.1.2 → post σ) ∧ (¬ (200 : Int32) ≤ σ.1.2 → (vp_in σ.1.2 200 ∧ ∀ y1 : Nat → Int32, y1 = upd σ.1.1 (σ.1.2).toNatClampNeg a1 → (∀ y2 : Int32, y2 = (σ.1.2 + (1 : Int32)) → post ((y1, y2), σ.2)))))
theorem kX6_addPublic {G : aw_G} {d : Nat} (hd : 0 ≤ d) {σ : WSX6} {a1 : Int32} {post : WSX6 → Prop} (h : wp_X6_addPublic σ a1 post) : AC G MX6_addPublic d 0 0 2 [.ref 0, .int a1] (wX6 G σ) (aw_pv (wX6 G) post) := by
  refine AC.of (lv := [(0, .ref 0), (1, .int a1)]) (by decide) (Nat.le_of_ble_eq_true rfl) rfl ?_
  unfold wp_X6_addPublic at h
  refine aw_aload_n 0 dX6_addPublic_0 rfl rfl ?_
  refine aw_getf (v := .int σ.1.2) fX6_15 0 rfl rfl dX6_addPublic_1 ?_
  refine aw_aload_n 0 dX6_addPublic_4 rfl rfl ?_
  refine aw_getf (v := .ref 1) fX6_9 0 rfl rfl dX6_addPublic_5 ?_
  refine aw_alen 1 0 (v := (200 : Int32)) rfl rfl rfl dX6_addPublic_8 ?_
  refine aw_icmp_ge 32 dX6_addPublic_9 (by decide) (fun c3 => ?_) (fun c3 => ?_)
  · have h := h.1 c3
    exact aw_vret rfl dX6_addPublic_32 ⟨σ, rfl, rfl, h⟩
  · have h := h.2 c3
    refine aw_aload_n 0 dX6_addPublic_12 rfl rfl ?_
    refine aw_getf (v := .ref 1) fX6_9 0 rfl rfl dX6_addPublic_13 ?_
    refine aw_aload_n 0 dX6_addPublic_16 rfl rfl ?_
    refine aw_getf (v := .int σ.1.2) fX6_15 0 rfl rfl dX6_addPublic_17 ?_
    refine aw_iload_n 1 dX6_addPublic_20 rfl rfl ?_
    refine aw_iast 1 (n := 200) (f := σ.1.1) (w' := fun y1 => (wX6 G ((y1, σ.1.2), σ.2))) rfl h.1 (fun _ => rfl) dX6_addPublic_21 (fun y1 ey1 => ?_)
    have h := h.2 y1 ey1
    refine aw_aload_n 0 dX6_addPublic_22 rfl rfl ?_
    refine aw_dup dX6_addPublic_23 rfl ?_
    refine aw_getf (v := .int σ.1.2) fX6_15 0 rfl rfl dX6_addPublic_24 ?_
    refine aw_iconst (v := (1 : Int32)) dX6_addPublic_27 (by decide) ?_
    refine aw_iadd dX6_addPublic_28 ?_
    refine aw_topi (fun y2 ey2 => ?_)
    have h := h y2 ey2
    refine aw_putf fX6_15 0 (w' := (wX6 G ((y1, y2), σ.2))) rfl (fun _ => ⟨rfl, rfl⟩) (Nat.le_of_ble_eq_true rfl) rfl dX6_addPublic_29 ?_
    exact aw_vret rfl dX6_addPublic_32 ⟨((y1, y2), σ.2), rfl, rfl, h⟩
def wp_X6_finish (σ : WSX6) (a1 : Int64) (a3 : Int64) (post : WSX6 → Prop) : Prop :=
  post (σ.1, (σ.2.1, (a1, a3)))
theorem kX6_finish {G : aw_G} {d : Nat} (hd : 0 ≤ d) {σ : WSX6} {a1 : Int64} {a3 : Int64} {post : WSX6 → Prop} (h : wp_X6_finish σ a1 a3 post) : AC G MX6_finish d 0 0 2 [.ref 0, .long a1, .long a3] (wX6 G σ) (aw_pv (wX6 G) post) := by
  refine AC.of (lv := [(0, .ref 0), (1, .long a1), (3, .long a3)]) (by decide) (Nat.le_of_ble_eq_true rfl) rfl ?_
  unfold wp_X6_finish at h
  refine aw_aload_n 0 dX6_finish_0 rfl rfl ?_
  refine aw_lload_n 1 dX6_finish_1 rfl rfl ?_
  refine aw_putf fX6_22 0 (w' := (wX6 G (σ.1, (σ.2.1, (a1, σ.2.2.2))))) rfl (fun _ => ⟨rfl, rfl⟩) (Nat.le_of_ble_eq_true rfl) rfl dX6_finish_2 ?_
  refine aw_aload_n 0 dX6_finish_5 rfl rfl ?_
  refine aw_lload_n 2 dX6_finish_6 rfl rfl ?_
  refine aw_putf fX6_26 0 (w' := (wX6 G (σ.1, (σ.2.1, (a1, a3))))) rfl (fun _ => ⟨rfl, rfl⟩) (Nat.le_of_ble_eq_true rfl) rfl dX6_finish_7 ?_
  exact aw_vret rfl dX6_finish_10 ⟨(σ.1, (σ.2.1, (a1, a3))), rfl, rfl, h⟩
def wb_X6_sameFrom_26  (post : Int32 → WSX6b → Prop) (rec_26 : WSX6b × Int32 → Prop) (σ : WSX6b) (x2 : Int32) : Prop :=
  ((σ.1.1.2 ≤ x2 → post (1 : Int32) σ) ∧ (¬ σ.1.1.2 ≤ x2 → (((200 : Int32) ≤ x2 → post (1 : Int32) σ) ∧ (¬ (200 : Int32) ≤ x2 → (((200 : Int32) ≤ x2 → post (1 : Int32) σ) ∧ (¬ (200 : Int32) ≤ x2 → (vp_in x2 200 ∧ (vp_in x2 200 ∧ (((σ.1.1.1 (x2).toNatClampNeg) = (σ.2.1.1 (x2).toNatClampNeg) → rec_26 (σ, (x2 + 1))) ∧ (¬ (σ.1.1.1 (x2).toNatClampNeg) = (σ.2.1.1 (x2).toNatClampNeg) → post (0 : Int32) σ))))))))))
def wp_X6_sameFrom_26  (post : Int32 → WSX6b → Prop) (n : Nat) (σ : WSX6b) (x2 : Int32) : Prop := aw_loop (fun r (a : WSX6b × Int32) => wb_X6_sameFrom_26  post r a.1 a.2) n (σ, x2)
theorem aw_X6_sameFrom_26 {G : aw_G} {d : Nat} (hd : 0 ≤ d) {post : Int32 → WSX6b → Prop}  : ∀ (n : Nat) (σ : WSX6b) (x2 : Int32), wp_X6_sameFrom_26  post n σ x2 → AW G MX6_sameFrom d 0 0 4 (aw_pi (wX6b G) post) 26 [(0, .ref 0), (1, .ref 2), (2, .int x2)] [] (wX6b G σ) := by
  intro n
  induction n with
  | zero => intro σ x2 h; exact h.elim
  | succ n ih =>
    intro σ x2 h
    have hrec_26 : ∀ a : WSX6b × Int32, aw_loop (fun r (a : WSX6b × Int32) => wb_X6_sameFrom_26  post r a.1 a.2) n a → AW G MX6_sameFrom d 0 0 4 (aw_pi (wX6b G) post) 26 [(0, .ref 0), (1, .ref 2), (2, .int a.2)] [] (wX6b G a.1) := fun a h => ih a.1 a.2 h
    have h : wb_X6_sameFrom_26  post (aw_loop (fun r (a : WSX6b × Int32) => wb_X6_sameFrom_26  post r a.1 a.2) n) σ x2 := h
    unfold wb_X6_sameFrom_26 at h
    refine aw_iload_n 2 dX6_sameFrom_26 rfl rfl ?_
    refine aw_aload_n 0 dX6_sameFrom_27 rfl rfl ?_
    refine aw_getf (v := .int σ.1.1.2) fX6_15 0 rfl rfl dX6_sameFrom_28 ?_
    refine aw_icmp_ge 75 dX6_sameFrom_31 (by decide) (fun c4 => ?_) (fun c4 => ?_)
    · have h := h.1 c4
      refine aw_iconst (v := (1 : Int32)) dX6_sameFrom_75 (by decide) ?_
      exact aw_zret rfl rfl dX6_sameFrom_76 ⟨_, σ, rfl, rfl, h⟩
    · have h := h.2 c4
      refine aw_iload_n 2 dX6_sameFrom_34 rfl rfl ?_
      refine aw_aload_n 0 dX6_sameFrom_35 rfl rfl ?_
      refine aw_getf (v := .ref 1) fX6_9 0 rfl rfl dX6_sameFrom_36 ?_
      refine aw_alen 1 0 (v := (200 : Int32)) rfl rfl rfl dX6_sameFrom_39 ?_
      refine aw_icmp_ge 75 dX6_sameFrom_40 (by decide) (fun c3 => ?_) (fun c3 => ?_)
      · have h := h.1 c3
        refine aw_iconst (v := (1 : Int32)) dX6_sameFrom_75 (by decide) ?_
        exact aw_zret rfl rfl dX6_sameFrom_76 ⟨_, σ, rfl, rfl, h⟩
      · have h := h.2 c3
        refine aw_iload_n 2 dX6_sameFrom_43 rfl rfl ?_
        refine aw_aload_n 1 dX6_sameFrom_44 rfl rfl ?_
        refine aw_getf (v := .ref 3) fX6_9 2 rfl rfl dX6_sameFrom_45 ?_
        refine aw_alen 3 0 (v := (200 : Int32)) rfl rfl rfl dX6_sameFrom_48 ?_
        refine aw_icmp_ge 75 dX6_sameFrom_49 (by decide) (fun c2 => ?_) (fun c2 => ?_)
        · have h := h.1 c2
          refine aw_iconst (v := (1 : Int32)) dX6_sameFrom_75 (by decide) ?_
          exact aw_zret rfl rfl dX6_sameFrom_76 ⟨_, σ, rfl, rfl, h⟩
        · have h := h.2 c2
          refine aw_aload_n 0 dX6_sameFrom_52 rfl rfl ?_
          refine aw_getf (v := .ref 1) fX6_9 0 rfl rfl dX6_sameFrom_53 ?_
          refine aw_iload_n 2 dX6_sameFrom_56 rfl rfl ?_
          refine aw_iald 1 (n := 200) (f := σ.1.1.1) rfl h.1 dX6_sameFrom_57 ?_
          have h := h.2
          refine aw_aload_n 1 dX6_sameFrom_58 rfl rfl ?_
          refine aw_getf (v := .ref 3) fX6_9 2 rfl rfl dX6_sameFrom_59 ?_
          refine aw_iload_n 2 dX6_sameFrom_62 rfl rfl ?_
          refine aw_iald 3 (n := 200) (f := σ.2.1.1) rfl h.1 dX6_sameFrom_63 ?_
          have h := h.2
          refine aw_icmp_eq 69 dX6_sameFrom_64 (by decide) (fun c1 => ?_) (fun c1 => ?_)
          · have h := h.1 c1
            refine aw_iinc 2 (v := (x2 + 1)) (lv' := [(2, .int (x2 + 1)), (0, .ref 0), (1, .ref 2)]) dX6_sameFrom_69 rfl rfl (by decide) rfl ?_
            refine aw_goto 26 dX6_sameFrom_72 (by decide) ?_
            refine aw_lvsub (lv' := [(0, .ref 0), (1, .ref 2), (2, .int (x2 + 1))]) [1, 2, 0] rfl ?_
            exact hrec_26 (σ, (x2 + 1)) h
          · have h := h.2 c1
            refine aw_iconst (v := (0 : Int32)) dX6_sameFrom_67 (by decide) ?_
            exact aw_zret rfl rfl dX6_sameFrom_68 ⟨_, σ, rfl, rfl, h⟩
def wp_X6_sameFrom (σ : WSX6b) (post : Int32 → WSX6b → Prop) : Prop :=
  ((¬ σ.1.2.1 = σ.2.2.1 → post (0 : Int32) σ) ∧ (σ.1.2.1 = σ.2.2.1 → ((σ.1.1.2 = σ.2.1.2 → (∃ n5, wp_X6_sameFrom_26  post n5 σ (0 : Int32))) ∧ (¬ σ.1.1.2 = σ.2.1.2 → post (0 : Int32) σ))))
theorem kX6_sameFrom {G : aw_G} {d : Nat} (hd : 0 ≤ d) {σ : WSX6b} {post : Int32 → WSX6b → Prop} (h : wp_X6_sameFrom σ post) : AC G MX6_sameFrom d 0 0 4 [.ref 0, .ref 2] (wX6b G σ) (aw_pi (wX6b G) post) := by
  refine AC.of (lv := [(0, .ref 0), (1, .ref 2)]) (by decide) (Nat.le_of_ble_eq_true rfl) rfl ?_
  unfold wp_X6_sameFrom at h
  refine aw_aload_n 0 dX6_sameFrom_0 rfl rfl ?_
  refine aw_getf (v := .int σ.1.2.1) fX6_19 0 rfl rfl dX6_sameFrom_1 ?_
  refine aw_aload_n 1 dX6_sameFrom_4 rfl rfl ?_
  refine aw_getf (v := .int σ.2.2.1) fX6_19 2 rfl rfl dX6_sameFrom_5 ?_
  refine aw_icmp_ne 22 dX6_sameFrom_8 (by decide) (fun c7 => ?_) (fun c7 => ?_)
  · have h := h.1 c7
    refine aw_iconst (v := (0 : Int32)) dX6_sameFrom_22 (by decide) ?_
    exact aw_zret rfl rfl dX6_sameFrom_23 ⟨_, σ, rfl, rfl, h⟩
  · have h := h.2 c7
    refine aw_aload_n 0 dX6_sameFrom_11 rfl rfl ?_
    refine aw_getf (v := .int σ.1.1.2) fX6_15 0 rfl rfl dX6_sameFrom_12 ?_
    refine aw_aload_n 1 dX6_sameFrom_15 rfl rfl ?_
    refine aw_getf (v := .int σ.2.1.2) fX6_15 2 rfl rfl dX6_sameFrom_16 ?_
    refine aw_icmp_eq 24 dX6_sameFrom_19 (by decide) (fun c6 => ?_) (fun c6 => ?_)
    · have h := h.1 c6
      refine aw_iconst (v := (0 : Int32)) dX6_sameFrom_24 (by decide) ?_
      refine aw_istore_n (lv' := [(2, .int (0 : Int32)), (0, .ref 0), (1, .ref 2)]) dX6_sameFrom_25 rfl (by decide) rfl ?_
      refine aw_lvsub (lv' := [(0, .ref 0), (1, .ref 2), (2, .int (0 : Int32))]) [1, 2, 0] rfl ?_
      obtain ⟨n5, h⟩ := h
      exact aw_X6_sameFrom_26 hd  n5 σ (0 : Int32) h
    · have h := h.2 c6
      refine aw_iconst (v := (0 : Int32)) dX6_sameFrom_22 (by decide) ?_
      exact aw_zret rfl rfl dX6_sameFrom_23 ⟨_, σ, rfl, rfl, h⟩
def wp_X6_sameSeen (σ : WSX6b) (post : Int32 → WSX6b → Prop) : Prop :=
  ((¬ (lg_cmp σ.1.2.2.1 σ.2.2.2.1) = 0 → post (0 : Int32) σ) ∧ ((lg_cmp σ.1.2.2.1 σ.2.2.2.1) = 0 → ((¬ (lg_cmp σ.1.2.2.2 σ.2.2.2.2) = 0 → post (0 : Int32) σ) ∧ ((lg_cmp σ.1.2.2.2 σ.2.2.2.2) = 0 → post (1 : Int32) σ))))
theorem kX6_sameSeen {G : aw_G} {d : Nat} (hd : 0 ≤ d) {σ : WSX6b} {post : Int32 → WSX6b → Prop} (h : wp_X6_sameSeen σ post) : AC G MX6_sameSeen d 0 0 4 [.ref 0, .ref 2] (wX6b G σ) (aw_pi (wX6b G) post) := by
  refine AC.of (lv := [(0, .ref 0), (1, .ref 2)]) (by decide) (Nat.le_of_ble_eq_true rfl) rfl ?_
  unfold wp_X6_sameSeen at h
  refine aw_aload_n 0 dX6_sameSeen_0 rfl rfl ?_
  refine aw_getf (v := .long σ.1.2.2.1) fX6_22 0 rfl rfl dX6_sameSeen_1 ?_
  refine aw_aload_n 1 dX6_sameSeen_4 rfl rfl ?_
  refine aw_getf (v := .long σ.2.2.2.1) fX6_22 2 rfl rfl dX6_sameSeen_5 ?_
  refine aw_lcmp dX6_sameSeen_8 ?_
  refine aw_if_ne 28 dX6_sameSeen_9 (by decide) (fun c2 => ?_) (fun c2 => ?_)
  · have h := h.1 c2
    refine aw_iconst (v := (0 : Int32)) dX6_sameSeen_28 (by decide) ?_
    exact aw_zret rfl rfl dX6_sameSeen_29 ⟨_, σ, rfl, rfl, h⟩
  · have h := h.2 c2
    refine aw_aload_n 0 dX6_sameSeen_12 rfl rfl ?_
    refine aw_getf (v := .long σ.1.2.2.2) fX6_26 0 rfl rfl dX6_sameSeen_13 ?_
    refine aw_aload_n 1 dX6_sameSeen_16 rfl rfl ?_
    refine aw_getf (v := .long σ.2.2.2.2) fX6_26 2 rfl rfl dX6_sameSeen_17 ?_
    refine aw_lcmp dX6_sameSeen_20 ?_
    refine aw_if_ne 28 dX6_sameSeen_21 (by decide) (fun c1 => ?_) (fun c1 => ?_)
    · have h := h.1 c1
      refine aw_iconst (v := (0 : Int32)) dX6_sameSeen_28 (by decide) ?_
      exact aw_zret rfl rfl dX6_sameSeen_29 ⟨_, σ, rfl, rfl, h⟩
    · have h := h.2 c1
      refine aw_iconst (v := (1 : Int32)) dX6_sameSeen_24 (by decide) ?_
      refine aw_goto 29 dX6_sameSeen_25 (by decide) ?_
      exact aw_zret rfl rfl dX6_sameSeen_29 ⟨_, σ, rfl, rfl, h⟩
end WalkX6
