section WalkX4
def wp_X4_clear (bs : Nat) (σ : WSX4) (a1 : Int32) (post : WSX4 → Prop) : Prop :=
  ((a1 ≤ (nI σ.1.1.1) → post (σ.1, (σ.2.1, (σ.2.2.1, (σ.2.2.2.1, (0 : Int32)))))) ∧ (¬ a1 ≤ (nI σ.1.1.1) → (∀ y1 : Nat, y1 = (a1).toNatClampNeg → (¬ a1 < 0 ∧ y1 ≤ 100000 ∧ 9 * y1 ≤ bs ∧ post (((y1, aw_z), (aw_z, (aw_z, aw_z))), ((aw_z, (aw_z, aw_z)), (aw_z, (aw_z, (0 : Int32)))))))))
theorem kX4_clear {G : aw_G} {d : Nat} (hd : 0 ≤ d) {bs : Nat} {σ : WSX4} {a1 : Int32} {post : WSX4 → Prop} (h : wp_X4_clear bs σ a1 post) : AC G MX4_clear d 9 bs 1 [.ref 0, .int a1] (wX4 G σ) (aw_pv (wX4 G) post) := by
  refine AC.of (lv := [(0, .ref 0), (1, .int a1)]) (by decide) (Nat.le_of_ble_eq_true rfl) rfl ?_
  unfold wp_X4_clear at h
  refine aw_aload_n 0 dX4_clear_0 rfl rfl ?_
  refine aw_iconst (v := (0 : Int32)) dX4_clear_1 (by decide) ?_
  refine aw_putf fX4_42 0 (w' := (wX4 G (σ.1, (σ.2.1, (σ.2.2.1, (σ.2.2.2.1, (0 : Int32))))))) rfl (fun _ => ⟨rfl, rfl⟩) (Nat.le_of_ble_eq_true rfl) rfl dX4_clear_2 ?_
  refine aw_iload_n 1 dX4_clear_5 rfl rfl ?_
  refine aw_aload_n 0 dX4_clear_6 rfl rfl ?_
  refine aw_getf (v := .ref 1) fX4_11 0 rfl rfl dX4_clear_7 ?_
  refine aw_alen 1 0 (v := (nI σ.1.1.1)) rfl rfl rfl dX4_clear_10 ?_
  refine aw_icmp_le 77 dX4_clear_11 (by decide) (fun c2 => ?_) (fun c2 => ?_)
  · have h := h.1 c2
    refine aw_bud (mc := 0) (ms := 0) (Nat.zero_le _) (Nat.zero_le _) ?_
    exact aw_vret rfl dX4_clear_77 ⟨(σ.1, (σ.2.1, (σ.2.2.1, (σ.2.2.2.1, (0 : Int32))))), rfl, rfl, h⟩
  · have h := h.2 c2
    refine aw_aload_n 0 dX4_clear_14 rfl rfl ?_
    refine aw_iload_n 1 dX4_clear_15 rfl rfl ?_
    have h := h _ rfl
    generalize hy1 : (a1).toNatClampNeg = y1 at h
    obtain ⟨hy1a, hy1b, hy1c, h⟩ := h
    refine aw_bud (mc := (1 + (1 + (1 + (1 + (1 + (1 + (1 + (1 + (1 + 0)))))))))) (ms := (y1 + (y1 + (y1 + (y1 + (y1 + (y1 + (y1 + (y1 + (y1 + 0)))))))))) (by decide) (by omega) ?_
    refine aw_newa_int (N' := y1) (q := 10) (w' := [.inr (4, [.ref 1, .ref 2, .ref 3, .ref 4, .ref 5, .ref 6, .ref 7, .ref 8, .ref 9, .int (0 : Int32)]), .inl (G.2.2.1, σ.1.1.1, .inl σ.1.1.2), .inl (G.2.2.1, σ.1.1.1, .inl σ.1.2.1), .inl (G.2.2.1, σ.1.1.1, .inl σ.1.2.2.1), .inl (G.2.2.1, σ.1.1.1, .inl σ.1.2.2.2), .inl (G.2.2.1, σ.1.1.1, .inl σ.2.1.1), .inl (G.2.2.1, σ.1.1.1, .inl σ.2.1.2.1), .inl (G.2.2.1, σ.1.1.1, .inl σ.2.1.2.2), .inl (G.2.2.2.2.1, σ.1.1.1, .inl σ.2.2.1), .inl (G.2.2.2.2.1, σ.1.1.1, .inl σ.2.2.2.1), .inl (G.2.2.1, y1, .inl (fun _ => 0))]) arr_int hy1a hy1 hy1b rfl rfl rfl dX4_clear_16 ?_
    refine aw_putf fX4_11 0 (w' := [.inr (4, [.ref 10, .ref 2, .ref 3, .ref 4, .ref 5, .ref 6, .ref 7, .ref 8, .ref 9, .int (0 : Int32)]), .inl (G.2.2.1, σ.1.1.1, .inl σ.1.1.2), .inl (G.2.2.1, σ.1.1.1, .inl σ.1.2.1), .inl (G.2.2.1, σ.1.1.1, .inl σ.1.2.2.1), .inl (G.2.2.1, σ.1.1.1, .inl σ.1.2.2.2), .inl (G.2.2.1, σ.1.1.1, .inl σ.2.1.1), .inl (G.2.2.1, σ.1.1.1, .inl σ.2.1.2.1), .inl (G.2.2.1, σ.1.1.1, .inl σ.2.1.2.2), .inl (G.2.2.2.2.1, σ.1.1.1, .inl σ.2.2.1), .inl (G.2.2.2.2.1, σ.1.1.1, .inl σ.2.2.2.1), .inl (G.2.2.1, y1, .inl (fun _ => 0))]) rfl (fun _ => ⟨rfl, rfl⟩) (Nat.le_of_ble_eq_true rfl) rfl dX4_clear_18 ?_
    refine aw_aload_n 0 dX4_clear_21 rfl rfl ?_
    refine aw_iload_n 1 dX4_clear_22 rfl rfl ?_
    refine aw_newa_int (N' := y1) (q := 11) (w' := [.inr (4, [.ref 10, .ref 2, .ref 3, .ref 4, .ref 5, .ref 6, .ref 7, .ref 8, .ref 9, .int (0 : Int32)]), .inl (G.2.2.1, σ.1.1.1, .inl σ.1.1.2), .inl (G.2.2.1, σ.1.1.1, .inl σ.1.2.1), .inl (G.2.2.1, σ.1.1.1, .inl σ.1.2.2.1), .inl (G.2.2.1, σ.1.1.1, .inl σ.1.2.2.2), .inl (G.2.2.1, σ.1.1.1, .inl σ.2.1.1), .inl (G.2.2.1, σ.1.1.1, .inl σ.2.1.2.1), .inl (G.2.2.1, σ.1.1.1, .inl σ.2.1.2.2), .inl (G.2.2.2.2.1, σ.1.1.1, .inl σ.2.2.1), .inl (G.2.2.2.2.1, σ.1.1.1, .inl σ.2.2.2.1), .inl (G.2.2.1, y1, .inl (fun _ => 0)), .inl (G.2.2.1, y1, .inl (fun _ => 0))]) arr_int hy1a hy1 hy1b rfl rfl rfl dX4_clear_23 ?_
    refine aw_putf fX4_17 0 (w' := [.inr (4, [.ref 10, .ref 11, .ref 3, .ref 4, .ref 5, .ref 6, .ref 7, .ref 8, .ref 9, .int (0 : Int32)]), .inl (G.2.2.1, σ.1.1.1, .inl σ.1.1.2), .inl (G.2.2.1, σ.1.1.1, .inl σ.1.2.1), .inl (G.2.2.1, σ.1.1.1, .inl σ.1.2.2.1), .inl (G.2.2.1, σ.1.1.1, .inl σ.1.2.2.2), .inl (G.2.2.1, σ.1.1.1, .inl σ.2.1.1), .inl (G.2.2.1, σ.1.1.1, .inl σ.2.1.2.1), .inl (G.2.2.1, σ.1.1.1, .inl σ.2.1.2.2), .inl (G.2.2.2.2.1, σ.1.1.1, .inl σ.2.2.1), .inl (G.2.2.2.2.1, σ.1.1.1, .inl σ.2.2.2.1), .inl (G.2.2.1, y1, .inl (fun _ => 0)), .inl (G.2.2.1, y1, .inl (fun _ => 0))]) rfl (fun _ => ⟨rfl, rfl⟩) (Nat.le_of_ble_eq_true rfl) rfl dX4_clear_25 ?_
    refine aw_aload_n 0 dX4_clear_28 rfl rfl ?_
    refine aw_iload_n 1 dX4_clear_29 rfl rfl ?_
    refine aw_newa_int (N' := y1) (q := 12) (w' := [.inr (4, [.ref 10, .ref 11, .ref 3, .ref 4, .ref 5, .ref 6, .ref 7, .ref 8, .ref 9, .int (0 : Int32)]), .inl (G.2.2.1, σ.1.1.1, .inl σ.1.1.2), .inl (G.2.2.1, σ.1.1.1, .inl σ.1.2.1), .inl (G.2.2.1, σ.1.1.1, .inl σ.1.2.2.1), .inl (G.2.2.1, σ.1.1.1, .inl σ.1.2.2.2), .inl (G.2.2.1, σ.1.1.1, .inl σ.2.1.1), .inl (G.2.2.1, σ.1.1.1, .inl σ.2.1.2.1), .inl (G.2.2.1, σ.1.1.1, .inl σ.2.1.2.2), .inl (G.2.2.2.2.1, σ.1.1.1, .inl σ.2.2.1), .inl (G.2.2.2.2.1, σ.1.1.1, .inl σ.2.2.2.1), .inl (G.2.2.1, y1, .inl (fun _ => 0)), .inl (G.2.2.1, y1, .inl (fun _ => 0)), .inl (G.2.2.1, y1, .inl (fun _ => 0))]) arr_int hy1a hy1 hy1b rfl rfl rfl dX4_clear_30 ?_
    refine aw_putf fX4_20 0 (w' := [.inr (4, [.ref 10, .ref 11, .ref 12, .ref 4, .ref 5, .ref 6, .ref 7, .ref 8, .ref 9, .int (0 : Int32)]), .inl (G.2.2.1, σ.1.1.1, .inl σ.1.1.2), .inl (G.2.2.1, σ.1.1.1, .inl σ.1.2.1), .inl (G.2.2.1, σ.1.1.1, .inl σ.1.2.2.1), .inl (G.2.2.1, σ.1.1.1, .inl σ.1.2.2.2), .inl (G.2.2.1, σ.1.1.1, .inl σ.2.1.1), .inl (G.2.2.1, σ.1.1.1, .inl σ.2.1.2.1), .inl (G.2.2.1, σ.1.1.1, .inl σ.2.1.2.2), .inl (G.2.2.2.2.1, σ.1.1.1, .inl σ.2.2.1), .inl (G.2.2.2.2.1, σ.1.1.1, .inl σ.2.2.2.1), .inl (G.2.2.1, y1, .inl (fun _ => 0)), .inl (G.2.2.1, y1, .inl (fun _ => 0)), .inl (G.2.2.1, y1, .inl (fun _ => 0))]) rfl (fun _ => ⟨rfl, rfl⟩) (Nat.le_of_ble_eq_true rfl) rfl dX4_clear_32 ?_
    refine aw_aload_n 0 dX4_clear_35 rfl rfl ?_
    refine aw_iload_n 1 dX4_clear_36 rfl rfl ?_
    refine aw_newa_int (N' := y1) (q := 13) (w' := [.inr (4, [.ref 10, .ref 11, .ref 12, .ref 4, .ref 5, .ref 6, .ref 7, .ref 8, .ref 9, .int (0 : Int32)]), .inl (G.2.2.1, σ.1.1.1, .inl σ.1.1.2), .inl (G.2.2.1, σ.1.1.1, .inl σ.1.2.1), .inl (G.2.2.1, σ.1.1.1, .inl σ.1.2.2.1), .inl (G.2.2.1, σ.1.1.1, .inl σ.1.2.2.2), .inl (G.2.2.1, σ.1.1.1, .inl σ.2.1.1), .inl (G.2.2.1, σ.1.1.1, .inl σ.2.1.2.1), .inl (G.2.2.1, σ.1.1.1, .inl σ.2.1.2.2), .inl (G.2.2.2.2.1, σ.1.1.1, .inl σ.2.2.1), .inl (G.2.2.2.2.1, σ.1.1.1, .inl σ.2.2.2.1), .inl (G.2.2.1, y1, .inl (fun _ => 0)), .inl (G.2.2.1, y1, .inl (fun _ => 0)), .inl (G.2.2.1, y1, .inl (fun _ => 0)), .inl (G.2.2.1, y1, .inl (fun _ => 0))]) arr_int hy1a hy1 hy1b rfl rfl rfl dX4_clear_37 ?_
    refine aw_putf fX4_23 0 (w' := [.inr (4, [.ref 10, .ref 11, .ref 12, .ref 13, .ref 5, .ref 6, .ref 7, .ref 8, .ref 9, .int (0 : Int32)]), .inl (G.2.2.1, σ.1.1.1, .inl σ.1.1.2), .inl (G.2.2.1, σ.1.1.1, .inl σ.1.2.1), .inl (G.2.2.1, σ.1.1.1, .inl σ.1.2.2.1), .inl (G.2.2.1, σ.1.1.1, .inl σ.1.2.2.2), .inl (G.2.2.1, σ.1.1.1, .inl σ.2.1.1), .inl (G.2.2.1, σ.1.1.1, .inl σ.2.1.2.1), .inl (G.2.2.1, σ.1.1.1, .inl σ.2.1.2.2), .inl (G.2.2.2.2.1, σ.1.1.1, .inl σ.2.2.1), .inl (G.2.2.2.2.1, σ.1.1.1, .inl σ.2.2.2.1), .inl (G.2.2.1, y1, .inl (fun _ => 0)), .inl (G.2.2.1, y1, .inl (fun _ => 0)), .inl (G.2.2.1, y1, .inl (fun _ => 0)), .inl (G.2.2.1, y1, .inl (fun _ => 0))]) rfl (fun _ => ⟨rfl, rfl⟩) (Nat.le_of_ble_eq_true rfl) rfl dX4_clear_39 ?_
    refine aw_aload_n 0 dX4_clear_42 rfl rfl ?_
    refine aw_iload_n 1 dX4_clear_43 rfl rfl ?_
    refine aw_newa_int (N' := y1) (q := 14) (w' := [.inr (4, [.ref 10, .ref 11, .ref 12, .ref 13, .ref 5, .ref 6, .ref 7, .ref 8, .ref 9, .int (0 : Int32)]), .inl (G.2.2.1, σ.1.1.1, .inl σ.1.1.2), .inl (G.2.2.1, σ.1.1.1, .inl σ.1.2.1), .inl (G.2.2.1, σ.1.1.1, .inl σ.1.2.2.1), .inl (G.2.2.1, σ.1.1.1, .inl σ.1.2.2.2), .inl (G.2.2.1, σ.1.1.1, .inl σ.2.1.1), .inl (G.2.2.1, σ.1.1.1, .inl σ.2.1.2.1), .inl (G.2.2.1, σ.1.1.1, .inl σ.2.1.2.2), .inl (G.2.2.2.2.1, σ.1.1.1, .inl σ.2.2.1), .inl (G.2.2.2.2.1, σ.1.1.1, .inl σ.2.2.2.1), .inl (G.2.2.1, y1, .inl (fun _ => 0)), .inl (G.2.2.1, y1, .inl (fun _ => 0)), .inl (G.2.2.1, y1, .inl (fun _ => 0)), .inl (G.2.2.1, y1, .inl (fun _ => 0)), .inl (G.2.2.1, y1, .inl (fun _ => 0))]) arr_int hy1a hy1 hy1b rfl rfl rfl dX4_clear_44 ?_
    refine aw_putf fX4_26 0 (w' := [.inr (4, [.ref 10, .ref 11, .ref 12, .ref 13, .ref 14, .ref 6, .ref 7, .ref 8, .ref 9, .int (0 : Int32)]), .inl (G.2.2.1, σ.1.1.1, .inl σ.1.1.2), .inl (G.2.2.1, σ.1.1.1, .inl σ.1.2.1), .inl (G.2.2.1, σ.1.1.1, .inl σ.1.2.2.1), .inl (G.2.2.1, σ.1.1.1, .inl σ.1.2.2.2), .inl (G.2.2.1, σ.1.1.1, .inl σ.2.1.1), .inl (G.2.2.1, σ.1.1.1, .inl σ.2.1.2.1), .inl (G.2.2.1, σ.1.1.1, .inl σ.2.1.2.2), .inl (G.2.2.2.2.1, σ.1.1.1, .inl σ.2.2.1), .inl (G.2.2.2.2.1, σ.1.1.1, .inl σ.2.2.2.1), .inl (G.2.2.1, y1, .inl (fun _ => 0)), .inl (G.2.2.1, y1, .inl (fun _ => 0)), .inl (G.2.2.1, y1, .inl (fun _ => 0)), .inl (G.2.2.1, y1, .inl (fun _ => 0)), .inl (G.2.2.1, y1, .inl (fun _ => 0))]) rfl (fun _ => ⟨rfl, rfl⟩) (Nat.le_of_ble_eq_true rfl) rfl dX4_clear_46 ?_
    refine aw_aload_n 0 dX4_clear_49 rfl rfl ?_
    refine aw_iload_n 1 dX4_clear_50 rfl rfl ?_
    refine aw_newa_int (N' := y1) (q := 15) (w' := [.inr (4, [.ref 10, .ref 11, .ref 12, .ref 13, .ref 14, .ref 6, .ref 7, .ref 8, .ref 9, .int (0 : Int32)]), .inl (G.2.2.1, σ.1.1.1, .inl σ.1.1.2), .inl (G.2.2.1, σ.1.1.1, .inl σ.1.2.1), .inl (G.2.2.1, σ.1.1.1, .inl σ.1.2.2.1), .inl (G.2.2.1, σ.1.1.1, .inl σ.1.2.2.2), .inl (G.2.2.1, σ.1.1.1, .inl σ.2.1.1), .inl (G.2.2.1, σ.1.1.1, .inl σ.2.1.2.1), .inl (G.2.2.1, σ.1.1.1, .inl σ.2.1.2.2), .inl (G.2.2.2.2.1, σ.1.1.1, .inl σ.2.2.1), .inl (G.2.2.2.2.1, σ.1.1.1, .inl σ.2.2.2.1), .inl (G.2.2.1, y1, .inl (fun _ => 0)), .inl (G.2.2.1, y1, .inl (fun _ => 0)), .inl (G.2.2.1, y1, .inl (fun _ => 0)), .inl (G.2.2.1, y1, .inl (fun _ => 0)), .inl (G.2.2.1, y1, .inl (fun _ => 0)), .inl (G.2.2.1, y1, .inl (fun _ => 0))]) arr_int hy1a hy1 hy1b rfl rfl rfl dX4_clear_51 ?_
    refine aw_putf fX4_29 0 (w' := [.inr (4, [.ref 10, .ref 11, .ref 12, .ref 13, .ref 14, .ref 15, .ref 7, .ref 8, .ref 9, .int (0 : Int32)]), .inl (G.2.2.1, σ.1.1.1, .inl σ.1.1.2), .inl (G.2.2.1, σ.1.1.1, .inl σ.1.2.1), .inl (G.2.2.1, σ.1.1.1, .inl σ.1.2.2.1), .inl (G.2.2.1, σ.1.1.1, .inl σ.1.2.2.2), .inl (G.2.2.1, σ.1.1.1, .inl σ.2.1.1), .inl (G.2.2.1, σ.1.1.1, .inl σ.2.1.2.1), .inl (G.2.2.1, σ.1.1.1, .inl σ.2.1.2.2), .inl (G.2.2.2.2.1, σ.1.1.1, .inl σ.2.2.1), .inl (G.2.2.2.2.1, σ.1.1.1, .inl σ.2.2.2.1), .inl (G.2.2.1, y1, .inl (fun _ => 0)), .inl (G.2.2.1, y1, .inl (fun _ => 0)), .inl (G.2.2.1, y1, .inl (fun _ => 0)), .inl (G.2.2.1, y1, .inl (fun _ => 0)), .inl (G.2.2.1, y1, .inl (fun _ => 0)), .inl (G.2.2.1, y1, .inl (fun _ => 0))]) rfl (fun _ => ⟨rfl, rfl⟩) (Nat.le_of_ble_eq_true rfl) rfl dX4_clear_53 ?_
    refine aw_aload_n 0 dX4_clear_56 rfl rfl ?_
    refine aw_iload_n 1 dX4_clear_57 rfl rfl ?_
    refine aw_newa_int (N' := y1) (q := 16) (w' := [.inr (4, [.ref 10, .ref 11, .ref 12, .ref 13, .ref 14, .ref 15, .ref 7, .ref 8, .ref 9, .int (0 : Int32)]), .inl (G.2.2.1, σ.1.1.1, .inl σ.1.1.2), .inl (G.2.2.1, σ.1.1.1, .inl σ.1.2.1), .inl (G.2.2.1, σ.1.1.1, .inl σ.1.2.2.1), .inl (G.2.2.1, σ.1.1.1, .inl σ.1.2.2.2), .inl (G.2.2.1, σ.1.1.1, .inl σ.2.1.1), .inl (G.2.2.1, σ.1.1.1, .inl σ.2.1.2.1), .inl (G.2.2.1, σ.1.1.1, .inl σ.2.1.2.2), .inl (G.2.2.2.2.1, σ.1.1.1, .inl σ.2.2.1), .inl (G.2.2.2.2.1, σ.1.1.1, .inl σ.2.2.2.1), .inl (G.2.2.1, y1, .inl (fun _ => 0)), .inl (G.2.2.1, y1, .inl (fun _ => 0)), .inl (G.2.2.1, y1, .inl (fun _ => 0)), .inl (G.2.2.1, y1, .inl (fun _ => 0)), .inl (G.2.2.1, y1, .inl (fun _ => 0)), .inl (G.2.2.1, y1, .inl (fun _ => 0)), .inl (G.2.2.1, y1, .inl (fun _ => 0))]) arr_int hy1a hy1 hy1b rfl rfl rfl dX4_clear_58 ?_
    refine aw_putf fX4_32 0 (w' := [.inr (4, [.ref 10, .ref 11, .ref 12, .ref 13, .ref 14, .ref 15, .ref 16, .ref 8, .ref 9, .int (0 : Int32)]), .inl (G.2.2.1, σ.1.1.1, .inl σ.1.1.2), .inl (G.2.2.1, σ.1.1.1, .inl σ.1.2.1), .inl (G.2.2.1, σ.1.1.1, .inl σ.1.2.2.1), .inl (G.2.2.1, σ.1.1.1, .inl σ.1.2.2.2), .inl (G.2.2.1, σ.1.1.1, .inl σ.2.1.1), .inl (G.2.2.1, σ.1.1.1, .inl σ.2.1.2.1), .inl (G.2.2.1, σ.1.1.1, .inl σ.2.1.2.2), .inl (G.2.2.2.2.1, σ.1.1.1, .inl σ.2.2.1), .inl (G.2.2.2.2.1, σ.1.1.1, .inl σ.2.2.2.1), .inl (G.2.2.1, y1, .inl (fun _ => 0)), .inl (G.2.2.1, y1, .inl (fun _ => 0)), .inl (G.2.2.1, y1, .inl (fun _ => 0)), .inl (G.2.2.1, y1, .inl (fun _ => 0)), .inl (G.2.2.1, y1, .inl (fun _ => 0)), .inl (G.2.2.1, y1, .inl (fun _ => 0)), .inl (G.2.2.1, y1, .inl (fun _ => 0))]) rfl (fun _ => ⟨rfl, rfl⟩) (Nat.le_of_ble_eq_true rfl) rfl dX4_clear_60 ?_
    refine aw_aload_n 0 dX4_clear_63 rfl rfl ?_
    refine aw_iload_n 1 dX4_clear_64 rfl rfl ?_
    refine aw_newa_boolean (N' := y1) (q := 17) (w' := [.inr (4, [.ref 10, .ref 11, .ref 12, .ref 13, .ref 14, .ref 15, .ref 16, .ref 8, .ref 9, .int (0 : Int32)]), .inl (G.2.2.1, σ.1.1.1, .inl σ.1.1.2), .inl (G.2.2.1, σ.1.1.1, .inl σ.1.2.1), .inl (G.2.2.1, σ.1.1.1, .inl σ.1.2.2.1), .inl (G.2.2.1, σ.1.1.1, .inl σ.1.2.2.2), .inl (G.2.2.1, σ.1.1.1, .inl σ.2.1.1), .inl (G.2.2.1, σ.1.1.1, .inl σ.2.1.2.1), .inl (G.2.2.1, σ.1.1.1, .inl σ.2.1.2.2), .inl (G.2.2.2.2.1, σ.1.1.1, .inl σ.2.2.1), .inl (G.2.2.2.2.1, σ.1.1.1, .inl σ.2.2.2.1), .inl (G.2.2.1, y1, .inl (fun _ => 0)), .inl (G.2.2.1, y1, .inl (fun _ => 0)), .inl (G.2.2.1, y1, .inl (fun _ => 0)), .inl (G.2.2.1, y1, .inl (fun _ => 0)), .inl (G.2.2.1, y1, .inl (fun _ => 0)), .inl (G.2.2.1, y1, .inl (fun _ => 0)), .inl (G.2.2.1, y1, .inl (fun _ => 0)), .inl (G.2.2.2.2.1, y1, .inl (fun _ => 0))]) arr_boolean hy1a hy1 hy1b rfl rfl rfl dX4_clear_65 ?_
    refine aw_putf fX4_35 0 (w' := [.inr (4, [.ref 10, .ref 11, .ref 12, .ref 13, .ref 14, .ref 15, .ref 16, .ref 17, .ref 9, .int (0 : Int32)]), .inl (G.2.2.1, σ.1.1.1, .inl σ.1.1.2), .inl (G.2.2.1, σ.1.1.1, .inl σ.1.2.1), .inl (G.2.2.1, σ.1.1.1, .inl σ.1.2.2.1), .inl (G.2.2.1, σ.1.1.1, .inl σ.1.2.2.2), .inl (G.2.2.1, σ.1.1.1, .inl σ.2.1.1), .inl (G.2.2.1, σ.1.1.1, .inl σ.2.1.2.1), .inl (G.2.2.1, σ.1.1.1, .inl σ.2.1.2.2), .inl (G.2.2.2.2.1, σ.1.1.1, .inl σ.2.2.1), .inl (G.2.2.2.2.1, σ.1.1.1, .inl σ.2.2.2.1), .inl (G.2.2.1, y1, .inl (fun _ => 0)), .inl (G.2.2.1, y1, .inl (fun _ => 0)), .inl (G.2.2.1, y1, .inl (fun _ => 0)), .inl (G.2.2.1, y1, .inl (fun _ => 0)), .inl (G.2.2.1, y1, .inl (fun _ => 0)), .inl (G.2.2.1, y1, .inl (fun _ => 0)), .inl (G.2.2.1, y1, .inl (fun _ => 0)), .inl (G.2.2.2.2.1, y1, .inl (fun _ => 0))]) rfl (fun _ => ⟨rfl, rfl⟩) (Nat.le_of_ble_eq_true rfl) rfl dX4_clear_67 ?_
    refine aw_aload_n 0 dX4_clear_70 rfl rfl ?_
    refine aw_iload_n 1 dX4_clear_71 rfl rfl ?_
    refine aw_newa_boolean (N' := y1) (q := 18) (w' := [.inr (4, [.ref 10, .ref 11, .ref 12, .ref 13, .ref 14, .ref 15, .ref 16, .ref 17, .ref 9, .int (0 : Int32)]), .inl (G.2.2.1, σ.1.1.1, .inl σ.1.1.2), .inl (G.2.2.1, σ.1.1.1, .inl σ.1.2.1), .inl (G.2.2.1, σ.1.1.1, .inl σ.1.2.2.1), .inl (G.2.2.1, σ.1.1.1, .inl σ.1.2.2.2), .inl (G.2.2.1, σ.1.1.1, .inl σ.2.1.1), .inl (G.2.2.1, σ.1.1.1, .inl σ.2.1.2.1), .inl (G.2.2.1, σ.1.1.1, .inl σ.2.1.2.2), .inl (G.2.2.2.2.1, σ.1.1.1, .inl σ.2.2.1), .inl (G.2.2.2.2.1, σ.1.1.1, .inl σ.2.2.2.1), .inl (G.2.2.1, y1, .inl (fun _ => 0)), .inl (G.2.2.1, y1, .inl (fun _ => 0)), .inl (G.2.2.1, y1, .inl (fun _ => 0)), .inl (G.2.2.1, y1, .inl (fun _ => 0)), .inl (G.2.2.1, y1, .inl (fun _ => 0)), .inl (G.2.2.1, y1, .inl (fun _ => 0)), .inl (G.2.2.1, y1, .inl (fun _ => 0)), .inl (G.2.2.2.2.1, y1, .inl (fun _ => 0)), .inl (G.2.2.2.2.1, y1, .inl (fun _ => 0))]) arr_boolean hy1a hy1 hy1b rfl rfl rfl dX4_clear_72 ?_
    refine aw_putf fX4_39 0 (w' := [.inr (4, [.ref 10, .ref 11, .ref 12, .ref 13, .ref 14, .ref 15, .ref 16, .ref 17, .ref 18, .int (0 : Int32)]), .inl (G.2.2.1, σ.1.1.1, .inl σ.1.1.2), .inl (G.2.2.1, σ.1.1.1, .inl σ.1.2.1), .inl (G.2.2.1, σ.1.1.1, .inl σ.1.2.2.1), .inl (G.2.2.1, σ.1.1.1, .inl σ.1.2.2.2), .inl (G.2.2.1, σ.1.1.1, .inl σ.2.1.1), .inl (G.2.2.1, σ.1.1.1, .inl σ.2.1.2.1), .inl (G.2.2.1, σ.1.1.1, .inl σ.2.1.2.2), .inl (G.2.2.2.2.1, σ.1.1.1, .inl σ.2.2.1), .inl (G.2.2.2.2.1, σ.1.1.1, .inl σ.2.2.2.1), .inl (G.2.2.1, y1, .inl (fun _ => 0)), .inl (G.2.2.1, y1, .inl (fun _ => 0)), .inl (G.2.2.1, y1, .inl (fun _ => 0)), .inl (G.2.2.1, y1, .inl (fun _ => 0)), .inl (G.2.2.1, y1, .inl (fun _ => 0)), .inl (G.2.2.1, y1, .inl (fun _ => 0)), .inl (G.2.2.1, y1, .inl (fun _ => 0)), .inl (G.2.2.2.2.1, y1, .inl (fun _ => 0)), .inl (G.2.2.2.2.1, y1, .inl (fun _ => 0))]) rfl (fun _ => ⟨rfl, rfl⟩) (Nat.le_of_ble_eq_true rfl) rfl dX4_clear_74 ?_
    refine aw_pick [0, 10, 11, 12, 13, 14, 15, 16, 17, 18] (lv' := [(0, .ref 0), (1, .int a1)]) (st' := []) (w' := (wX4 G (((y1, aw_z), (aw_z, (aw_z, aw_z))), ((aw_z, (aw_z, aw_z)), (aw_z, (aw_z, (0 : Int32))))))) rfl rfl rfl rfl ?_
    exact aw_vret rfl dX4_clear_77 ⟨(((y1, aw_z), (aw_z, (aw_z, aw_z))), ((aw_z, (aw_z, aw_z)), (aw_z, (aw_z, (0 : Int32))))), rfl, rfl, h⟩
def wp_X4_size (σ : WSX4) (post : Int32 → WSX4 → Prop) : Prop :=
  post σ.2.2.2.2 σ
theorem kX4_size {G : aw_G} {d : Nat} (hd : 0 ≤ d) {σ : WSX4} {post : Int32 → WSX4 → Prop} (h : wp_X4_size σ post) : AC G MX4_size d 0 0 10 [.ref 0] (wX4 G σ) (aw_pi (wX4 G) post) := by
  refine AC.of (lv := [(0, .ref 0)]) (by decide) (Nat.le_of_ble_eq_true rfl) rfl ?_
  unfold wp_X4_size at h
  refine aw_aload_n 0 dX4_size_0 rfl rfl ?_
  refine aw_getf (v := .int σ.2.2.2.2) fX4_42 0 rfl rfl dX4_size_1 ?_
  exact aw_iret rfl dX4_size_4 ⟨_, σ, rfl, rfl, h⟩
def wp_X4_add (σ : WSX4) (a1 : Int32) (a2 : Int32) (a3 : Int32) (post : Int32 → WSX4 → Prop) : Prop :=
  ((σ.2.2.2.2 < (nI σ.1.1.1) → (vp_in σ.2.2.2.2 σ.1.1.1 ∧ ∀ y1 : Nat → Int32, y1 = upd σ.1.1.2 (σ.2.2.2.2).toNatClampNeg a1 → (vp_in σ.2.2.2.2 σ.1.1.1 ∧ ∀ y2 : Nat → Int32, y2 = upd σ.1.2.1 (σ.2.2.2.2).toNatClampNeg a2 → (vp_in σ.2.2.2.2 σ.1.1.1 ∧ ∀ y3 : Nat → Int32, y3 = upd σ.1.2.2.1 (σ.2.2.2.2).toNatClampNeg a3 → (vp_in σ.2.2.2.2 σ.1.1.1 ∧ ∀ y4 : Nat → Int32, y4 = upd σ.1.2.2.2 (σ.2.2.2.2).toNatClampNeg (1 : Int32) → (vp_in σ.2.2.2.2 σ.1.1.1 ∧ ∀ y5 : Nat → Int32, y5 = upd σ.2.1.1 (σ.2.2.2.2).toNatClampNeg (1 : Int32) → (vp_in σ.2.2.2.2 σ.1.1.1 ∧ ∀ y6 : Nat → Int32, y6 = upd σ.2.1.2.1 (σ.2.2.2.2).toNatClampNeg ((-1) : Int32) → (vp_in σ.2.2.2.2 σ.1.1.1 ∧ ∀ y7 : Nat → Int32, y7 = upd σ.2.1.2.2 (σ.2.2.2.2).toNatClampNeg ((-1) : Int32) → (vp_in σ.2.2.2.2 σ.1.1.1 ∧ ∀ y8 : Nat → Int32, y8 = upd σ.2.2.1 (σ.2.2.2.2).toNatClampNeg (vp_nar .boolean (0 : Int32)) → (vp_in σ.2.2.2.2 σ.1.1.1 ∧ ∀ y9 : Nat → Int32, y9 = upd σ.2.2.2.1 (σ.2.2.2.2).toNatClampNeg (vp_nar .boolean (0 : Int32)) → (∀ y10 : Int32, y10 = (σ.2.2.2.2 + (1 : Int32)) → post σ.2.2.2.2 (((σ.1.1.1, y1), (y2, (y3, y4))), ((y5, (y6, y7)), (y8, (y9, y10))))))))))))))) ∧ (¬ σ.2.2.2.2 < (nI σ.1.1.1) → post ((-1) : Int32) σ))
theorem kX4_add {G : aw_G} {d : Nat} (hd : 0 ≤ d) {σ : WSX4} {a1 : Int32} {a2 : Int32} {a3 : Int32} {post : Int32 → WSX4 → Prop} (h : wp_X4_add σ a1 a2 a3 post) : AC G MX4_add d 0 0 10 [.ref 0, .int a1, .int a2, .int a3] (wX4 G σ) (aw_pi (wX4 G) post) := by
  refine AC.of (lv := [(0, .ref 0), (1, .int a1), (2, .int a2), (3, .int a3)]) (by decide) (Nat.le_of_ble_eq_true rfl) rfl ?_
  unfold wp_X4_add at h
  refine aw_aload_n 0 dX4_add_0 rfl rfl ?_
  refine aw_getf (v := .int σ.2.2.2.2) fX4_42 0 rfl rfl dX4_add_1 ?_
  refine aw_aload_n 0 dX4_add_4 rfl rfl ?_
  refine aw_getf (v := .ref 1) fX4_11 0 rfl rfl dX4_add_5 ?_
  refine aw_alen 1 0 (v := (nI σ.1.1.1)) rfl rfl rfl dX4_add_8 ?_
  refine aw_icmp_lt 14 dX4_add_9 (by decide) (fun c11 => ?_) (fun c11 => ?_)
  · have h := h.1 c11
    refine aw_aload_n 0 dX4_add_14 rfl rfl ?_
    refine aw_getf (v := .int σ.2.2.2.2) fX4_42 0 rfl rfl dX4_add_15 ?_
    refine aw_istore (lv' := [(4, .int σ.2.2.2.2), (0, .ref 0), (1, .int a1), (2, .int a2), (3, .int a3)]) dX4_add_18 (by decide) rfl ?_
    refine aw_aload_n 1 dX4_add_20 rfl rfl ?_
    refine aw_getf (v := .ref 1) fX4_11 0 rfl rfl dX4_add_21 ?_
    refine aw_iload 0 dX4_add_24 rfl ?_
    refine aw_iload_n 2 dX4_add_26 rfl rfl ?_
    refine aw_iast 1 (n := σ.1.1.1) (f := σ.1.1.2) (w' := fun y1 => (wX4 G (((σ.1.1.1, y1), σ.1.2), σ.2))) rfl h.1 (fun _ => rfl) dX4_add_27 (fun y1 ey1 => ?_)
    have h := h.2 y1 ey1
    refine aw_aload_n 1 dX4_add_28 rfl rfl ?_
    refine aw_getf (v := .ref 2) fX4_17 0 rfl rfl dX4_add_29 ?_
    refine aw_iload 0 dX4_add_32 rfl ?_
    refine aw_iload_n 3 dX4_add_34 rfl rfl ?_
    refine aw_iast 2 (n := σ.1.1.1) (f := σ.1.2.1) (w' := fun y2 => (wX4 G (((σ.1.1.1, y1), (y2, σ.1.2.2)), σ.2))) rfl h.1 (fun _ => rfl) dX4_add_35 (fun y2 ey2 => ?_)
    have h := h.2 y2 ey2
    refine aw_aload_n 1 dX4_add_36 rfl rfl ?_
    refine aw_getf (v := .ref 3) fX4_20 0 rfl rfl dX4_add_37 ?_
    refine aw_iload 0 dX4_add_40 rfl ?_
    refine aw_iload_n 4 dX4_add_42 rfl rfl ?_
    refine aw_iast 3 (n := σ.1.1.1) (f := σ.1.2.2.1) (w' := fun y3 => (wX4 G (((σ.1.1.1, y1), (y2, (y3, σ.1.2.2.2))), σ.2))) rfl h.1 (fun _ => rfl) dX4_add_43 (fun y3 ey3 => ?_)
    have h := h.2 y3 ey3
    refine aw_aload_n 1 dX4_add_44 rfl rfl ?_
    refine aw_getf (v := .ref 4) fX4_23 0 rfl rfl dX4_add_45 ?_
    refine aw_iload 0 dX4_add_48 rfl ?_
    refine aw_iconst (v := (1 : Int32)) dX4_add_50 (by decide) ?_
    refine aw_iast 4 (n := σ.1.1.1) (f := σ.1.2.2.2) (w' := fun y4 => (wX4 G (((σ.1.1.1, y1), (y2, (y3, y4))), σ.2))) rfl h.1 (fun _ => rfl) dX4_add_51 (fun y4 ey4 => ?_)
    have h := h.2 y4 ey4
    refine aw_aload_n 1 dX4_add_52 rfl rfl ?_
    refine aw_getf (v := .ref 5) fX4_26 0 rfl rfl dX4_add_53 ?_
    refine aw_iload 0 dX4_add_56 rfl ?_
    refine aw_iconst (v := (1 : Int32)) dX4_add_58 (by decide) ?_
    refine aw_iast 5 (n := σ.1.1.1) (f := σ.2.1.1) (w' := fun y5 => (wX4 G (((σ.1.1.1, y1), (y2, (y3, y4))), ((y5, σ.2.1.2), σ.2.2)))) rfl h.1 (fun _ => rfl) dX4_add_59 (fun y5 ey5 => ?_)
    have h := h.2 y5 ey5
    refine aw_aload_n 1 dX4_add_60 rfl rfl ?_
    refine aw_getf (v := .ref 6) fX4_29 0 rfl rfl dX4_add_61 ?_
    refine aw_iload 0 dX4_add_64 rfl ?_
    refine aw_iconst (v := ((-1) : Int32)) dX4_add_66 (by decide) ?_
    refine aw_iast 6 (n := σ.1.1.1) (f := σ.2.1.2.1) (w' := fun y6 => (wX4 G (((σ.1.1.1, y1), (y2, (y3, y4))), ((y5, (y6, σ.2.1.2.2)), σ.2.2)))) rfl h.1 (fun _ => rfl) dX4_add_67 (fun y6 ey6 => ?_)
    have h := h.2 y6 ey6
    refine aw_aload_n 1 dX4_add_68 rfl rfl ?_
    refine aw_getf (v := .ref 7) fX4_32 0 rfl rfl dX4_add_69 ?_
    refine aw_iload 0 dX4_add_72 rfl ?_
    refine aw_iconst (v := ((-1) : Int32)) dX4_add_74 (by decide) ?_
    refine aw_iast 7 (n := σ.1.1.1) (f := σ.2.1.2.2) (w' := fun y7 => (wX4 G (((σ.1.1.1, y1), (y2, (y3, y4))), ((y5, (y6, y7)), σ.2.2)))) rfl h.1 (fun _ => rfl) dX4_add_75 (fun y7 ey7 => ?_)
    have h := h.2 y7 ey7
    refine aw_aload_n 1 dX4_add_76 rfl rfl ?_
    refine aw_getf (v := .ref 8) fX4_35 0 rfl rfl dX4_add_77 ?_
    refine aw_iload 0 dX4_add_80 rfl ?_
    refine aw_iconst (v := (0 : Int32)) dX4_add_82 (by decide) ?_
    refine aw_zast 8 (n := σ.1.1.1) (f := σ.2.2.1) (w' := fun y8 => (wX4 G (((σ.1.1.1, y1), (y2, (y3, y4))), ((y5, (y6, y7)), (y8, σ.2.2.2))))) rfl h.1 (fun _ => rfl) dX4_add_83 (fun y8 ey8 => ?_)
    have h := h.2 y8 ey8
    refine aw_aload_n 1 dX4_add_84 rfl rfl ?_
    refine aw_getf (v := .ref 9) fX4_39 0 rfl rfl dX4_add_85 ?_
    refine aw_iload 0 dX4_add_88 rfl ?_
    refine aw_iconst (v := (0 : Int32)) dX4_add_90 (by decide) ?_
    refine aw_zast 9 (n := σ.1.1.1) (f := σ.2.2.2.1) (w' := fun y9 => (wX4 G (((σ.1.1.1, y1), (y2, (y3, y4))), ((y5, (y6, y7)), (y8, (y9, σ.2.2.2.2)))))) rfl h.1 (fun _ => rfl) dX4_add_91 (fun y9 ey9 => ?_)
    have h := h.2 y9 ey9
    refine aw_aload_n 1 dX4_add_92 rfl rfl ?_
    refine aw_dup dX4_add_93 rfl ?_
    refine aw_getf (v := .int σ.2.2.2.2) fX4_42 0 rfl rfl dX4_add_94 ?_
    refine aw_iconst (v := (1 : Int32)) dX4_add_97 (by decide) ?_
    refine aw_iadd dX4_add_98 ?_
    refine aw_topi (fun y10 ey10 => ?_)
    have h := h y10 ey10
    refine aw_putf fX4_42 0 (w' := (wX4 G (((σ.1.1.1, y1), (y2, (y3, y4))), ((y5, (y6, y7)), (y8, (y9, y10)))))) rfl (fun _ => ⟨rfl, rfl⟩) (Nat.le_of_ble_eq_true rfl) rfl dX4_add_99 ?_
    refine aw_iload 0 dX4_add_102 rfl ?_
    exact aw_iret rfl dX4_add_104 ⟨_, (((σ.1.1.1, y1), (y2, (y3, y4))), ((y5, (y6, y7)), (y8, (y9, y10)))), rfl, rfl, h⟩
  · have h := h.2 c11
    refine aw_iconst (v := ((-1) : Int32)) dX4_add_12 (by decide) ?_
    exact aw_iret rfl dX4_add_13 ⟨_, σ, rfl, rfl, h⟩
def wp_X4_has (σ : WSX4) (a1 : Int32) (post : Int32 → WSX4 → Prop) : Prop :=
  ((a1 < 0 → post (0 : Int32) σ) ∧ (¬ a1 < 0 → ((σ.2.2.2.2 ≤ a1 → post (0 : Int32) σ) ∧ (¬ σ.2.2.2.2 ≤ a1 → (((nI σ.1.1.1) ≤ a1 → post (0 : Int32) σ) ∧ (¬ (nI σ.1.1.1) ≤ a1 → post (1 : Int32) σ))))))
theorem kX4_has {G : aw_G} {d : Nat} (hd : 0 ≤ d) {σ : WSX4} {a1 : Int32} {post : Int32 → WSX4 → Prop} (h : wp_X4_has σ a1 post) : AC G MX4_has d 0 0 10 [.ref 0, .int a1] (wX4 G σ) (aw_pi (wX4 G) post) := by
  refine AC.of (lv := [(0, .ref 0), (1, .int a1)]) (by decide) (Nat.le_of_ble_eq_true rfl) rfl ?_
  unfold wp_X4_has at h
  refine aw_iload_n 1 dX4_has_0 rfl rfl ?_
  refine aw_if_lt 25 dX4_has_1 (by decide) (fun c3 => ?_) (fun c3 => ?_)
  · have h := h.1 c3
    refine aw_iconst (v := (0 : Int32)) dX4_has_25 (by decide) ?_
    exact aw_zret rfl rfl dX4_has_26 ⟨_, σ, rfl, rfl, h⟩
  · have h := h.2 c3
    refine aw_iload_n 1 dX4_has_4 rfl rfl ?_
    refine aw_aload_n 0 dX4_has_5 rfl rfl ?_
    refine aw_getf (v := .int σ.2.2.2.2) fX4_42 0 rfl rfl dX4_has_6 ?_
    refine aw_icmp_ge 25 dX4_has_9 (by decide) (fun c2 => ?_) (fun c2 => ?_)
    · have h := h.1 c2
      refine aw_iconst (v := (0 : Int32)) dX4_has_25 (by decide) ?_
      exact aw_zret rfl rfl dX4_has_26 ⟨_, σ, rfl, rfl, h⟩
    · have h := h.2 c2
      refine aw_iload_n 1 dX4_has_12 rfl rfl ?_
      refine aw_aload_n 0 dX4_has_13 rfl rfl ?_
      refine aw_getf (v := .ref 1) fX4_11 0 rfl rfl dX4_has_14 ?_
      refine aw_alen 1 0 (v := (nI σ.1.1.1)) rfl rfl rfl dX4_has_17 ?_
      refine aw_icmp_ge 25 dX4_has_18 (by decide) (fun c1 => ?_) (fun c1 => ?_)
      · have h := h.1 c1
        refine aw_iconst (v := (0 : Int32)) dX4_has_25 (by decide) ?_
        exact aw_zret rfl rfl dX4_has_26 ⟨_, σ, rfl, rfl, h⟩
      · have h := h.2 c1
        refine aw_iconst (v := (1 : Int32)) dX4_has_21 (by decide) ?_
        refine aw_goto 26 dX4_has_22 (by decide) ?_
        exact aw_zret rfl rfl dX4_has_26 ⟨_, σ, rfl, rfl, h⟩
def wp_X4_addAround_97  (post : WSX4 → Prop) (σ : WSX4) (s0 : Int32) : Prop :=
  (vp_in s0 σ.1.1.1 ∧ ∀ y9 : Nat → Int32, y9 = upd σ.2.2.2.1 (s0).toNatClampNeg (vp_nar .boolean (1 : Int32)) → post (σ.1, (σ.2.1, (σ.2.2.1, (y9, σ.2.2.2.2)))))
theorem aw_X4_addAround_97 {G : aw_G} {d : Nat} (hd : 1 ≤ d) {post : WSX4 → Prop}  {σ : WSX4} {s0 : Int32} (h : wp_X4_addAround_97  post σ s0) : AW G MX4_addAround d 0 0 10 (aw_pv (wX4 G) post) 97 [] [.int s0, .ref 9] (wX4 G σ) := by
  unfold wp_X4_addAround_97 at h
  refine aw_iconst (v := (1 : Int32)) dX4_addAround_97 (by decide) ?_
  refine aw_goto 102 dX4_addAround_98 (by decide) ?_
  refine aw_zast 9 (n := σ.1.1.1) (f := σ.2.2.2.1) (w' := fun y9 => (wX4 G (σ.1, (σ.2.1, (σ.2.2.1, (y9, σ.2.2.2.2)))))) rfl h.1 (fun _ => rfl) dX4_addAround_102 (fun y9 ey9 => ?_)
  have h := h.2 y9 ey9
  exact aw_vret rfl dX4_addAround_103 ⟨(σ.1, (σ.2.1, (σ.2.2.1, (y9, σ.2.2.2.2)))), rfl, rfl, h⟩
def wp_X4_addAround_55  (post : WSX4 → Prop) (σ : WSX4) (x1 : Int32) (x4 : Int32) (s0 : Int32) (s1 : Int32) (s2 : Int32) : Prop :=
  (vp_in s2 σ.1.1.1 ∧ ∀ y7 : Nat → Int32, y7 = upd σ.1.2.2.2 (s2).toNatClampNeg (s1 + s0) → (vp_in (x4 - (1 : Int32)) σ.1.1.1 ∧ (vp_in x4 σ.1.1.1 ∧ ∀ y8 : Nat → Int32, y8 = upd σ.2.1.1 (x4).toNatClampNeg (σ.2.1.1 ((x4 - (1 : Int32))).toNatClampNeg) → ((x1 = (28 : Int32) → wp_X4_addAround_97  post ((σ.1.1, (σ.1.2.1, (σ.1.2.2.1, y7))), ((y8, σ.2.1.2), σ.2.2)) x4) ∧ (¬ x1 = (28 : Int32) → (vp_in (x4 - (1 : Int32)) σ.1.1.1 ∧ (((σ.2.2.2.1 ((x4 - (1 : Int32))).toNatClampNeg) = 0 → (vp_in x4 σ.1.1.1 ∧ ∀ y10 : Nat → Int32, y10 = upd σ.2.2.2.1 (x4).toNatClampNeg (vp_nar .boolean (0 : Int32)) → post ((σ.1.1, (σ.1.2.1, (σ.1.2.2.1, y7))), ((y8, σ.2.1.2), (σ.2.2.1, (y10, σ.2.2.2.2)))))) ∧ (¬ (σ.2.2.2.1 ((x4 - (1 : Int32))).toNatClampNeg) = 0 → wp_X4_addAround_97  post ((σ.1.1, (σ.1.2.1, (σ.1.2.2.1, y7))), ((y8, σ.2.1.2), σ.2.2)) x4))))))))
theorem aw_X4_addAround_55 {G : aw_G} {d : Nat} (hd : 1 ≤ d) {post : WSX4 → Prop}  {σ : WSX4} {x1 : Int32} {x4 : Int32} {s0 : Int32} {s1 : Int32} {s2 : Int32} (h : wp_X4_addAround_55  post σ x1 x4 s0 s1 s2) : AW G MX4_addAround d 0 0 10 (aw_pv (wX4 G) post) 55 [(0, .ref 0), (1, .int x1), (4, .int x4)] [.int s0, .int s1, .int s2, .ref 4] (wX4 G σ) := by
  unfold wp_X4_addAround_55 at h
  refine aw_iadd dX4_addAround_55 ?_
  refine aw_iast 4 (n := σ.1.1.1) (f := σ.1.2.2.2) (w' := fun y7 => (wX4 G ((σ.1.1, (σ.1.2.1, (σ.1.2.2.1, y7))), σ.2))) rfl h.1 (fun _ => rfl) dX4_addAround_56 (fun y7 ey7 => ?_)
  have h := h.2 y7 ey7
  refine aw_aload_n 0 dX4_addAround_57 rfl rfl ?_
  refine aw_getf (v := .ref 5) fX4_26 0 rfl rfl dX4_addAround_58 ?_
  refine aw_iload 2 dX4_addAround_61 rfl ?_
  refine aw_aload_n 0 dX4_addAround_63 rfl rfl ?_
  refine aw_getf (v := .ref 5) fX4_26 0 rfl rfl dX4_addAround_64 ?_
  refine aw_iload 2 dX4_addAround_67 rfl ?_
  refine aw_iconst (v := (1 : Int32)) dX4_addAround_69 (by decide) ?_
  refine aw_isub dX4_addAround_70 ?_
  refine aw_iald 5 (n := σ.1.1.1) (f := σ.2.1.1) rfl h.1 dX4_addAround_71 ?_
  have h := h.2
  refine aw_iast 5 (n := σ.1.1.1) (f := σ.2.1.1) (w' := fun y8 => (wX4 G ((σ.1.1, (σ.1.2.1, (σ.1.2.2.1, y7))), ((y8, σ.2.1.2), σ.2.2)))) rfl h.1 (fun _ => rfl) dX4_addAround_72 (fun y8 ey8 => ?_)
  have h := h.2 y8 ey8
  refine aw_aload_n 0 dX4_addAround_73 rfl rfl ?_
  refine aw_getf (v := .ref 9) fX4_39 0 rfl rfl dX4_addAround_74 ?_
  refine aw_iload 2 dX4_addAround_77 rfl ?_
  refine aw_iload_n 1 dX4_addAround_79 rfl rfl ?_
  refine aw_bipush (v := (28 : Int32)) dX4_addAround_80 (by decide) ?_
  refine aw_icmp_eq 97 dX4_addAround_82 (by decide) (fun c12 => ?_) (fun c12 => ?_)
  · have h := h.1 c12
    refine aw_lvsub (lv' := []) [] rfl ?_
    exact aw_X4_addAround_97 hd  h
  · have h := h.2 c12
    refine aw_aload_n 0 dX4_addAround_85 rfl rfl ?_
    refine aw_getf (v := .ref 9) fX4_39 0 rfl rfl dX4_addAround_86 ?_
    refine aw_iload 2 dX4_addAround_89 rfl ?_
    refine aw_iconst (v := (1 : Int32)) dX4_addAround_91 (by decide) ?_
    refine aw_isub dX4_addAround_92 ?_
    refine aw_zald 9 (n := σ.1.1.1) (f := σ.2.2.2.1) rfl h.1 dX4_addAround_93 ?_
    have h := h.2
    refine aw_if_eq 101 dX4_addAround_94 (by decide) (fun c11 => ?_) (fun c11 => ?_)
    · have h := h.1 c11
      refine aw_iconst (v := (0 : Int32)) dX4_addAround_101 (by decide) ?_
      refine aw_zast 9 (n := σ.1.1.1) (f := σ.2.2.2.1) (w' := fun y10 => (wX4 G ((σ.1.1, (σ.1.2.1, (σ.1.2.2.1, y7))), ((y8, σ.2.1.2), (σ.2.2.1, (y10, σ.2.2.2.2)))))) rfl h.1 (fun _ => rfl) dX4_addAround_102 (fun y10 ey10 => ?_)
      have h := h.2 y10 ey10
      exact aw_vret rfl dX4_addAround_103 ⟨((σ.1.1, (σ.1.2.1, (σ.1.2.2.1, y7))), ((y8, σ.2.1.2), (σ.2.2.1, (y10, σ.2.2.2.2)))), rfl, rfl, h⟩
    · have h := h.2 c11
      refine aw_lvsub (lv' := []) [] rfl ?_
      exact aw_X4_addAround_97 hd  h
def wp_X4_addAround (σ : WSX4) (a1 : Int32) (a2 : Int32) (a3 : Int32) (post : WSX4 → Prop) : Prop :=
  wp_X4_add σ a1 a2 a3 (fun r1 τ2 => wp_X4_has τ2 r1 (fun r3 τ4 => ((r3 = 0 → post τ4) ∧ (¬ r3 = 0 → wp_X4_has τ4 (r1 - (1 : Int32)) (fun r5 τ6 => ((r5 = 0 → post τ6) ∧ (¬ r5 = 0 → (vp_in (r1 - (1 : Int32)) τ6.1.1.1 ∧ ((¬ a1 = (28 : Int32) → wp_X4_addAround_55  post τ6 a1 r1 (1 : Int32) (τ6.1.2.2.2 ((r1 - (1 : Int32))).toNatClampNeg) r1) ∧ (a1 = (28 : Int32) → wp_X4_addAround_55  post τ6 a1 r1 (2 : Int32) (τ6.1.2.2.2 ((r1 - (1 : Int32))).toNatClampNeg) r1))))))))))
theorem kX4_addAround {G : aw_G} {d : Nat} (hd : 1 ≤ d) {σ : WSX4} {a1 : Int32} {a2 : Int32} {a3 : Int32} {post : WSX4 → Prop} (h : wp_X4_addAround σ a1 a2 a3 post) : AC G MX4_addAround d 0 0 10 [.ref 0, .int a1, .int a2, .int a3] (wX4 G σ) (aw_pv (wX4 G) post) := by
  refine AC.of (lv := [(0, .ref 0), (1, .int a1), (2, .int a2), (3, .int a3)]) (by decide) (Nat.le_of_ble_eq_true rfl) rfl ?_
  unfold wp_X4_addAround at h
  refine aw_aload_n 0 dX4_addAround_0 rfl rfl ?_
  refine aw_iload_n 1 dX4_addAround_1 rfl rfl ?_
  refine aw_iload_n 2 dX4_addAround_2 rfl rfl ?_
  refine aw_iload_n 3 dX4_addAround_3 rfl rfl ?_
  refine aw_callVT (mc1 := 0) (ms1 := 0) (mc := 0) (ms := 0) (st := []) (q := 0) (As := [.int a1, .int a2, .int a3]) lX4_46 insX4_add selX4_add ⟨TX4, 10, rfl⟩ (by omega) (kX4_add (d := 0) (by omega) h) (Nat.le_of_ble_eq_true rfl) rfl rfl rfl dX4_addAround_4 rfl (fun _ _ hh => ?_)
  obtain ⟨r1, τ2, rfl, rfl, h⟩ := hh
  refine aw_stk (st' := [.int r1]) rfl ?_
  refine aw_istore (lv' := [(4, .int r1), (0, .ref 0), (1, .int a1), (2, .int a2), (3, .int a3)]) dX4_addAround_7 (by decide) rfl ?_
  refine aw_aload_n 1 dX4_addAround_9 rfl rfl ?_
  refine aw_iload 0 dX4_addAround_10 rfl ?_
  refine aw_callVT (mc1 := 0) (ms1 := 0) (mc := 0) (ms := 0) (st := []) (q := 0) (As := [.int r1]) lX4_50 insX4_has selX4_has ⟨TX4, 10, rfl⟩ (by omega) (kX4_has (d := 0) (by omega) h) (Nat.le_of_ble_eq_true rfl) rfl rfl rfl dX4_addAround_12 rfl (fun _ _ hh => ?_)
  obtain ⟨r3, τ4, rfl, rfl, h⟩ := hh
  refine aw_stk (st' := [.int r3]) rfl ?_
  refine aw_if_eq 103 dX4_addAround_15 (by decide) (fun c15 => ?_) (fun c15 => ?_)
  · have h := h.1 c15
    exact aw_vret rfl dX4_addAround_103 ⟨τ4, rfl, rfl, h⟩
  · have h := h.2 c15
    refine aw_aload_n 1 dX4_addAround_18 rfl rfl ?_
    refine aw_iload 0 dX4_addAround_19 rfl ?_
    refine aw_iconst (v := (1 : Int32)) dX4_addAround_21 (by decide) ?_
    refine aw_isub dX4_addAround_22 ?_
    refine aw_callVT (mc1 := 0) (ms1 := 0) (mc := 0) (ms := 0) (st := []) (q := 0) (As := [.int (r1 - (1 : Int32))]) lX4_50 insX4_has selX4_has ⟨TX4, 10, rfl⟩ (by omega) (kX4_has (d := 0) (by omega) h) (Nat.le_of_ble_eq_true rfl) rfl rfl rfl dX4_addAround_23 rfl (fun _ _ hh => ?_)
    obtain ⟨r5, τ6, rfl, rfl, h⟩ := hh
    refine aw_stk (st' := [.int r5]) rfl ?_
    refine aw_if_eq 103 dX4_addAround_26 (by decide) (fun c14 => ?_) (fun c14 => ?_)
    · have h := h.1 c14
      exact aw_vret rfl dX4_addAround_103 ⟨τ6, rfl, rfl, h⟩
    · have h := h.2 c14
      refine aw_aload_n 1 dX4_addAround_29 rfl rfl ?_
      refine aw_getf (v := .ref 4) fX4_23 0 rfl rfl dX4_addAround_30 ?_
      refine aw_iload 0 dX4_addAround_33 rfl ?_
      refine aw_aload_n 1 dX4_addAround_35 rfl rfl ?_
      refine aw_getf (v := .ref 4) fX4_23 0 rfl rfl dX4_addAround_36 ?_
      refine aw_iload 0 dX4_addAround_39 rfl ?_
      refine aw_iconst (v := (1 : Int32)) dX4_addAround_41 (by decide) ?_
      refine aw_isub dX4_addAround_42 ?_
      refine aw_iald 4 (n := τ6.1.1.1) (f := τ6.1.2.2.2) rfl h.1 dX4_addAround_43 ?_
      have h := h.2
      refine aw_iload_n 2 dX4_addAround_44 rfl rfl ?_
      refine aw_bipush (v := (28 : Int32)) dX4_addAround_45 (by decide) ?_
      refine aw_icmp_ne 54 dX4_addAround_47 (by decide) (fun c13 => ?_) (fun c13 => ?_)
      · have h := h.1 c13
        refine aw_iconst (v := (1 : Int32)) dX4_addAround_54 (by decide) ?_
        refine aw_lvsub (lv' := [(0, .ref 0), (1, .int a1), (4, .int r1)]) [1, 2, 0] rfl ?_
        exact aw_X4_addAround_55 hd  h
      · have h := h.2 c13
        refine aw_iconst (v := (2 : Int32)) dX4_addAround_50 (by decide) ?_
        refine aw_goto 55 dX4_addAround_51 (by decide) ?_
        refine aw_lvsub (lv' := [(0, .ref 0), (1, .int a1), (4, .int r1)]) [1, 2, 0] rfl ?_
        exact aw_X4_addAround_55 hd  h
def wp_X4_left (σ : WSX4) (a1 : Int32) (post : Int32 → WSX4 → Prop) : Prop :=
  wp_X4_has σ (a1 - (1 : Int32)) (fun r1 τ2 => ((r1 = 0 → post ((-1) : Int32) τ2) ∧ (¬ r1 = 0 → (vp_in (a1 - (1 : Int32)) τ2.1.1.1 ∧ post ((a1 - (1 : Int32)) - (τ2.1.2.2.2 ((a1 - (1 : Int32))).toNatClampNeg)) τ2))))
theorem kX4_left {G : aw_G} {d : Nat} (hd : 1 ≤ d) {σ : WSX4} {a1 : Int32} {post : Int32 → WSX4 → Prop} (h : wp_X4_left σ a1 post) : AC G MX4_left d 0 0 10 [.ref 0, .int a1] (wX4 G σ) (aw_pi (wX4 G) post) := by
  refine AC.of (lv := [(0, .ref 0), (1, .int a1)]) (by decide) (Nat.le_of_ble_eq_true rfl) rfl ?_
  unfold wp_X4_left at h
  refine aw_aload_n 0 dX4_left_0 rfl rfl ?_
  refine aw_iload_n 1 dX4_left_1 rfl rfl ?_
  refine aw_iconst (v := (1 : Int32)) dX4_left_2 (by decide) ?_
  refine aw_isub dX4_left_3 ?_
  refine aw_callVT (mc1 := 0) (ms1 := 0) (mc := 0) (ms := 0) (st := []) (q := 0) (As := [.int (a1 - (1 : Int32))]) lX4_50 insX4_has selX4_has ⟨TX4, 10, rfl⟩ (by omega) (kX4_has (d := 0) (by omega) h) (Nat.le_of_ble_eq_true rfl) rfl rfl rfl dX4_left_4 rfl (fun _ _ hh => ?_)
  obtain ⟨r1, τ2, rfl, rfl, h⟩ := hh
  refine aw_stk (st' := [.int r1]) rfl ?_
  refine aw_if_eq 25 dX4_left_7 (by decide) (fun c3 => ?_) (fun c3 => ?_)
  · have h := h.1 c3
    refine aw_iconst (v := ((-1) : Int32)) dX4_left_25 (by decide) ?_
    exact aw_iret rfl dX4_left_26 ⟨_, τ2, rfl, rfl, h⟩
  · have h := h.2 c3
    refine aw_iload_n 1 dX4_left_10 rfl rfl ?_
    refine aw_iconst (v := (1 : Int32)) dX4_left_11 (by decide) ?_
    refine aw_isub dX4_left_12 ?_
    refine aw_aload_n 0 dX4_left_13 rfl rfl ?_
    refine aw_getf (v := .ref 4) fX4_23 0 rfl rfl dX4_left_14 ?_
    refine aw_iload_n 1 dX4_left_17 rfl rfl ?_
    refine aw_iconst (v := (1 : Int32)) dX4_left_18 (by decide) ?_
    refine aw_isub dX4_left_19 ?_
    refine aw_iald 4 (n := τ2.1.1.1) (f := τ2.1.2.2.2) rfl h.1 dX4_left_20 ?_
    have h := h.2
    refine aw_isub dX4_left_21 ?_
    refine aw_goto 26 dX4_left_22 (by decide) ?_
    exact aw_iret rfl dX4_left_26 ⟨_, τ2, rfl, rfl, h⟩
def wp_X4_addPair_146  (post : WSX4 → Prop) (σ : WSX4) (s0 : Int32) : Prop :=
  (vp_in s0 σ.1.1.1 ∧ ∀ y13 : Nat → Int32, y13 = upd σ.2.2.2.1 (s0).toNatClampNeg (vp_nar .boolean (1 : Int32)) → post (σ.1, (σ.2.1, (σ.2.2.1, (y13, σ.2.2.2.2)))))
theorem aw_X4_addPair_146 {G : aw_G} {d : Nat} (hd : 2 ≤ d) {post : WSX4 → Prop}  {σ : WSX4} {s0 : Int32} (h : wp_X4_addPair_146  post σ s0) : AW G MX4_addPair d 0 0 10 (aw_pv (wX4 G) post) 146 [] [.int s0, .ref 9] (wX4 G σ) := by
  unfold wp_X4_addPair_146 at h
  refine aw_iconst (v := (1 : Int32)) dX4_addPair_146 (by decide) ?_
  refine aw_goto 151 dX4_addPair_147 (by decide) ?_
  refine aw_zast 9 (n := σ.1.1.1) (f := σ.2.2.2.1) (w' := fun y13 => (wX4 G (σ.1, (σ.2.1, (σ.2.2.1, (y13, σ.2.2.2.2)))))) rfl h.1 (fun _ => rfl) dX4_addPair_151 (fun y13 ey13 => ?_)
  have h := h.2 y13 ey13
  exact aw_vret rfl dX4_addPair_152 ⟨(σ.1, (σ.2.1, (σ.2.2.1, (y13, σ.2.2.2.2)))), rfl, rfl, h⟩
def wp_X4_addPair_119  (post : WSX4 → Prop) (σ : WSX4) (x3 : Int32) (x4 : Int32) (s0 : Int32) (s1 : Int32) : Prop :=
  (vp_in s1 σ.1.1.1 ∧ ∀ y12 : Nat → Int32, y12 = upd σ.2.1.1 (s1).toNatClampNeg s0 → (vp_in x4 σ.1.1.1 ∧ ((¬ (σ.2.2.2.1 (x4).toNatClampNeg) = 0 → wp_X4_addPair_146  post (σ.1, ((y12, σ.2.1.2), σ.2.2)) x3) ∧ ((σ.2.2.2.1 (x4).toNatClampNeg) = 0 → (vp_in (x3 - (1 : Int32)) σ.1.1.1 ∧ (((σ.2.2.2.1 ((x3 - (1 : Int32))).toNatClampNeg) = 0 → (vp_in x3 σ.1.1.1 ∧ ∀ y14 : Nat → Int32, y14 = upd σ.2.2.2.1 (x3).toNatClampNeg (vp_nar .boolean (0 : Int32)) → post (σ.1, ((y12, σ.2.1.2), (σ.2.2.1, (y14, σ.2.2.2.2)))))) ∧ (¬ (σ.2.2.2.1 ((x3 - (1 : Int32))).toNatClampNeg) = 0 → wp_X4_addPair_146  post (σ.1, ((y12, σ.2.1.2), σ.2.2)) x3)))))))
theorem aw_X4_addPair_119 {G : aw_G} {d : Nat} (hd : 2 ≤ d) {post : WSX4 → Prop}  {σ : WSX4} {x3 : Int32} {x4 : Int32} {s0 : Int32} {s1 : Int32} (h : wp_X4_addPair_119  post σ x3 x4 s0 s1) : AW G MX4_addPair d 0 0 10 (aw_pv (wX4 G) post) 119 [(0, .ref 0), (3, .int x3), (4, .int x4)] [.int s0, .int s1, .ref 5] (wX4 G σ) := by
  unfold wp_X4_addPair_119 at h
  refine aw_iast 5 (n := σ.1.1.1) (f := σ.2.1.1) (w' := fun y12 => (wX4 G (σ.1, ((y12, σ.2.1.2), σ.2.2)))) rfl h.1 (fun _ => rfl) dX4_addPair_119 (fun y12 ey12 => ?_)
  have h := h.2 y12 ey12
  refine aw_aload_n 0 dX4_addPair_120 rfl rfl ?_
  refine aw_getf (v := .ref 9) fX4_39 0 rfl rfl dX4_addPair_121 ?_
  refine aw_iload_n 1 dX4_addPair_124 rfl rfl ?_
  refine aw_aload_n 0 dX4_addPair_125 rfl rfl ?_
  refine aw_getf (v := .ref 9) fX4_39 0 rfl rfl dX4_addPair_126 ?_
  refine aw_iload 2 dX4_addPair_129 rfl ?_
  refine aw_zald 9 (n := σ.1.1.1) (f := σ.2.2.2.1) rfl h.1 dX4_addPair_131 ?_
  have h := h.2
  refine aw_if_ne 146 dX4_addPair_132 (by decide) (fun c16 => ?_) (fun c16 => ?_)
  · have h := h.1 c16
    refine aw_lvsub (lv' := []) [] rfl ?_
    exact aw_X4_addPair_146 hd  h
  · have h := h.2 c16
    refine aw_aload_n 0 dX4_addPair_135 rfl rfl ?_
    refine aw_getf (v := .ref 9) fX4_39 0 rfl rfl dX4_addPair_136 ?_
    refine aw_iload_n 1 dX4_addPair_139 rfl rfl ?_
    refine aw_iconst (v := (1 : Int32)) dX4_addPair_140 (by decide) ?_
    refine aw_isub dX4_addPair_141 ?_
    refine aw_zald 9 (n := σ.1.1.1) (f := σ.2.2.2.1) rfl h.1 dX4_addPair_142 ?_
    have h := h.2
    refine aw_if_eq 150 dX4_addPair_143 (by decide) (fun c15 => ?_) (fun c15 => ?_)
    · have h := h.1 c15
      refine aw_iconst (v := (0 : Int32)) dX4_addPair_150 (by decide) ?_
      refine aw_zast 9 (n := σ.1.1.1) (f := σ.2.2.2.1) (w' := fun y14 => (wX4 G (σ.1, ((y12, σ.2.1.2), (σ.2.2.1, (y14, σ.2.2.2.2)))))) rfl h.1 (fun _ => rfl) dX4_addPair_151 (fun y14 ey14 => ?_)
      have h := h.2 y14 ey14
      exact aw_vret rfl dX4_addPair_152 ⟨(σ.1, ((y12, σ.2.1.2), (σ.2.2.1, (y14, σ.2.2.2.2)))), rfl, rfl, h⟩
    · have h := h.2 c15
      refine aw_lvsub (lv' := []) [] rfl ?_
      exact aw_X4_addPair_146 hd  h
def wp_X4_addPair (σ : WSX4) (a1 : Int32) (a2 : Int32) (post : WSX4 → Prop) : Prop :=
  wp_X4_add σ a1 a2 ((-1) : Int32) (fun r1 τ2 => wp_X4_left τ2 r1 (fun r3 τ4 => wp_X4_has τ4 r1 (fun r5 τ6 => ((r5 = 0 → post τ6) ∧ (¬ r5 = 0 → wp_X4_has τ6 (r1 - (1 : Int32)) (fun r7 τ8 => ((r7 = 0 → post τ8) ∧ (¬ r7 = 0 → wp_X4_has τ8 r3 (fun r9 τ10 => ((r9 = 0 → post τ10) ∧ (¬ r9 = 0 → (vp_in (r1 - (1 : Int32)) τ10.1.1.1 ∧ (vp_in r3 τ10.1.1.1 ∧ (vp_in r1 τ10.1.1.1 ∧ ∀ y11 : Nat → Int32, y11 = upd τ10.1.2.2.2 (r1).toNatClampNeg (((τ10.1.2.2.2 ((r1 - (1 : Int32))).toNatClampNeg) + (τ10.1.2.2.2 (r3).toNatClampNeg)) + (1 : Int32)) → (vp_in r3 τ10.1.1.1 ∧ (vp_in (r1 - (1 : Int32)) τ10.1.1.1 ∧ ((¬ (τ10.2.1.1 (r3).toNatClampNeg) = (τ10.2.1.1 ((r1 - (1 : Int32))).toNatClampNeg) → (vp_in r3 τ10.1.1.1 ∧ (vp_in (r1 - (1 : Int32)) τ10.1.1.1 ∧ wp_X4_addPair_119  post ((τ10.1.1, (τ10.1.2.1, (τ10.1.2.2.1, y11))), τ10.2) r1 r3 (if (τ10.2.1.1 (r3).toNatClampNeg) < (τ10.2.1.1 ((r1 - (1 : Int32))).toNatClampNeg) then (τ10.2.1.1 ((r1 - (1 : Int32))).toNatClampNeg) else (τ10.2.1.1 (r3).toNatClampNeg)) r1))) ∧ ((τ10.2.1.1 (r3).toNatClampNeg) = (τ10.2.1.1 ((r1 - (1 : Int32))).toNatClampNeg) → (vp_in r3 τ10.1.1.1 ∧ wp_X4_addPair_119  post ((τ10.1.1, (τ10.1.2.1, (τ10.1.2.2.1, y11))), τ10.2) r1 r3 ((τ10.2.1.1 (r3).toNatClampNeg) + (1 : Int32)) r1)))))))))))))))))))
theorem kX4_addPair {G : aw_G} {d : Nat} (hd : 2 ≤ d) {σ : WSX4} {a1 : Int32} {a2 : Int32} {post : WSX4 → Prop} (h : wp_X4_addPair σ a1 a2 post) : AC G MX4_addPair d 0 0 10 [.ref 0, .int a1, .int a2] (wX4 G σ) (aw_pv (wX4 G) post) := by
  refine AC.of (lv := [(0, .ref 0), (1, .int a1), (2, .int a2)]) (by decide) (Nat.le_of_ble_eq_true rfl) rfl ?_
  unfold wp_X4_addPair at h
  refine aw_aload_n 0 dX4_addPair_0 rfl rfl ?_
  refine aw_iload_n 1 dX4_addPair_1 rfl rfl ?_
  refine aw_iload_n 2 dX4_addPair_2 rfl rfl ?_
  refine aw_iconst (v := ((-1) : Int32)) dX4_addPair_3 (by decide) ?_
  refine aw_callVT (mc1 := 0) (ms1 := 0) (mc := 0) (ms := 0) (st := []) (q := 0) (As := [.int a1, .int a2, .int ((-1) : Int32)]) lX4_46 insX4_add selX4_add ⟨TX4, 10, rfl⟩ (by omega) (kX4_add (d := 0) (by omega) h) (Nat.le_of_ble_eq_true rfl) rfl rfl rfl dX4_addPair_4 rfl (fun _ _ hh => ?_)
  obtain ⟨r1, τ2, rfl, rfl, h⟩ := hh
  refine aw_stk (st' := [.int r1]) rfl ?_
  refine aw_istore_n (lv' := [(3, .int r1), (0, .ref 0), (1, .int a1), (2, .int a2)]) dX4_addPair_7 rfl (by decide) rfl ?_
  refine aw_aload_n 1 dX4_addPair_8 rfl rfl ?_
  refine aw_iload_n 0 dX4_addPair_9 rfl rfl ?_
  refine aw_callVT (mc1 := 0) (ms1 := 0) (mc := 0) (ms := 0) (st := []) (q := 0) (As := [.int r1]) lX4_54 insX4_left selX4_left ⟨TX4, 10, rfl⟩ (by omega) (kX4_left (d := 1) (by omega) h) (Nat.le_of_ble_eq_true rfl) rfl rfl rfl dX4_addPair_10 rfl (fun _ _ hh => ?_)
  obtain ⟨r3, τ4, rfl, rfl, h⟩ := hh
  refine aw_stk (st' := [.int r3]) rfl ?_
  refine aw_istore (lv' := [(4, .int r3), (3, .int r1), (0, .ref 0), (1, .int a1), (2, .int a2)]) dX4_addPair_13 (by decide) rfl ?_
  refine aw_aload_n 2 dX4_addPair_15 rfl rfl ?_
  refine aw_iload_n 1 dX4_addPair_16 rfl rfl ?_
  refine aw_callVT (mc1 := 0) (ms1 := 0) (mc := 0) (ms := 0) (st := []) (q := 0) (As := [.int r1]) lX4_50 insX4_has selX4_has ⟨TX4, 10, rfl⟩ (by omega) (kX4_has (d := 0) (by omega) h) (Nat.le_of_ble_eq_true rfl) rfl rfl rfl dX4_addPair_17 rfl (fun _ _ hh => ?_)
  obtain ⟨r5, τ6, rfl, rfl, h⟩ := hh
  refine aw_stk (st' := [.int r5]) rfl ?_
  refine aw_if_eq 152 dX4_addPair_20 (by decide) (fun c20 => ?_) (fun c20 => ?_)
  · have h := h.1 c20
    exact aw_vret rfl dX4_addPair_152 ⟨τ6, rfl, rfl, h⟩
  · have h := h.2 c20
    refine aw_aload_n 2 dX4_addPair_23 rfl rfl ?_
    refine aw_iload_n 1 dX4_addPair_24 rfl rfl ?_
    refine aw_iconst (v := (1 : Int32)) dX4_addPair_25 (by decide) ?_
    refine aw_isub dX4_addPair_26 ?_
    refine aw_callVT (mc1 := 0) (ms1 := 0) (mc := 0) (ms := 0) (st := []) (q := 0) (As := [.int (r1 - (1 : Int32))]) lX4_50 insX4_has selX4_has ⟨TX4, 10, rfl⟩ (by omega) (kX4_has (d := 0) (by omega) h) (Nat.le_of_ble_eq_true rfl) rfl rfl rfl dX4_addPair_27 rfl (fun _ _ hh => ?_)
    obtain ⟨r7, τ8, rfl, rfl, h⟩ := hh
    refine aw_stk (st' := [.int r7]) rfl ?_
    refine aw_if_eq 152 dX4_addPair_30 (by decide) (fun c19 => ?_) (fun c19 => ?_)
    · have h := h.1 c19
      exact aw_vret rfl dX4_addPair_152 ⟨τ8, rfl, rfl, h⟩
    · have h := h.2 c19
      refine aw_aload_n 2 dX4_addPair_33 rfl rfl ?_
      refine aw_iload 0 dX4_addPair_34 rfl ?_
      refine aw_callVT (mc1 := 0) (ms1 := 0) (mc := 0) (ms := 0) (st := []) (q := 0) (As := [.int r3]) lX4_50 insX4_has selX4_has ⟨TX4, 10, rfl⟩ (by omega) (kX4_has (d := 0) (by omega) h) (Nat.le_of_ble_eq_true rfl) rfl rfl rfl dX4_addPair_36 rfl (fun _ _ hh => ?_)
      obtain ⟨r9, τ10, rfl, rfl, h⟩ := hh
      refine aw_stk (st' := [.int r9]) rfl ?_
      refine aw_if_eq 152 dX4_addPair_39 (by decide) (fun c18 => ?_) (fun c18 => ?_)
      · have h := h.1 c18
        exact aw_vret rfl dX4_addPair_152 ⟨τ10, rfl, rfl, h⟩
      · have h := h.2 c18
        refine aw_aload_n 2 dX4_addPair_42 rfl rfl ?_
        refine aw_getf (v := .ref 4) fX4_23 0 rfl rfl dX4_addPair_43 ?_
        refine aw_iload_n 1 dX4_addPair_46 rfl rfl ?_
        refine aw_aload_n 2 dX4_addPair_47 rfl rfl ?_
        refine aw_getf (v := .ref 4) fX4_23 0 rfl rfl dX4_addPair_48 ?_
        refine aw_iload_n 1 dX4_addPair_51 rfl rfl ?_
        refine aw_iconst (v := (1 : Int32)) dX4_addPair_52 (by decide) ?_
        refine aw_isub dX4_addPair_53 ?_
        refine aw_iald 4 (n := τ10.1.1.1) (f := τ10.1.2.2.2) rfl h.1 dX4_addPair_54 ?_
        have h := h.2
        refine aw_aload_n 2 dX4_addPair_55 rfl rfl ?_
        refine aw_getf (v := .ref 4) fX4_23 0 rfl rfl dX4_addPair_56 ?_
        refine aw_iload 0 dX4_addPair_59 rfl ?_
        refine aw_iald 4 (n := τ10.1.1.1) (f := τ10.1.2.2.2) rfl h.1 dX4_addPair_61 ?_
        have h := h.2
        refine aw_iadd dX4_addPair_62 ?_
        refine aw_iconst (v := (1 : Int32)) dX4_addPair_63 (by decide) ?_
        refine aw_iadd dX4_addPair_64 ?_
        refine aw_iast 4 (n := τ10.1.1.1) (f := τ10.1.2.2.2) (w' := fun y11 => (wX4 G ((τ10.1.1, (τ10.1.2.1, (τ10.1.2.2.1, y11))), τ10.2))) rfl h.1 (fun _ => rfl) dX4_addPair_65 (fun y11 ey11 => ?_)
        have h := h.2 y11 ey11
        refine aw_aload_n 2 dX4_addPair_66 rfl rfl ?_
        refine aw_getf (v := .ref 5) fX4_26 0 rfl rfl dX4_addPair_67 ?_
        refine aw_iload_n 1 dX4_addPair_70 rfl rfl ?_
        refine aw_aload_n 2 dX4_addPair_71 rfl rfl ?_
        refine aw_getf (v := .ref 5) fX4_26 0 rfl rfl dX4_addPair_72 ?_
        refine aw_iload 0 dX4_addPair_75 rfl ?_
        refine aw_iald 5 (n := τ10.1.1.1) (f := τ10.2.1.1) rfl h.1 dX4_addPair_77 ?_
        have h := h.2
        refine aw_aload_n 2 dX4_addPair_78 rfl rfl ?_
        refine aw_getf (v := .ref 5) fX4_26 0 rfl rfl dX4_addPair_79 ?_
        refine aw_iload_n 1 dX4_addPair_82 rfl rfl ?_
        refine aw_iconst (v := (1 : Int32)) dX4_addPair_83 (by decide) ?_
        refine aw_isub dX4_addPair_84 ?_
        refine aw_iald 5 (n := τ10.1.1.1) (f := τ10.2.1.1) rfl h.1 dX4_addPair_85 ?_
        have h := h.2
        refine aw_icmp_ne 101 dX4_addPair_86 (by decide) (fun c17 => ?_) (fun c17 => ?_)
        · have h := h.1 c17
          refine aw_aload_n 2 dX4_addPair_101 rfl rfl ?_
          refine aw_getf (v := .ref 5) fX4_26 0 rfl rfl dX4_addPair_102 ?_
          refine aw_iload 0 dX4_addPair_105 rfl ?_
          refine aw_iald 5 (n := τ10.1.1.1) (f := τ10.2.1.1) rfl h.1 dX4_addPair_107 ?_
          have h := h.2
          refine aw_aload_n 2 dX4_addPair_108 rfl rfl ?_
          refine aw_getf (v := .ref 5) fX4_26 0 rfl rfl dX4_addPair_109 ?_
          refine aw_iload_n 1 dX4_addPair_112 rfl rfl ?_
          refine aw_iconst (v := (1 : Int32)) dX4_addPair_113 (by decide) ?_
          refine aw_isub dX4_addPair_114 ?_
          refine aw_iald 5 (n := τ10.1.1.1) (f := τ10.2.1.1) rfl h.1 dX4_addPair_115 ?_
          have h := h.2
          refine aw_mmax qX4_58 mathS_max iniJ9 mathK_max (by omega) (Nat.le_of_ble_eq_true rfl) dX4_addPair_116 ?_
          refine aw_lvsub (lv' := [(0, .ref 0), (3, .int r1), (4, .int r3)]) [2, 1, 0] rfl ?_
          exact aw_X4_addPair_119 hd  h
        · have h := h.2 c17
          refine aw_aload_n 2 dX4_addPair_89 rfl rfl ?_
          refine aw_getf (v := .ref 5) fX4_26 0 rfl rfl dX4_addPair_90 ?_
          refine aw_iload 0 dX4_addPair_93 rfl ?_
          refine aw_iald 5 (n := τ10.1.1.1) (f := τ10.2.1.1) rfl h.1 dX4_addPair_95 ?_
          have h := h.2
          refine aw_iconst (v := (1 : Int32)) dX4_addPair_96 (by decide) ?_
          refine aw_iadd dX4_addPair_97 ?_
          refine aw_goto 119 dX4_addPair_98 (by decide) ?_
          refine aw_lvsub (lv' := [(0, .ref 0), (3, .int r1), (4, .int r3)]) [2, 1, 0] rfl ?_
          exact aw_X4_addPair_119 hd  h
def wp_X4_kind (σ : WSX4) (a1 : Int32) (post : Int32 → WSX4 → Prop) : Prop :=
  wp_X4_has σ a1 (fun r1 τ2 => ((r1 = 0 → post (30 : Int32) τ2) ∧ (¬ r1 = 0 → (vp_in a1 τ2.1.1.1 ∧ post (τ2.1.1.2 (a1).toNatClampNeg) τ2))))
theorem kX4_kind {G : aw_G} {d : Nat} (hd : 1 ≤ d) {σ : WSX4} {a1 : Int32} {post : Int32 → WSX4 → Prop} (h : wp_X4_kind σ a1 post) : AC G MX4_kind d 0 0 10 [.ref 0, .int a1] (wX4 G σ) (aw_pi (wX4 G) post) := by
  refine AC.of (lv := [(0, .ref 0), (1, .int a1)]) (by decide) (Nat.le_of_ble_eq_true rfl) rfl ?_
  unfold wp_X4_kind at h
  refine aw_aload_n 0 dX4_kind_0 rfl rfl ?_
  refine aw_iload_n 1 dX4_kind_1 rfl rfl ?_
  refine aw_callVT (mc1 := 0) (ms1 := 0) (mc := 0) (ms := 0) (st := []) (q := 0) (As := [.int a1]) lX4_50 insX4_has selX4_has ⟨TX4, 10, rfl⟩ (by omega) (kX4_has (d := 0) (by omega) h) (Nat.le_of_ble_eq_true rfl) rfl rfl rfl dX4_kind_2 rfl (fun _ _ hh => ?_)
  obtain ⟨r1, τ2, rfl, rfl, h⟩ := hh
  refine aw_stk (st' := [.int r1]) rfl ?_
  refine aw_if_eq 17 dX4_kind_5 (by decide) (fun c3 => ?_) (fun c3 => ?_)
  · have h := h.1 c3
    refine aw_bipush (v := (30 : Int32)) dX4_kind_17 (by decide) ?_
    exact aw_iret rfl dX4_kind_19 ⟨_, τ2, rfl, rfl, h⟩
  · have h := h.2 c3
    refine aw_aload_n 0 dX4_kind_8 rfl rfl ?_
    refine aw_getf (v := .ref 1) fX4_11 0 rfl rfl dX4_kind_9 ?_
    refine aw_iload_n 1 dX4_kind_12 rfl rfl ?_
    refine aw_iald 1 (n := τ2.1.1.1) (f := τ2.1.1.2) rfl h.1 dX4_kind_13 ?_
    have h := h.2
    refine aw_goto 19 dX4_kind_14 (by decide) ?_
    exact aw_iret rfl dX4_kind_19 ⟨_, τ2, rfl, rfl, h⟩
def wp_X4_turnInto (σ : WSX4) (a1 : Int32) (a2 : Int32) (post : WSX4 → Prop) : Prop :=
  wp_X4_has σ a1 (fun r1 τ2 => ((r1 = 0 → post τ2) ∧ (¬ r1 = 0 → (vp_in a1 τ2.1.1.1 ∧ ∀ y3 : Nat → Int32, y3 = upd τ2.1.1.2 (a1).toNatClampNeg a2 → post (((τ2.1.1.1, y3), τ2.1.2), τ2.2)))))
theorem kX4_turnInto {G : aw_G} {d : Nat} (hd : 1 ≤ d) {σ : WSX4} {a1 : Int32} {a2 : Int32} {post : WSX4 → Prop} (h : wp_X4_turnInto σ a1 a2 post) : AC G MX4_turnInto d 0 0 10 [.ref 0, .int a1, .int a2] (wX4 G σ) (aw_pv (wX4 G) post) := by
  refine AC.of (lv := [(0, .ref 0), (1, .int a1), (2, .int a2)]) (by decide) (Nat.le_of_ble_eq_true rfl) rfl ?_
  unfold wp_X4_turnInto at h
  refine aw_aload_n 0 dX4_turnInto_0 rfl rfl ?_
  refine aw_iload_n 1 dX4_turnInto_1 rfl rfl ?_
  refine aw_callVT (mc1 := 0) (ms1 := 0) (mc := 0) (ms := 0) (st := []) (q := 0) (As := [.int a1]) lX4_50 insX4_has selX4_has ⟨TX4, 10, rfl⟩ (by omega) (kX4_has (d := 0) (by omega) h) (Nat.le_of_ble_eq_true rfl) rfl rfl rfl dX4_turnInto_2 rfl (fun _ _ hh => ?_)
  obtain ⟨r1, τ2, rfl, rfl, h⟩ := hh
  refine aw_stk (st' := [.int r1]) rfl ?_
  refine aw_if_eq 15 dX4_turnInto_5 (by decide) (fun c4 => ?_) (fun c4 => ?_)
  · have h := h.1 c4
    exact aw_vret rfl dX4_turnInto_15 ⟨τ2, rfl, rfl, h⟩
  · have h := h.2 c4
    refine aw_aload_n 0 dX4_turnInto_8 rfl rfl ?_
    refine aw_getf (v := .ref 1) fX4_11 0 rfl rfl dX4_turnInto_9 ?_
    refine aw_iload_n 1 dX4_turnInto_12 rfl rfl ?_
    refine aw_iload_n 2 dX4_turnInto_13 rfl rfl ?_
    refine aw_iast 1 (n := τ2.1.1.1) (f := τ2.1.1.2) (w' := fun y3 => (wX4 G (((τ2.1.1.1, y3), τ2.1.2), τ2.2))) rfl h.1 (fun _ => rfl) dX4_turnInto_14 (fun y3 ey3 => ?_)
    have h := h.2 y3 ey3
    exact aw_vret rfl dX4_turnInto_15 ⟨(((τ2.1.1.1, y3), τ2.1.2), τ2.2), rfl, rfl, h⟩
def wp_X4_place (σ : WSX4) (a1 : Int32) (post : Int32 → WSX4 → Prop) : Prop :=
  wp_X4_has σ a1 (fun r1 τ2 => ((r1 = 0 → post ((-1) : Int32) τ2) ∧ (¬ r1 = 0 → (vp_in a1 τ2.1.1.1 ∧ post (τ2.1.2.1 (a1).toNatClampNeg) τ2))))
theorem kX4_place {G : aw_G} {d : Nat} (hd : 1 ≤ d) {σ : WSX4} {a1 : Int32} {post : Int32 → WSX4 → Prop} (h : wp_X4_place σ a1 post) : AC G MX4_place d 0 0 10 [.ref 0, .int a1] (wX4 G σ) (aw_pi (wX4 G) post) := by
  refine AC.of (lv := [(0, .ref 0), (1, .int a1)]) (by decide) (Nat.le_of_ble_eq_true rfl) rfl ?_
  unfold wp_X4_place at h
  refine aw_aload_n 0 dX4_place_0 rfl rfl ?_
  refine aw_iload_n 1 dX4_place_1 rfl rfl ?_
  refine aw_callVT (mc1 := 0) (ms1 := 0) (mc := 0) (ms := 0) (st := []) (q := 0) (As := [.int a1]) lX4_50 insX4_has selX4_has ⟨TX4, 10, rfl⟩ (by omega) (kX4_has (d := 0) (by omega) h) (Nat.le_of_ble_eq_true rfl) rfl rfl rfl dX4_place_2 rfl (fun _ _ hh => ?_)
  obtain ⟨r1, τ2, rfl, rfl, h⟩ := hh
  refine aw_stk (st' := [.int r1]) rfl ?_
  refine aw_if_eq 17 dX4_place_5 (by decide) (fun c3 => ?_) (fun c3 => ?_)
  · have h := h.1 c3
    refine aw_iconst (v := ((-1) : Int32)) dX4_place_17 (by decide) ?_
    exact aw_iret rfl dX4_place_18 ⟨_, τ2, rfl, rfl, h⟩
  · have h := h.2 c3
    refine aw_aload_n 0 dX4_place_8 rfl rfl ?_
    refine aw_getf (v := .ref 2) fX4_17 0 rfl rfl dX4_place_9 ?_
    refine aw_iload_n 1 dX4_place_12 rfl rfl ?_
    refine aw_iald 2 (n := τ2.1.1.1) (f := τ2.1.2.1) rfl h.1 dX4_place_13 ?_
    have h := h.2
    refine aw_goto 18 dX4_place_14 (by decide) ?_
    exact aw_iret rfl dX4_place_18 ⟨_, τ2, rfl, rfl, h⟩
def wp_X4_value (σ : WSX4) (a1 : Int32) (post : Int32 → WSX4 → Prop) : Prop :=
  wp_X4_has σ a1 (fun r1 τ2 => ((r1 = 0 → post ((-1) : Int32) τ2) ∧ (¬ r1 = 0 → (vp_in a1 τ2.1.1.1 ∧ post (τ2.1.2.2.1 (a1).toNatClampNeg) τ2))))
theorem kX4_value {G : aw_G} {d : Nat} (hd : 1 ≤ d) {σ : WSX4} {a1 : Int32} {post : Int32 → WSX4 → Prop} (h : wp_X4_value σ a1 post) : AC G MX4_value d 0 0 10 [.ref 0, .int a1] (wX4 G σ) (aw_pi (wX4 G) post) := by
  refine AC.of (lv := [(0, .ref 0), (1, .int a1)]) (by decide) (Nat.le_of_ble_eq_true rfl) rfl ?_
  unfold wp_X4_value at h
  refine aw_aload_n 0 dX4_value_0 rfl rfl ?_
  refine aw_iload_n 1 dX4_value_1 rfl rfl ?_
  refine aw_callVT (mc1 := 0) (ms1 := 0) (mc := 0) (ms := 0) (st := []) (q := 0) (As := [.int a1]) lX4_50 insX4_has selX4_has ⟨TX4, 10, rfl⟩ (by omega) (kX4_has (d := 0) (by omega) h) (Nat.le_of_ble_eq_true rfl) rfl rfl rfl dX4_value_2 rfl (fun _ _ hh => ?_)
  obtain ⟨r1, τ2, rfl, rfl, h⟩ := hh
  refine aw_stk (st' := [.int r1]) rfl ?_
  refine aw_if_eq 17 dX4_value_5 (by decide) (fun c3 => ?_) (fun c3 => ?_)
  · have h := h.1 c3
    refine aw_iconst (v := ((-1) : Int32)) dX4_value_17 (by decide) ?_
    exact aw_iret rfl dX4_value_18 ⟨_, τ2, rfl, rfl, h⟩
  · have h := h.2 c3
    refine aw_aload_n 0 dX4_value_8 rfl rfl ?_
    refine aw_getf (v := .ref 3) fX4_20 0 rfl rfl dX4_value_9 ?_
    refine aw_iload_n 1 dX4_value_12 rfl rfl ?_
    refine aw_iald 3 (n := τ2.1.1.1) (f := τ2.1.2.2.1) rfl h.1 dX4_value_13 ?_
    have h := h.2
    refine aw_goto 18 dX4_value_14 (by decide) ?_
    exact aw_iret rfl dX4_value_18 ⟨_, τ2, rfl, rfl, h⟩
def wp_X4_keepValue (σ : WSX4) (a1 : Int32) (a2 : Int32) (post : WSX4 → Prop) : Prop :=
  wp_X4_has σ a1 (fun r1 τ2 => ((r1 = 0 → post τ2) ∧ (¬ r1 = 0 → (vp_in a1 τ2.1.1.1 ∧ ∀ y3 : Nat → Int32, y3 = upd τ2.1.2.2.1 (a1).toNatClampNeg a2 → post ((τ2.1.1, (τ2.1.2.1, (y3, τ2.1.2.2.2))), τ2.2)))))
theorem kX4_keepValue {G : aw_G} {d : Nat} (hd : 1 ≤ d) {σ : WSX4} {a1 : Int32} {a2 : Int32} {post : WSX4 → Prop} (h : wp_X4_keepValue σ a1 a2 post) : AC G MX4_keepValue d 0 0 10 [.ref 0, .int a1, .int a2] (wX4 G σ) (aw_pv (wX4 G) post) := by
  refine AC.of (lv := [(0, .ref 0), (1, .int a1), (2, .int a2)]) (by decide) (Nat.le_of_ble_eq_true rfl) rfl ?_
  unfold wp_X4_keepValue at h
  refine aw_aload_n 0 dX4_keepValue_0 rfl rfl ?_
  refine aw_iload_n 1 dX4_keepValue_1 rfl rfl ?_
  refine aw_callVT (mc1 := 0) (ms1 := 0) (mc := 0) (ms := 0) (st := []) (q := 0) (As := [.int a1]) lX4_50 insX4_has selX4_has ⟨TX4, 10, rfl⟩ (by omega) (kX4_has (d := 0) (by omega) h) (Nat.le_of_ble_eq_true rfl) rfl rfl rfl dX4_keepValue_2 rfl (fun _ _ hh => ?_)
  obtain ⟨r1, τ2, rfl, rfl, h⟩ := hh
  refine aw_stk (st' := [.int r1]) rfl ?_
  refine aw_if_eq 15 dX4_keepValue_5 (by decide) (fun c4 => ?_) (fun c4 => ?_)
  · have h := h.1 c4
    exact aw_vret rfl dX4_keepValue_15 ⟨τ2, rfl, rfl, h⟩
  · have h := h.2 c4
    refine aw_aload_n 0 dX4_keepValue_8 rfl rfl ?_
    refine aw_getf (v := .ref 3) fX4_20 0 rfl rfl dX4_keepValue_9 ?_
    refine aw_iload_n 1 dX4_keepValue_12 rfl rfl ?_
    refine aw_iload_n 2 dX4_keepValue_13 rfl rfl ?_
    refine aw_iast 3 (n := τ2.1.1.1) (f := τ2.1.2.2.1) (w' := fun y3 => (wX4 G ((τ2.1.1, (τ2.1.2.1, (y3, τ2.1.2.2.2))), τ2.2))) rfl h.1 (fun _ => rfl) dX4_keepValue_14 (fun y3 ey3 => ?_)
    have h := h.2 y3 ey3
    exact aw_vret rfl dX4_keepValue_15 ⟨((τ2.1.1, (τ2.1.2.1, (y3, τ2.1.2.2.2))), τ2.2), rfl, rfl, h⟩
def wp_X4_need (σ : WSX4) (a1 : Int32) (post : Int32 → WSX4 → Prop) : Prop :=
  wp_X4_has σ a1 (fun r1 τ2 => ((r1 = 0 → post (0 : Int32) τ2) ∧ (¬ r1 = 0 → (vp_in a1 τ2.1.1.1 ∧ post (τ2.2.1.1 (a1).toNatClampNeg) τ2))))
theorem kX4_need {G : aw_G} {d : Nat} (hd : 1 ≤ d) {σ : WSX4} {a1 : Int32} {post : Int32 → WSX4 → Prop} (h : wp_X4_need σ a1 post) : AC G MX4_need d 0 0 10 [.ref 0, .int a1] (wX4 G σ) (aw_pi (wX4 G) post) := by
  refine AC.of (lv := [(0, .ref 0), (1, .int a1)]) (by decide) (Nat.le_of_ble_eq_true rfl) rfl ?_
  unfold wp_X4_need at h
  refine aw_aload_n 0 dX4_need_0 rfl rfl ?_
  refine aw_iload_n 1 dX4_need_1 rfl rfl ?_
  refine aw_callVT (mc1 := 0) (ms1 := 0) (mc := 0) (ms := 0) (st := []) (q := 0) (As := [.int a1]) lX4_50 insX4_has selX4_has ⟨TX4, 10, rfl⟩ (by omega) (kX4_has (d := 0) (by omega) h) (Nat.le_of_ble_eq_true rfl) rfl rfl rfl dX4_need_2 rfl (fun _ _ hh => ?_)
  obtain ⟨r1, τ2, rfl, rfl, h⟩ := hh
  refine aw_stk (st' := [.int r1]) rfl ?_
  refine aw_if_eq 17 dX4_need_5 (by decide) (fun c3 => ?_) (fun c3 => ?_)
  · have h := h.1 c3
    refine aw_iconst (v := (0 : Int32)) dX4_need_17 (by decide) ?_
    exact aw_iret rfl dX4_need_18 ⟨_, τ2, rfl, rfl, h⟩
  · have h := h.2 c3
    refine aw_aload_n 0 dX4_need_8 rfl rfl ?_
    refine aw_getf (v := .ref 5) fX4_26 0 rfl rfl dX4_need_9 ?_
    refine aw_iload_n 1 dX4_need_12 rfl rfl ?_
    refine aw_iald 5 (n := τ2.1.1.1) (f := τ2.2.1.1) rfl h.1 dX4_need_13 ?_
    have h := h.2
    refine aw_goto 18 dX4_need_14 (by decide) ?_
    exact aw_iret rfl dX4_need_18 ⟨_, τ2, rfl, rfl, h⟩
def wp_X4_calls (σ : WSX4) (a1 : Int32) (post : Int32 → WSX4 → Prop) : Prop :=
  wp_X4_has σ a1 (fun r1 τ2 => ((r1 = 0 → post (0 : Int32) τ2) ∧ (¬ r1 = 0 → (vp_in a1 τ2.1.1.1 ∧ (((τ2.2.2.2.1 (a1).toNatClampNeg) = 0 → post (0 : Int32) τ2) ∧ (¬ (τ2.2.2.2.1 (a1).toNatClampNeg) = 0 → post (1 : Int32) τ2))))))
theorem kX4_calls {G : aw_G} {d : Nat} (hd : 1 ≤ d) {σ : WSX4} {a1 : Int32} {post : Int32 → WSX4 → Prop} (h : wp_X4_calls σ a1 post) : AC G MX4_calls d 0 0 10 [.ref 0, .int a1] (wX4 G σ) (aw_pi (wX4 G) post) := by
  refine AC.of (lv := [(0, .ref 0), (1, .int a1)]) (by decide) (Nat.le_of_ble_eq_true rfl) rfl ?_
  unfold wp_X4_calls at h
  refine aw_aload_n 0 dX4_calls_0 rfl rfl ?_
  refine aw_iload_n 1 dX4_calls_1 rfl rfl ?_
  refine aw_callVT (mc1 := 0) (ms1 := 0) (mc := 0) (ms := 0) (st := []) (q := 0) (As := [.int a1]) lX4_50 insX4_has selX4_has ⟨TX4, 10, rfl⟩ (by omega) (kX4_has (d := 0) (by omega) h) (Nat.le_of_ble_eq_true rfl) rfl rfl rfl dX4_calls_2 rfl (fun _ _ hh => ?_)
  obtain ⟨r1, τ2, rfl, rfl, h⟩ := hh
  refine aw_stk (st' := [.int r1]) rfl ?_
  refine aw_if_eq 21 dX4_calls_5 (by decide) (fun c4 => ?_) (fun c4 => ?_)
  · have h := h.1 c4
    refine aw_iconst (v := (0 : Int32)) dX4_calls_21 (by decide) ?_
    exact aw_zret rfl rfl dX4_calls_22 ⟨_, τ2, rfl, rfl, h⟩
  · have h := h.2 c4
    refine aw_aload_n 0 dX4_calls_8 rfl rfl ?_
    refine aw_getf (v := .ref 9) fX4_39 0 rfl rfl dX4_calls_9 ?_
    refine aw_iload_n 1 dX4_calls_12 rfl rfl ?_
    refine aw_zald 9 (n := τ2.1.1.1) (f := τ2.2.2.2.1) rfl h.1 dX4_calls_13 ?_
    have h := h.2
    refine aw_if_eq 21 dX4_calls_14 (by decide) (fun c3 => ?_) (fun c3 => ?_)
    · have h := h.1 c3
      refine aw_iconst (v := (0 : Int32)) dX4_calls_21 (by decide) ?_
      exact aw_zret rfl rfl dX4_calls_22 ⟨_, τ2, rfl, rfl, h⟩
    · have h := h.2 c3
      refine aw_iconst (v := (1 : Int32)) dX4_calls_17 (by decide) ?_
      refine aw_goto 22 dX4_calls_18 (by decide) ?_
      exact aw_zret rfl rfl dX4_calls_22 ⟨_, τ2, rfl, rfl, h⟩
def wp_X4_secret (σ : WSX4) (a1 : Int32) (post : Int32 → WSX4 → Prop) : Prop :=
  wp_X4_has σ a1 (fun r1 τ2 => ((r1 = 0 → post (0 : Int32) τ2) ∧ (¬ r1 = 0 → (vp_in a1 τ2.1.1.1 ∧ (((τ2.2.2.1 (a1).toNatClampNeg) = 0 → post (0 : Int32) τ2) ∧ (¬ (τ2.2.2.1 (a1).toNatClampNeg) = 0 → post (1 : Int32) τ2))))))
theorem kX4_secret {G : aw_G} {d : Nat} (hd : 1 ≤ d) {σ : WSX4} {a1 : Int32} {post : Int32 → WSX4 → Prop} (h : wp_X4_secret σ a1 post) : AC G MX4_secret d 0 0 10 [.ref 0, .int a1] (wX4 G σ) (aw_pi (wX4 G) post) := by
  refine AC.of (lv := [(0, .ref 0), (1, .int a1)]) (by decide) (Nat.le_of_ble_eq_true rfl) rfl ?_
  unfold wp_X4_secret at h
  refine aw_aload_n 0 dX4_secret_0 rfl rfl ?_
  refine aw_iload_n 1 dX4_secret_1 rfl rfl ?_
  refine aw_callVT (mc1 := 0) (ms1 := 0) (mc := 0) (ms := 0) (st := []) (q := 0) (As := [.int a1]) lX4_50 insX4_has selX4_has ⟨TX4, 10, rfl⟩ (by omega) (kX4_has (d := 0) (by omega) h) (Nat.le_of_ble_eq_true rfl) rfl rfl rfl dX4_secret_2 rfl (fun _ _ hh => ?_)
  obtain ⟨r1, τ2, rfl, rfl, h⟩ := hh
  refine aw_stk (st' := [.int r1]) rfl ?_
  refine aw_if_eq 21 dX4_secret_5 (by decide) (fun c4 => ?_) (fun c4 => ?_)
  · have h := h.1 c4
    refine aw_iconst (v := (0 : Int32)) dX4_secret_21 (by decide) ?_
    exact aw_zret rfl rfl dX4_secret_22 ⟨_, τ2, rfl, rfl, h⟩
  · have h := h.2 c4
    refine aw_aload_n 0 dX4_secret_8 rfl rfl ?_
    refine aw_getf (v := .ref 8) fX4_35 0 rfl rfl dX4_secret_9 ?_
    refine aw_iload_n 1 dX4_secret_12 rfl rfl ?_
    refine aw_zald 8 (n := τ2.1.1.1) (f := τ2.2.2.1) rfl h.1 dX4_secret_13 ?_
    have h := h.2
    refine aw_if_eq 21 dX4_secret_14 (by decide) (fun c3 => ?_) (fun c3 => ?_)
    · have h := h.1 c3
      refine aw_iconst (v := (0 : Int32)) dX4_secret_21 (by decide) ?_
      exact aw_zret rfl rfl dX4_secret_22 ⟨_, τ2, rfl, rfl, h⟩
    · have h := h.2 c3
      refine aw_iconst (v := (1 : Int32)) dX4_secret_17 (by decide) ?_
      refine aw_goto 22 dX4_secret_18 (by decide) ?_
      exact aw_zret rfl rfl dX4_secret_22 ⟨_, τ2, rfl, rfl, h⟩
def wp_X4_keepSecret (σ : WSX4) (a1 : Int32) (a2 : Int32) (post : WSX4 → Prop) : Prop :=
  wp_X4_has σ a1 (fun r1 τ2 => ((r1 = 0 → post τ2) ∧ (¬ r1 = 0 → (vp_in a1 τ2.1.1.1 ∧ ∀ y3 : Nat → Int32, y3 = upd τ2.2.2.1 (a1).toNatClampNeg (vp_nar .boolean a2) → post (τ2.1, (τ2.2.1, (y3, τ2.2.2.2)))))))
theorem kX4_keepSecret {G : aw_G} {d : Nat} (hd : 1 ≤ d) {σ : WSX4} {a1 : Int32} {a2 : Int32} {post : WSX4 → Prop} (h : wp_X4_keepSecret σ a1 a2 post) : AC G MX4_keepSecret d 0 0 10 [.ref 0, .int a1, .int a2] (wX4 G σ) (aw_pv (wX4 G) post) := by
  refine AC.of (lv := [(0, .ref 0), (1, .int a1), (2, .int a2)]) (by decide) (Nat.le_of_ble_eq_true rfl) rfl ?_
  unfold wp_X4_keepSecret at h
  refine aw_aload_n 0 dX4_keepSecret_0 rfl rfl ?_
  refine aw_iload_n 1 dX4_keepSecret_1 rfl rfl ?_
  refine aw_callVT (mc1 := 0) (ms1 := 0) (mc := 0) (ms := 0) (st := []) (q := 0) (As := [.int a1]) lX4_50 insX4_has selX4_has ⟨TX4, 10, rfl⟩ (by omega) (kX4_has (d := 0) (by omega) h) (Nat.le_of_ble_eq_true rfl) rfl rfl rfl dX4_keepSecret_2 rfl (fun _ _ hh => ?_)
  obtain ⟨r1, τ2, rfl, rfl, h⟩ := hh
  refine aw_stk (st' := [.int r1]) rfl ?_
  refine aw_if_eq 15 dX4_keepSecret_5 (by decide) (fun c4 => ?_) (fun c4 => ?_)
  · have h := h.1 c4
    exact aw_vret rfl dX4_keepSecret_15 ⟨τ2, rfl, rfl, h⟩
  · have h := h.2 c4
    refine aw_aload_n 0 dX4_keepSecret_8 rfl rfl ?_
    refine aw_getf (v := .ref 8) fX4_35 0 rfl rfl dX4_keepSecret_9 ?_
    refine aw_iload_n 1 dX4_keepSecret_12 rfl rfl ?_
    refine aw_iload_n 2 dX4_keepSecret_13 rfl rfl ?_
    refine aw_zast 8 (n := τ2.1.1.1) (f := τ2.2.2.1) (w' := fun y3 => (wX4 G (τ2.1, (τ2.2.1, (y3, τ2.2.2.2))))) rfl h.1 (fun _ => rfl) dX4_keepSecret_14 (fun y3 ey3 => ?_)
    have h := h.2 y3 ey3
    exact aw_vret rfl dX4_keepSecret_15 ⟨(τ2.1, (τ2.2.1, (y3, τ2.2.2.2))), rfl, rfl, h⟩
def wp_X4_tie (σ : WSX4) (a1 : Int32) (post : Int32 → WSX4 → Prop) : Prop :=
  wp_X4_has σ a1 (fun r1 τ2 => ((r1 = 0 → post ((-1) : Int32) τ2) ∧ (¬ r1 = 0 → (vp_in a1 τ2.1.1.1 ∧ post (τ2.2.1.2.1 (a1).toNatClampNeg) τ2))))
theorem kX4_tie {G : aw_G} {d : Nat} (hd : 1 ≤ d) {σ : WSX4} {a1 : Int32} {post : Int32 → WSX4 → Prop} (h : wp_X4_tie σ a1 post) : AC G MX4_tie d 0 0 10 [.ref 0, .int a1] (wX4 G σ) (aw_pi (wX4 G) post) := by
  refine AC.of (lv := [(0, .ref 0), (1, .int a1)]) (by decide) (Nat.le_of_ble_eq_true rfl) rfl ?_
  unfold wp_X4_tie at h
  refine aw_aload_n 0 dX4_tie_0 rfl rfl ?_
  refine aw_iload_n 1 dX4_tie_1 rfl rfl ?_
  refine aw_callVT (mc1 := 0) (ms1 := 0) (mc := 0) (ms := 0) (st := []) (q := 0) (As := [.int a1]) lX4_50 insX4_has selX4_has ⟨TX4, 10, rfl⟩ (by omega) (kX4_has (d := 0) (by omega) h) (Nat.le_of_ble_eq_true rfl) rfl rfl rfl dX4_tie_2 rfl (fun _ _ hh => ?_)
  obtain ⟨r1, τ2, rfl, rfl, h⟩ := hh
  refine aw_stk (st' := [.int r1]) rfl ?_
  refine aw_if_eq 17 dX4_tie_5 (by decide) (fun c3 => ?_) (fun c3 => ?_)
  · have h := h.1 c3
    refine aw_iconst (v := ((-1) : Int32)) dX4_tie_17 (by decide) ?_
    exact aw_iret rfl dX4_tie_18 ⟨_, τ2, rfl, rfl, h⟩
  · have h := h.2 c3
    refine aw_aload_n 0 dX4_tie_8 rfl rfl ?_
    refine aw_getf (v := .ref 6) fX4_29 0 rfl rfl dX4_tie_9 ?_
    refine aw_iload_n 1 dX4_tie_12 rfl rfl ?_
    refine aw_iald 6 (n := τ2.1.1.1) (f := τ2.2.1.2.1) rfl h.1 dX4_tie_13 ?_
    have h := h.2
    refine aw_goto 18 dX4_tie_14 (by decide) ?_
    exact aw_iret rfl dX4_tie_18 ⟨_, τ2, rfl, rfl, h⟩
def wp_X4_keepTie (σ : WSX4) (a1 : Int32) (a2 : Int32) (post : WSX4 → Prop) : Prop :=
  wp_X4_has σ a1 (fun r1 τ2 => ((r1 = 0 → post τ2) ∧ (¬ r1 = 0 → (vp_in a1 τ2.1.1.1 ∧ ∀ y3 : Nat → Int32, y3 = upd τ2.2.1.2.1 (a1).toNatClampNeg a2 → post (τ2.1, ((τ2.2.1.1, (y3, τ2.2.1.2.2)), τ2.2.2))))))
theorem kX4_keepTie {G : aw_G} {d : Nat} (hd : 1 ≤ d) {σ : WSX4} {a1 : Int32} {a2 : Int32} {post : WSX4 → Prop} (h : wp_X4_keepTie σ a1 a2 post) : AC G MX4_keepTie d 0 0 10 [.ref 0, .int a1, .int a2] (wX4 G σ) (aw_pv (wX4 G) post) := by
  refine AC.of (lv := [(0, .ref 0), (1, .int a1), (2, .int a2)]) (by decide) (Nat.le_of_ble_eq_true rfl) rfl ?_
  unfold wp_X4_keepTie at h
  refine aw_aload_n 0 dX4_keepTie_0 rfl rfl ?_
  refine aw_iload_n 1 dX4_keepTie_1 rfl rfl ?_
  refine aw_callVT (mc1 := 0) (ms1 := 0) (mc := 0) (ms := 0) (st := []) (q := 0) (As := [.int a1]) lX4_50 insX4_has selX4_has ⟨TX4, 10, rfl⟩ (by omega) (kX4_has (d := 0) (by omega) h) (Nat.le_of_ble_eq_true rfl) rfl rfl rfl dX4_keepTie_2 rfl (fun _ _ hh => ?_)
  obtain ⟨r1, τ2, rfl, rfl, h⟩ := hh
  refine aw_stk (st' := [.int r1]) rfl ?_
  refine aw_if_eq 15 dX4_keepTie_5 (by decide) (fun c4 => ?_) (fun c4 => ?_)
  · have h := h.1 c4
    exact aw_vret rfl dX4_keepTie_15 ⟨τ2, rfl, rfl, h⟩
  · have h := h.2 c4
    refine aw_aload_n 0 dX4_keepTie_8 rfl rfl ?_
    refine aw_getf (v := .ref 6) fX4_29 0 rfl rfl dX4_keepTie_9 ?_
    refine aw_iload_n 1 dX4_keepTie_12 rfl rfl ?_
    refine aw_iload_n 2 dX4_keepTie_13 rfl rfl ?_
    refine aw_iast 6 (n := τ2.1.1.1) (f := τ2.2.1.2.1) (w' := fun y3 => (wX4 G (τ2.1, ((τ2.2.1.1, (y3, τ2.2.1.2.2)), τ2.2.2)))) rfl h.1 (fun _ => rfl) dX4_keepTie_14 (fun y3 ey3 => ?_)
    have h := h.2 y3 ey3
    exact aw_vret rfl dX4_keepTie_15 ⟨(τ2.1, ((τ2.2.1.1, (y3, τ2.2.1.2.2)), τ2.2.2)), rfl, rfl, h⟩
def wp_X4_back (σ : WSX4) (a1 : Int32) (post : Int32 → WSX4 → Prop) : Prop :=
  wp_X4_has σ a1 (fun r1 τ2 => ((r1 = 0 → post ((-1) : Int32) τ2) ∧ (¬ r1 = 0 → (vp_in a1 τ2.1.1.1 ∧ post (τ2.2.1.2.2 (a1).toNatClampNeg) τ2))))
theorem kX4_back {G : aw_G} {d : Nat} (hd : 1 ≤ d) {σ : WSX4} {a1 : Int32} {post : Int32 → WSX4 → Prop} (h : wp_X4_back σ a1 post) : AC G MX4_back d 0 0 10 [.ref 0, .int a1] (wX4 G σ) (aw_pi (wX4 G) post) := by
  refine AC.of (lv := [(0, .ref 0), (1, .int a1)]) (by decide) (Nat.le_of_ble_eq_true rfl) rfl ?_
  unfold wp_X4_back at h
  refine aw_aload_n 0 dX4_back_0 rfl rfl ?_
  refine aw_iload_n 1 dX4_back_1 rfl rfl ?_
  refine aw_callVT (mc1 := 0) (ms1 := 0) (mc := 0) (ms := 0) (st := []) (q := 0) (As := [.int a1]) lX4_50 insX4_has selX4_has ⟨TX4, 10, rfl⟩ (by omega) (kX4_has (d := 0) (by omega) h) (Nat.le_of_ble_eq_true rfl) rfl rfl rfl dX4_back_2 rfl (fun _ _ hh => ?_)
  obtain ⟨r1, τ2, rfl, rfl, h⟩ := hh
  refine aw_stk (st' := [.int r1]) rfl ?_
  refine aw_if_eq 17 dX4_back_5 (by decide) (fun c3 => ?_) (fun c3 => ?_)
  · have h := h.1 c3
    refine aw_iconst (v := ((-1) : Int32)) dX4_back_17 (by decide) ?_
    exact aw_iret rfl dX4_back_18 ⟨_, τ2, rfl, rfl, h⟩
  · have h := h.2 c3
    refine aw_aload_n 0 dX4_back_8 rfl rfl ?_
    refine aw_getf (v := .ref 7) fX4_32 0 rfl rfl dX4_back_9 ?_
    refine aw_iload_n 1 dX4_back_12 rfl rfl ?_
    refine aw_iald 7 (n := τ2.1.1.1) (f := τ2.2.1.2.2) rfl h.1 dX4_back_13 ?_
    have h := h.2
    refine aw_goto 18 dX4_back_14 (by decide) ?_
    exact aw_iret rfl dX4_back_18 ⟨_, τ2, rfl, rfl, h⟩
def wp_X4_keepBack (σ : WSX4) (a1 : Int32) (a2 : Int32) (post : WSX4 → Prop) : Prop :=
  wp_X4_has σ a1 (fun r1 τ2 => ((r1 = 0 → post τ2) ∧ (¬ r1 = 0 → (vp_in a1 τ2.1.1.1 ∧ ∀ y3 : Nat → Int32, y3 = upd τ2.2.1.2.2 (a1).toNatClampNeg a2 → post (τ2.1, ((τ2.2.1.1, (τ2.2.1.2.1, y3)), τ2.2.2))))))
theorem kX4_keepBack {G : aw_G} {d : Nat} (hd : 1 ≤ d) {σ : WSX4} {a1 : Int32} {a2 : Int32} {post : WSX4 → Prop} (h : wp_X4_keepBack σ a1 a2 post) : AC G MX4_keepBack d 0 0 10 [.ref 0, .int a1, .int a2] (wX4 G σ) (aw_pv (wX4 G) post) := by
  refine AC.of (lv := [(0, .ref 0), (1, .int a1), (2, .int a2)]) (by decide) (Nat.le_of_ble_eq_true rfl) rfl ?_
  unfold wp_X4_keepBack at h
  refine aw_aload_n 0 dX4_keepBack_0 rfl rfl ?_
  refine aw_iload_n 1 dX4_keepBack_1 rfl rfl ?_
  refine aw_callVT (mc1 := 0) (ms1 := 0) (mc := 0) (ms := 0) (st := []) (q := 0) (As := [.int a1]) lX4_50 insX4_has selX4_has ⟨TX4, 10, rfl⟩ (by omega) (kX4_has (d := 0) (by omega) h) (Nat.le_of_ble_eq_true rfl) rfl rfl rfl dX4_keepBack_2 rfl (fun _ _ hh => ?_)
  obtain ⟨r1, τ2, rfl, rfl, h⟩ := hh
  refine aw_stk (st' := [.int r1]) rfl ?_
  refine aw_if_eq 15 dX4_keepBack_5 (by decide) (fun c4 => ?_) (fun c4 => ?_)
  · have h := h.1 c4
    exact aw_vret rfl dX4_keepBack_15 ⟨τ2, rfl, rfl, h⟩
  · have h := h.2 c4
    refine aw_aload_n 0 dX4_keepBack_8 rfl rfl ?_
    refine aw_getf (v := .ref 7) fX4_32 0 rfl rfl dX4_keepBack_9 ?_
    refine aw_iload_n 1 dX4_keepBack_12 rfl rfl ?_
    refine aw_iload_n 2 dX4_keepBack_13 rfl rfl ?_
    refine aw_iast 7 (n := τ2.1.1.1) (f := τ2.2.1.2.2) (w' := fun y3 => (wX4 G (τ2.1, ((τ2.2.1.1, (τ2.2.1.2.1, y3)), τ2.2.2)))) rfl h.1 (fun _ => rfl) dX4_keepBack_14 (fun y3 ey3 => ?_)
    have h := h.2 y3 ey3
    exact aw_vret rfl dX4_keepBack_15 ⟨(τ2.1, ((τ2.2.1.1, (τ2.2.1.2.1, y3)), τ2.2.2)), rfl, rfl, h⟩
def wb_X4_placeOfBack_2  (post : Int32 → WSX4 → Prop) (rec_2 : WSX4 × Int32 × Int32 → Prop) (σ : WSX4) (x1 : Int32) (x2 : Int32) : Prop :=
  ((σ.2.2.2.2 ≤ x2 → post ((-1) : Int32) σ) ∧ (¬ σ.2.2.2.2 ≤ x2 → (((nI σ.1.1.1) ≤ x2 → post ((-1) : Int32) σ) ∧ (¬ (nI σ.1.1.1) ≤ x2 → (vp_in x2 σ.1.1.1 ∧ ((¬ (σ.2.1.2.2 (x2).toNatClampNeg) = x1 → rec_2 (σ, x1, (x2 + 1))) ∧ ((σ.2.1.2.2 (x2).toNatClampNeg) = x1 → wp_X4_place σ x2 (fun r1 τ2 => post r1 τ2))))))))
def wp_X4_placeOfBack_2  (post : Int32 → WSX4 → Prop) (n : Nat) (σ : WSX4) (x1 : Int32) (x2 : Int32) : Prop := aw_loop (fun r (a : WSX4 × Int32 × Int32) => wb_X4_placeOfBack_2  post r a.1 a.2.1 a.2.2) n (σ, x1, x2)
theorem aw_X4_placeOfBack_2 {G : aw_G} {d : Nat} (hd : 2 ≤ d) {post : Int32 → WSX4 → Prop}  : ∀ (n : Nat) (σ : WSX4) (x1 : Int32) (x2 : Int32), wp_X4_placeOfBack_2  post n σ x1 x2 → AW G MX4_placeOfBack d 0 0 10 (aw_pi (wX4 G) post) 2 [(0, .ref 0), (1, .int x1), (2, .int x2)] [] (wX4 G σ) := by
  intro n
  induction n with
  | zero => intro σ x1 x2 h; exact h.elim
  | succ n ih =>
    intro σ x1 x2 h
    have hrec_2 : ∀ a : WSX4 × Int32 × Int32, aw_loop (fun r (a : WSX4 × Int32 × Int32) => wb_X4_placeOfBack_2  post r a.1 a.2.1 a.2.2) n a → AW G MX4_placeOfBack d 0 0 10 (aw_pi (wX4 G) post) 2 [(0, .ref 0), (1, .int a.2.1), (2, .int a.2.2)] [] (wX4 G a.1) := fun a h => ih a.1 a.2.1 a.2.2 h
    have h : wb_X4_placeOfBack_2  post (aw_loop (fun r (a : WSX4 × Int32 × Int32) => wb_X4_placeOfBack_2  post r a.1 a.2.1 a.2.2) n) σ x1 x2 := h
    unfold wb_X4_placeOfBack_2 at h
    refine aw_iload_n 2 dX4_placeOfBack_2 rfl rfl ?_
    refine aw_aload_n 0 dX4_placeOfBack_3 rfl rfl ?_
    refine aw_getf (v := .int σ.2.2.2.2) fX4_42 0 rfl rfl dX4_placeOfBack_4 ?_
    refine aw_icmp_ge 41 dX4_placeOfBack_7 (by decide) (fun c5 => ?_) (fun c5 => ?_)
    · have h := h.1 c5
      refine aw_iconst (v := ((-1) : Int32)) dX4_placeOfBack_41 (by decide) ?_
      exact aw_iret rfl dX4_placeOfBack_42 ⟨_, σ, rfl, rfl, h⟩
    · have h := h.2 c5
      refine aw_iload_n 2 dX4_placeOfBack_10 rfl rfl ?_
      refine aw_aload_n 0 dX4_placeOfBack_11 rfl rfl ?_
      refine aw_getf (v := .ref 7) fX4_32 0 rfl rfl dX4_placeOfBack_12 ?_
      refine aw_alen 7 0 (v := (nI σ.1.1.1)) rfl rfl rfl dX4_placeOfBack_15 ?_
      refine aw_icmp_ge 41 dX4_placeOfBack_16 (by decide) (fun c4 => ?_) (fun c4 => ?_)
      · have h := h.1 c4
        refine aw_iconst (v := ((-1) : Int32)) dX4_placeOfBack_41 (by decide) ?_
        exact aw_iret rfl dX4_placeOfBack_42 ⟨_, σ, rfl, rfl, h⟩
      · have h := h.2 c4
        refine aw_aload_n 0 dX4_placeOfBack_19 rfl rfl ?_
        refine aw_getf (v := .ref 7) fX4_32 0 rfl rfl dX4_placeOfBack_20 ?_
        refine aw_iload_n 2 dX4_placeOfBack_23 rfl rfl ?_
        refine aw_iald 7 (n := σ.1.1.1) (f := σ.2.1.2.2) rfl h.1 dX4_placeOfBack_24 ?_
        have h := h.2
        refine aw_iload_n 1 dX4_placeOfBack_25 rfl rfl ?_
        refine aw_icmp_ne 35 dX4_placeOfBack_26 (by decide) (fun c3 => ?_) (fun c3 => ?_)
        · have h := h.1 c3
          refine aw_iinc 2 (v := (x2 + 1)) (lv' := [(2, .int (x2 + 1)), (0, .ref 0), (1, .int x1)]) dX4_placeOfBack_35 rfl rfl (by decide) rfl ?_
          refine aw_goto 2 dX4_placeOfBack_38 (by decide) ?_
          refine aw_lvsub (lv' := [(0, .ref 0), (1, .int x1), (2, .int (x2 + 1))]) [1, 2, 0] rfl ?_
          exact hrec_2 (σ, x1, (x2 + 1)) h
        · have h := h.2 c3
          refine aw_aload_n 0 dX4_placeOfBack_29 rfl rfl ?_
          refine aw_iload_n 2 dX4_placeOfBack_30 rfl rfl ?_
          refine aw_callVT (mc1 := 0) (ms1 := 0) (mc := 0) (ms := 0) (st := []) (q := 0) (As := [.int x2]) lX4_64 insX4_place selX4_place ⟨TX4, 10, rfl⟩ (by omega) (kX4_place (d := 1) (by omega) h) (Nat.le_of_ble_eq_true rfl) rfl rfl rfl dX4_placeOfBack_31 rfl (fun _ _ hh => ?_)
          obtain ⟨r1, τ2, rfl, rfl, h⟩ := hh
          refine aw_stk (st' := [.int r1]) rfl ?_
          exact aw_iret rfl dX4_placeOfBack_34 ⟨_, τ2, rfl, rfl, h⟩
def wp_X4_placeOfBack (σ : WSX4) (a1 : Int32) (post : Int32 → WSX4 → Prop) : Prop :=
  (∃ n6, wp_X4_placeOfBack_2  post n6 σ a1 (0 : Int32))
theorem kX4_placeOfBack {G : aw_G} {d : Nat} (hd : 2 ≤ d) {σ : WSX4} {a1 : Int32} {post : Int32 → WSX4 → Prop} (h : wp_X4_placeOfBack σ a1 post) : AC G MX4_placeOfBack d 0 0 10 [.ref 0, .int a1] (wX4 G σ) (aw_pi (wX4 G) post) := by
  refine AC.of (lv := [(0, .ref 0), (1, .int a1)]) (by decide) (Nat.le_of_ble_eq_true rfl) rfl ?_
  unfold wp_X4_placeOfBack at h
  refine aw_iconst (v := (0 : Int32)) dX4_placeOfBack_0 (by decide) ?_
  refine aw_istore_n (lv' := [(2, .int (0 : Int32)), (0, .ref 0), (1, .int a1)]) dX4_placeOfBack_1 rfl (by decide) rfl ?_
  refine aw_lvsub (lv' := [(0, .ref 0), (1, .int a1), (2, .int (0 : Int32))]) [1, 2, 0] rfl ?_
  obtain ⟨n6, h⟩ := h
  exact aw_X4_placeOfBack_2 hd  n6 σ a1 (0 : Int32) h
def wp_X4_level (a0 : Int32) (post : Int32 → Unit → Prop) : Prop :=
  ((a0 = (37 : Int32) → post (6 : Int32) ()) ∧ (¬ a0 = (37 : Int32) → ((a0 = (38 : Int32) → post (2 : Int32) ()) ∧ (¬ a0 = (38 : Int32) → ((a0 = (42 : Int32) → post (6 : Int32) ()) ∧ (¬ a0 = (42 : Int32) → ((a0 = (43 : Int32) → post (5 : Int32) ()) ∧ (¬ a0 = (43 : Int32) → ((a0 = (45 : Int32) → post (5 : Int32) ()) ∧ (¬ a0 = (45 : Int32) → ((a0 = (47 : Int32) → post (6 : Int32) ()) ∧ (¬ a0 = (47 : Int32) → ((a0 = (60 : Int32) → post (3 : Int32) ()) ∧ (¬ a0 = (60 : Int32) → ((a0 = (94 : Int32) → post (1 : Int32) ()) ∧ (¬ a0 = (94 : Int32) → ((a0 = (124 : Int32) → post (0 : Int32) ()) ∧ (¬ a0 = (124 : Int32) → ((a0 = (128 : Int32) → post (3 : Int32) ()) ∧ (¬ a0 = (128 : Int32) → ((a0 = (129 : Int32) → post (3 : Int32) ()) ∧ (¬ a0 = (129 : Int32) → ((a0 = (130 : Int32) → post (4 : Int32) ()) ∧ (¬ a0 = (130 : Int32) → ((a0 = (131 : Int32) → post (4 : Int32) ()) ∧ (¬ a0 = (131 : Int32) → post ((-1) : Int32) ()))))))))))))))))))))))))))
theorem kX4_level {G : aw_G} {d : Nat} (hd : 0 ≤ d) {a0 : Int32} {post : Int32 → Unit → Prop} (h : wp_X4_level a0 post) : AC G MX4_level d 0 0 0 [.int a0] [] (aw_pi (fun _ : Unit => []) post) := by
  refine AC.of (lv := [(0, .int a0)]) (by decide) (Nat.le_of_ble_eq_true rfl) rfl ?_
  unfold wp_X4_level at h
  refine aw_iload_n 0 dX4_level_0 rfl rfl ?_
  by_cases c1 : a0 = (37 : Int32)
  · refine aw_lookup 128 (off := 127) dX4_level_1 (by decide) (aw_swh (a := 37) c1 rfl) (by decide) ?_
    have h := h.1 c1
    refine aw_bipush (v := (6 : Int32)) dX4_level_128 (by decide) ?_
    exact aw_iret rfl dX4_level_130 ⟨_, (), rfl, rfl, h⟩
  have h := h.2 c1
  by_cases c2 : a0 = (38 : Int32)
  · refine aw_lookup 120 (off := 119) dX4_level_1 (by decide) ((lv_osw (a := 37) c1 rfl).trans (aw_swh (a := 38) c2 rfl)) (by decide) ?_
    have h := h.1 c2
    refine aw_iconst (v := (2 : Int32)) dX4_level_120 (by decide) ?_
    exact aw_iret rfl dX4_level_121 ⟨_, (), rfl, rfl, h⟩
  have h := h.2 c2
  by_cases c3 : a0 = (42 : Int32)
  · refine aw_lookup 128 (off := 127) dX4_level_1 (by decide) ((lv_osw (a := 37) c1 rfl).trans ((lv_osw (a := 38) c2 rfl).trans (aw_swh (a := 42) c3 rfl))) (by decide) ?_
    have h := h.1 c3
    refine aw_bipush (v := (6 : Int32)) dX4_level_128 (by decide) ?_
    exact aw_iret rfl dX4_level_130 ⟨_, (), rfl, rfl, h⟩
  have h := h.2 c3
  by_cases c4 : a0 = (43 : Int32)
  · refine aw_lookup 126 (off := 125) dX4_level_1 (by decide) ((lv_osw (a := 37) c1 rfl).trans ((lv_osw (a := 38) c2 rfl).trans ((lv_osw (a := 42) c3 rfl).trans (aw_swh (a := 43) c4 rfl)))) (by decide) ?_
    have h := h.1 c4
    refine aw_iconst (v := (5 : Int32)) dX4_level_126 (by decide) ?_
    exact aw_iret rfl dX4_level_127 ⟨_, (), rfl, rfl, h⟩
  have h := h.2 c4
  by_cases c5 : a0 = (45 : Int32)
  · refine aw_lookup 126 (off := 125) dX4_level_1 (by decide) ((lv_osw (a := 37) c1 rfl).trans ((lv_osw (a := 38) c2 rfl).trans ((lv_osw (a := 42) c3 rfl).trans ((lv_osw (a := 43) c4 rfl).trans (aw_swh (a := 45) c5 rfl))))) (by decide) ?_
    have h := h.1 c5
    refine aw_iconst (v := (5 : Int32)) dX4_level_126 (by decide) ?_
    exact aw_iret rfl dX4_level_127 ⟨_, (), rfl, rfl, h⟩
  have h := h.2 c5
  by_cases c6 : a0 = (47 : Int32)
  · refine aw_lookup 128 (off := 127) dX4_level_1 (by decide) ((lv_osw (a := 37) c1 rfl).trans ((lv_osw (a := 38) c2 rfl).trans ((lv_osw (a := 42) c3 rfl).trans ((lv_osw (a := 43) c4 rfl).trans ((lv_osw (a := 45) c5 rfl).trans (aw_swh (a := 47) c6 rfl)))))) (by decide) ?_
    have h := h.1 c6
    refine aw_bipush (v := (6 : Int32)) dX4_level_128 (by decide) ?_
    exact aw_iret rfl dX4_level_130 ⟨_, (), rfl, rfl, h⟩
  have h := h.2 c6
  by_cases c7 : a0 = (60 : Int32)
  · refine aw_lookup 122 (off := 121) dX4_level_1 (by decide) ((lv_osw (a := 37) c1 rfl).trans ((lv_osw (a := 38) c2 rfl).trans ((lv_osw (a := 42) c3 rfl).trans ((lv_osw (a := 43) c4 rfl).trans ((lv_osw (a := 45) c5 rfl).trans ((lv_osw (a := 47) c6 rfl).trans (aw_swh (a := 60) c7 rfl))))))) (by decide) ?_
    have h := h.1 c7
    refine aw_iconst (v := (3 : Int32)) dX4_level_122 (by decide) ?_
    exact aw_iret rfl dX4_level_123 ⟨_, (), rfl, rfl, h⟩
  have h := h.2 c7
  by_cases c8 : a0 = (94 : Int32)
  · refine aw_lookup 118 (off := 117) dX4_level_1 (by decide) ((lv_osw (a := 37) c1 rfl).trans ((lv_osw (a := 38) c2 rfl).trans ((lv_osw (a := 42) c3 rfl).trans ((lv_osw (a := 43) c4 rfl).trans ((lv_osw (a := 45) c5 rfl).trans ((lv_osw (a := 47) c6 rfl).trans ((lv_osw (a := 60) c7 rfl).trans (aw_swh (a := 94) c8 rfl)))))))) (by decide) ?_
    have h := h.1 c8
    refine aw_iconst (v := (1 : Int32)) dX4_level_118 (by decide) ?_
    exact aw_iret rfl dX4_level_119 ⟨_, (), rfl, rfl, h⟩
  have h := h.2 c8
  by_cases c9 : a0 = (124 : Int32)
  · refine aw_lookup 116 (off := 115) dX4_level_1 (by decide) ((lv_osw (a := 37) c1 rfl).trans ((lv_osw (a := 38) c2 rfl).trans ((lv_osw (a := 42) c3 rfl).trans ((lv_osw (a := 43) c4 rfl).trans ((lv_osw (a := 45) c5 rfl).trans ((lv_osw (a := 47) c6 rfl).trans ((lv_osw (a := 60) c7 rfl).trans ((lv_osw (a := 94) c8 rfl).trans (aw_swh (a := 124) c9 rfl))))))))) (by decide) ?_
    have h := h.1 c9
    refine aw_iconst (v := (0 : Int32)) dX4_level_116 (by decide) ?_
    exact aw_iret rfl dX4_level_117 ⟨_, (), rfl, rfl, h⟩
  have h := h.2 c9
  by_cases c10 : a0 = (128 : Int32)
  · refine aw_lookup 122 (off := 121) dX4_level_1 (by decide) ((lv_osw (a := 37) c1 rfl).trans ((lv_osw (a := 38) c2 rfl).trans ((lv_osw (a := 42) c3 rfl).trans ((lv_osw (a := 43) c4 rfl).trans ((lv_osw (a := 45) c5 rfl).trans ((lv_osw (a := 47) c6 rfl).trans ((lv_osw (a := 60) c7 rfl).trans ((lv_osw (a := 94) c8 rfl).trans ((lv_osw (a := 124) c9 rfl).trans (aw_swh (a := 128) c10 rfl)))))))))) (by decide) ?_
    have h := h.1 c10
    refine aw_iconst (v := (3 : Int32)) dX4_level_122 (by decide) ?_
    exact aw_iret rfl dX4_level_123 ⟨_, (), rfl, rfl, h⟩
  have h := h.2 c10
  by_cases c11 : a0 = (129 : Int32)
  · refine aw_lookup 122 (off := 121) dX4_level_1 (by decide) ((lv_osw (a := 37) c1 rfl).trans ((lv_osw (a := 38) c2 rfl).trans ((lv_osw (a := 42) c3 rfl).trans ((lv_osw (a := 43) c4 rfl).trans ((lv_osw (a := 45) c5 rfl).trans ((lv_osw (a := 47) c6 rfl).trans ((lv_osw (a := 60) c7 rfl).trans ((lv_osw (a := 94) c8 rfl).trans ((lv_osw (a := 124) c9 rfl).trans ((lv_osw (a := 128) c10 rfl).trans (aw_swh (a := 129) c11 rfl))))))))))) (by decide) ?_
    have h := h.1 c11
    refine aw_iconst (v := (3 : Int32)) dX4_level_122 (by decide) ?_
    exact aw_iret rfl dX4_level_123 ⟨_, (), rfl, rfl, h⟩
  have h := h.2 c11
  by_cases c12 : a0 = (130 : Int32)
  · refine aw_lookup 124 (off := 123) dX4_level_1 (by decide) ((lv_osw (a := 37) c1 rfl).trans ((lv_osw (a := 38) c2 rfl).trans ((lv_osw (a := 42) c3 rfl).trans ((lv_osw (a := 43) c4 rfl).trans ((lv_osw (a := 45) c5 rfl).trans ((lv_osw (a := 47) c6 rfl).trans ((lv_osw (a := 60) c7 rfl).trans ((lv_osw (a := 94) c8 rfl).trans ((lv_osw (a := 124) c9 rfl).trans ((lv_osw (a := 128) c10 rfl).trans ((lv_osw (a := 129) c11 rfl).trans (aw_swh (a := 130) c12 rfl)))))))))))) (by decide) ?_
    have h := h.1 c12
    refine aw_iconst (v := (4 : Int32)) dX4_level_124 (by decide) ?_
    exact aw_iret rfl dX4_level_125 ⟨_, (), rfl, rfl, h⟩
  have h := h.2 c12
  by_cases c13 : a0 = (131 : Int32)
  · refine aw_lookup 124 (off := 123) dX4_level_1 (by decide) ((lv_osw (a := 37) c1 rfl).trans ((lv_osw (a := 38) c2 rfl).trans ((lv_osw (a := 42) c3 rfl).trans ((lv_osw (a := 43) c4 rfl).trans ((lv_osw (a := 45) c5 rfl).trans ((lv_osw (a := 47) c6 rfl).trans ((lv_osw (a := 60) c7 rfl).trans ((lv_osw (a := 94) c8 rfl).trans ((lv_osw (a := 124) c9 rfl).trans ((lv_osw (a := 128) c10 rfl).trans ((lv_osw (a := 129) c11 rfl).trans ((lv_osw (a := 130) c12 rfl).trans (aw_swh (a := 131) c13 rfl))))))))))))) (by decide) ?_
    have h := h.1 c13
    refine aw_iconst (v := (4 : Int32)) dX4_level_124 (by decide) ?_
    exact aw_iret rfl dX4_level_125 ⟨_, (), rfl, rfl, h⟩
  have h := h.2 c13
  refine aw_lookup 131 (off := 130) dX4_level_1 (by decide) ((lv_osw (a := 37) c1 rfl).trans ((lv_osw (a := 38) c2 rfl).trans ((lv_osw (a := 42) c3 rfl).trans ((lv_osw (a := 43) c4 rfl).trans ((lv_osw (a := 45) c5 rfl).trans ((lv_osw (a := 47) c6 rfl).trans ((lv_osw (a := 60) c7 rfl).trans ((lv_osw (a := 94) c8 rfl).trans ((lv_osw (a := 124) c9 rfl).trans ((lv_osw (a := 128) c10 rfl).trans ((lv_osw (a := 129) c11 rfl).trans ((lv_osw (a := 130) c12 rfl).trans ((lv_osw (a := 131) c13 rfl).trans rfl))))))))))))) (by decide) ?_
  refine aw_iconst (v := ((-1) : Int32)) dX4_level_131 (by decide) ?_
  exact aw_iret rfl dX4_level_132 ⟨_, (), rfl, rfl, h⟩
end WalkX4
