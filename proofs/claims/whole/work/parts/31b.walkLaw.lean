section WalkLaw
def wp_L_law_585 (G : aw_G) (rec_18 : WSLW × Int32 × Nat × Nat → Prop) (post : Int32 → WSLW → Prop) (σ : WSLW) (x3 : Int32) (bm : Nat) (bs : Nat) : Prop :=
  rec_18 (σ, (x3 + 6), bm, bs)
theorem aw_L_law_585 {G : aw_G} {d : Nat} (hd : 806 ≤ d) {rec_18 : WSLW × Int32 × Nat × Nat → Prop} {post : Int32 → WSLW → Prop} (hrec_18 : ∀ a : WSLW × Int32 × Nat × Nat, rec_18 a → AW G ML_law d a.2.2.1 a.2.2.2 0 (fun v _ => v = some (.int 1)) 18 [(0, .retAddr 400), (1, .ref 0), (2, .ref 42), (3, .int a.2.1)] [] (wLW G a.1)) {σ : WSLW} {x3 : Int32} {bm : Nat} {bs : Nat} (h : wp_L_law_585 G rec_18 post σ x3 bm bs) : AW G ML_law d bm bs 0 (fun v _ => v = some (.int 1)) 585 [(0, .retAddr 400), (1, .ref 0), (2, .ref 42), (3, .int x3)] [] (wLW G σ) := by
  unfold wp_L_law_585 at h
  refine aw_iinc 3 (v := (x3 + 6)) (lv' := [(3, .int (x3 + 6)), (0, .retAddr 400), (1, .ref 0), (2, .ref 42)]) dL_law_585 rfl rfl (by decide) rfl ?_
  refine aw_goto 18 dL_law_588 (by decide) ?_
  refine aw_lvsub (lv' := [(0, .retAddr 400), (1, .ref 0), (2, .ref 42), (3, .int (x3 + 6))]) [1, 2, 3, 0] rfl ?_
  refine aw_bud (mc := bm) (ms := bs) (by omega) (by omega) ?_
  exact hrec_18 (σ, (x3 + 6), bm, bs) h
def wb_L_law_18 (G : aw_G)  (post : Int32 → WSLW → Prop) (rec_18 : WSLW × Int32 × Nat × Nat → Prop) (σ : WSLW) (x3 : Int32) (bm : Nat) (bs : Nat) : Prop :=
  ((((nI (aw_sL G)) - (6 : Int32)) < x3 → True) ∧ (¬ ((nI (aw_sL G)) - (6 : Int32)) < x3 → (vp_in x3 (aw_sL G) ∧ ((((aw_sx G (x3).toNatClampNeg) &&& (31 : Int32)) = (0 : Int32) → (vp_in (x3 + (1 : Int32)) (aw_sL G) ∧ (vp_in (x3 + (2 : Int32)) (aw_sL G) ∧ (vp_in (x3 + (3 : Int32)) (aw_sL G) ∧ (vp_in (x3 + (4 : Int32)) (aw_sL G) ∧ (vp_in (x3 + (5 : Int32)) (aw_sL G) ∧ wp_X11_feed σ.1 (aw_sx G ((x3 + (1 : Int32))).toNatClampNeg) (aw_sx G ((x3 + (2 : Int32))).toNatClampNeg) (aw_sx G ((x3 + (3 : Int32))).toNatClampNeg) (aw_sx G ((x3 + (4 : Int32))).toNatClampNeg) (aw_sx G ((x3 + (5 : Int32))).toNatClampNeg) (fun r2 τ3 => (vp_in (x3 + (1 : Int32)) (aw_sL G) ∧ (vp_in (x3 + (2 : Int32)) (aw_sL G) ∧ (vp_in (x3 + (3 : Int32)) (aw_sL G) ∧ (vp_in (x3 + (4 : Int32)) (aw_sL G) ∧ (vp_in (x3 + (5 : Int32)) (aw_sL G) ∧ wp_X12_feed σ.2 (aw_sx G ((x3 + (1 : Int32))).toNatClampNeg) (aw_sx G ((x3 + (2 : Int32))).toNatClampNeg) (aw_sx G ((x3 + (3 : Int32))).toNatClampNeg) (aw_sx G ((x3 + (4 : Int32))).toNatClampNeg) (aw_sx G ((x3 + (5 : Int32))).toNatClampNeg) (fun r4 τ5 => ((r2 = r4 → wp_L_law_585 G rec_18 post (τ3, τ5) x3 bm bs) ∧ (¬ r2 = r4 → False))))))))))))))) ∧ (¬ ((aw_sx G (x3).toNatClampNeg) &&& (31 : Int32)) = (0 : Int32) → ((((aw_sx G (x3).toNatClampNeg) &&& (31 : Int32)) = (1 : Int32) → (vp_in (x3 + (1 : Int32)) (aw_sL G) ∧ (12 ≤ bm ∧ ∃ y8 : Nat, y8 ≤ bs ∧ wp_X11_load y8 σ.1 (aw_sx G ((x3 + (1 : Int32))).toNatClampNeg) (fun r9 τ10 => (vp_in (x3 + (1 : Int32)) (aw_sL G) ∧ wp_X12_load σ.2 (aw_sx G ((x3 + (1 : Int32))).toNatClampNeg) (fun r11 τ12 => ((r9 = r11 → wp_L_law_585 G rec_18 post (τ10, τ12) x3 (bm - 12) (bs - y8)) ∧ (¬ r9 = r11 → False)))))))) ∧ (¬ ((aw_sx G (x3).toNatClampNeg) &&& (31 : Int32)) = (1 : Int32) → ((((aw_sx G (x3).toNatClampNeg) &&& (31 : Int32)) = (2 : Int32) → (vp_in (x3 + (1 : Int32)) (aw_sL G) ∧ wp_X11_told σ.1 (aw_sx G ((x3 + (1 : Int32))).toNatClampNeg) (fun r15 τ16 => (vp_in (x3 + (1 : Int32)) (aw_sL G) ∧ wp_X12_told σ.2 (aw_sx G ((x3 + (1 : Int32))).toNatClampNeg) (fun r17 τ18 => ((r15 = r17 → wp_L_law_585 G rec_18 post (τ16, τ18) x3 bm bs) ∧ (¬ r15 = r17 → False))))))) ∧ (¬ ((aw_sx G (x3).toNatClampNeg) &&& (31 : Int32)) = (2 : Int32) → ((((aw_sx G (x3).toNatClampNeg) &&& (31 : Int32)) = (3 : Int32) → (vp_in (x3 + (1 : Int32)) (aw_sL G) ∧ wp_X11_count σ.1 (aw_sx G ((x3 + (1 : Int32))).toNatClampNeg) (fun r21 τ22 => (vp_in (x3 + (1 : Int32)) (aw_sL G) ∧ wp_X12_count σ.2 (aw_sx G ((x3 + (1 : Int32))).toNatClampNeg) (fun r23 τ24 => ((r21 = r23 → wp_L_law_585 G rec_18 post (τ22, τ24) x3 bm bs) ∧ (¬ r21 = r23 → False))))))) ∧ (¬ ((aw_sx G (x3).toNatClampNeg) &&& (31 : Int32)) = (3 : Int32) → ((((aw_sx G (x3).toNatClampNeg) &&& (31 : Int32)) = (4 : Int32) → (vp_in (x3 + (1 : Int32)) (aw_sL G) ∧ (vp_in (x3 + (2 : Int32)) (aw_sL G) ∧ wp_X11_input σ.1 (aw_sx G ((x3 + (1 : Int32))).toNatClampNeg) (aw_sx G ((x3 + (2 : Int32))).toNatClampNeg) (fun r27 τ28 => (vp_in (x3 + (1 : Int32)) (aw_sL G) ∧ (vp_in (x3 + (2 : Int32)) (aw_sL G) ∧ wp_X12_input σ.2 (aw_sx G ((x3 + (1 : Int32))).toNatClampNeg) (aw_sx G ((x3 + (2 : Int32))).toNatClampNeg) (fun r29 τ30 => ((r27 = r29 → wp_L_law_585 G rec_18 post (τ28, τ30) x3 bm bs) ∧ (¬ r27 = r29 → False))))))))) ∧ (¬ ((aw_sx G (x3).toNatClampNeg) &&& (31 : Int32)) = (4 : Int32) → ((((aw_sx G (x3).toNatClampNeg) &&& (31 : Int32)) = (5 : Int32) → (vp_in (x3 + (1 : Int32)) (aw_sL G) ∧ wp_X11_run σ.1 (aw_sx G ((x3 + (1 : Int32))).toNatClampNeg) (fun r33 τ34 => (vp_in (x3 + (1 : Int32)) (aw_sL G) ∧ wp_X12_run σ.2 (aw_sx G ((x3 + (1 : Int32))).toNatClampNeg) (fun r35 τ36 => ((r33 = r35 → wp_L_law_585 G rec_18 post (τ34, τ36) x3 bm bs) ∧ (¬ r33 = r35 → False))))))) ∧ (¬ ((aw_sx G (x3).toNatClampNeg) &&& (31 : Int32)) = (5 : Int32) → ((((aw_sx G (x3).toNatClampNeg) &&& (31 : Int32)) = (6 : Int32) → (vp_in (x3 + (1 : Int32)) (aw_sL G) ∧ wp_X11_ran σ.1 (aw_sx G ((x3 + (1 : Int32))).toNatClampNeg) (fun r39 τ40 => (vp_in (x3 + (1 : Int32)) (aw_sL G) ∧ wp_X12_ran σ.2 (aw_sx G ((x3 + (1 : Int32))).toNatClampNeg) (fun r41 τ42 => ((r39 = r41 → wp_L_law_585 G rec_18 post (τ40, τ42) x3 bm bs) ∧ (¬ r39 = r41 → False))))))) ∧ (¬ ((aw_sx G (x3).toNatClampNeg) &&& (31 : Int32)) = (6 : Int32) → ((((aw_sx G (x3).toNatClampNeg) &&& (31 : Int32)) = (7 : Int32) → (vp_in (x3 + (1 : Int32)) (aw_sL G) ∧ wp_X11_out σ.1 (aw_sx G ((x3 + (1 : Int32))).toNatClampNeg) (fun r45 τ46 => (vp_in (x3 + (1 : Int32)) (aw_sL G) ∧ wp_X12_out σ.2 (aw_sx G ((x3 + (1 : Int32))).toNatClampNeg) (fun r47 τ48 => ((r45 = r47 → wp_L_law_585 G rec_18 post (τ46, τ48) x3 bm bs) ∧ (¬ r45 = r47 → False))))))) ∧ (¬ ((aw_sx G (x3).toNatClampNeg) &&& (31 : Int32)) = (7 : Int32) → ((((aw_sx G (x3).toNatClampNeg) &&& (31 : Int32)) = (8 : Int32) → (vp_in (x3 + (1 : Int32)) (aw_sL G) ∧ wp_X11_word σ.1 (aw_sx G ((x3 + (1 : Int32))).toNatClampNeg) (fun r51 τ52 => (vp_in (x3 + (1 : Int32)) (aw_sL G) ∧ wp_X12_word σ.2 (aw_sx G ((x3 + (1 : Int32))).toNatClampNeg) (fun r53 τ54 => ((r51 = r53 → wp_L_law_585 G rec_18 post (τ52, τ54) x3 bm bs) ∧ (¬ r51 = r53 → False))))))) ∧ (¬ ((aw_sx G (x3).toNatClampNeg) &&& (31 : Int32)) = (8 : Int32) → ((((aw_sx G (x3).toNatClampNeg) &&& (31 : Int32)) = (9 : Int32) → wp_X11_quiet σ.1  (fun r57 τ58 => wp_X12_quiet σ.2  (fun r59 τ60 => ((r57 = r59 → wp_L_law_585 G rec_18 post (τ58, τ60) x3 bm bs) ∧ (¬ r57 = r59 → False))))) ∧ (¬ ((aw_sx G (x3).toNatClampNeg) &&& (31 : Int32)) = (9 : Int32) → ((((aw_sx G (x3).toNatClampNeg) &&& (31 : Int32)) = (10 : Int32) → (vp_in (x3 + (1 : Int32)) (aw_sL G) ∧ (vp_in (x3 + (2 : Int32)) (aw_sL G) ∧ wp_X11_poke σ.1 (aw_sx G ((x3 + (1 : Int32))).toNatClampNeg) (aw_sx G ((x3 + (2 : Int32))).toNatClampNeg) (fun r63 τ64 => (vp_in (x3 + (1 : Int32)) (aw_sL G) ∧ (vp_in (x3 + (2 : Int32)) (aw_sL G) ∧ wp_X12_poke σ.2 (aw_sx G ((x3 + (1 : Int32))).toNatClampNeg) (aw_sx G ((x3 + (2 : Int32))).toNatClampNeg) (fun r65 τ66 => ((r63 = r65 → wp_L_law_585 G rec_18 post (τ64, τ66) x3 bm bs) ∧ (¬ r63 = r65 → False))))))))) ∧ (¬ ((aw_sx G (x3).toNatClampNeg) &&& (31 : Int32)) = (10 : Int32) → ((((aw_sx G (x3).toNatClampNeg) &&& (31 : Int32)) = (11 : Int32) → (vp_in (x3 + (1 : Int32)) (aw_sL G) ∧ wp_X11_peek σ.1 (aw_sx G ((x3 + (1 : Int32))).toNatClampNeg) (fun r69 τ70 => (vp_in (x3 + (1 : Int32)) (aw_sL G) ∧ wp_X12_peek σ.2 (aw_sx G ((x3 + (1 : Int32))).toNatClampNeg) (fun r71 τ72 => ((r69 = r71 → wp_L_law_585 G rec_18 post (τ70, τ72) x3 bm bs) ∧ (¬ r69 = r71 → False))))))) ∧ (¬ ((aw_sx G (x3).toNatClampNeg) &&& (31 : Int32)) = (11 : Int32) → ((((aw_sx G (x3).toNatClampNeg) &&& (31 : Int32)) = (12 : Int32) → (vp_in (x3 + (1 : Int32)) (aw_sL G) ∧ (vp_in (x3 + (2 : Int32)) (aw_sL G) ∧ wp_X11_set σ.1 (aw_sx G ((x3 + (1 : Int32))).toNatClampNeg) (aw_sx G ((x3 + (2 : Int32))).toNatClampNeg) (fun r75 τ76 => (vp_in (x3 + (1 : Int32)) (aw_sL G) ∧ (vp_in (x3 + (2 : Int32)) (aw_sL G) ∧ wp_X12_set σ.2 (aw_sx G ((x3 + (1 : Int32))).toNatClampNeg) (aw_sx G ((x3 + (2 : Int32))).toNatClampNeg) (fun r77 τ78 => ((r75 = r77 → wp_L_law_585 G rec_18 post (τ76, τ78) x3 bm bs) ∧ (¬ r75 = r77 → False))))))))) ∧ (¬ ((aw_sx G (x3).toNatClampNeg) &&& (31 : Int32)) = (12 : Int32) → ((((aw_sx G (x3).toNatClampNeg) &&& (31 : Int32)) = (13 : Int32) → (vp_in (x3 + (1 : Int32)) (aw_sL G) ∧ wp_X11_get σ.1 (aw_sx G ((x3 + (1 : Int32))).toNatClampNeg) (fun r81 τ82 => (vp_in (x3 + (1 : Int32)) (aw_sL G) ∧ wp_X12_get σ.2 (aw_sx G ((x3 + (1 : Int32))).toNatClampNeg) (fun r83 τ84 => ((r81 = r83 → wp_L_law_585 G rec_18 post (τ82, τ84) x3 bm bs) ∧ (¬ r81 = r83 → False))))))) ∧ (¬ ((aw_sx G (x3).toNatClampNeg) &&& (31 : Int32)) = (13 : Int32) → ((((aw_sx G (x3).toNatClampNeg) &&& (31 : Int32)) = (14 : Int32) → (vp_in (x3 + (1 : Int32)) (aw_sL G) ∧ wp_X11_start σ.1 (aw_sx G ((x3 + (1 : Int32))).toNatClampNeg) (fun r87 τ88 => (vp_in (x3 + (1 : Int32)) (aw_sL G) ∧ wp_X12_start σ.2 (aw_sx G ((x3 + (1 : Int32))).toNatClampNeg) (fun r89 τ90 => ((r87 = r89 → wp_L_law_585 G rec_18 post (τ88, τ90) x3 bm bs) ∧ (¬ r87 = r89 → False))))))) ∧ (¬ ((aw_sx G (x3).toNatClampNeg) &&& (31 : Int32)) = (14 : Int32) → ((((aw_sx G (x3).toNatClampNeg) &&& (31 : Int32)) = (15 : Int32) → (vp_in (x3 + (1 : Int32)) (aw_sL G) ∧ wp_X11_go σ.1 (aw_sx G ((x3 + (1 : Int32))).toNatClampNeg) (fun r93 τ94 => (vp_in (x3 + (1 : Int32)) (aw_sL G) ∧ wp_X12_go σ.2 (aw_sx G ((x3 + (1 : Int32))).toNatClampNeg) (fun r95 τ96 => ((r93 = r95 → wp_L_law_585 G rec_18 post (τ94, τ96) x3 bm bs) ∧ (¬ r93 = r95 → False))))))) ∧ (¬ ((aw_sx G (x3).toNatClampNeg) &&& (31 : Int32)) = (15 : Int32) → ((((aw_sx G (x3).toNatClampNeg) &&& (31 : Int32)) = (16 : Int32) → (vp_in (x3 + (1 : Int32)) (aw_sL G) ∧ wp_X11_state σ.1 (aw_sx G ((x3 + (1 : Int32))).toNatClampNeg) (fun r99 τ100 => (vp_in (x3 + (1 : Int32)) (aw_sL G) ∧ wp_X12_state σ.2 (aw_sx G ((x3 + (1 : Int32))).toNatClampNeg) (fun r101 τ102 => ((r99 = r101 → wp_L_law_585 G rec_18 post (τ100, τ102) x3 bm bs) ∧ (¬ r99 = r101 → False))))))) ∧ (¬ ((aw_sx G (x3).toNatClampNeg) &&& (31 : Int32)) = (16 : Int32) → ((((aw_sx G (x3).toNatClampNeg) &&& (31 : Int32)) = (17 : Int32) → wp_X11_trail σ.1  (fun r105 τ106 => wp_X12_trail σ.2  (fun r107 τ108 => (((lg_cmp r105 r107) = 0 → wp_L_law_585 G rec_18 post (τ106, τ108) x3 bm bs) ∧ (¬ (lg_cmp r105 r107) = 0 → False))))) ∧ (¬ ((aw_sx G (x3).toNatClampNeg) &&& (31 : Int32)) = (17 : Int32) → wp_L_law_585 G rec_18 post σ x3 bm bs)))))))))))))))))))))))))))))))))))))))
def wp_L_law_18 (G : aw_G)  (post : Int32 → WSLW → Prop) (n : Nat) (σ : WSLW) (x3 : Int32) (bm : Nat) (bs : Nat) : Prop := aw_loop (fun r (a : WSLW × Int32 × Nat × Nat) => wb_L_law_18 G  post r a.1 a.2.1 a.2.2.1 a.2.2.2) n (σ, x3, bm, bs)
theorem aw_L_law_18 {G : aw_G} {d : Nat} (hd : 806 ≤ d) {post : Int32 → WSLW → Prop}  : ∀ (n : Nat) (σ : WSLW) (x3 : Int32) (bm : Nat) (bs : Nat), wp_L_law_18 G  post n σ x3 bm bs → AW G ML_law d bm bs 0 (fun v _ => v = some (.int 1)) 18 [(0, .retAddr 400), (1, .ref 0), (2, .ref 42), (3, .int x3)] [] (wLW G σ) := by
  intro n
  induction n with
  | zero => intro σ x3 bm bs h; exact h.elim
  | succ n ih =>
    intro σ x3 bm bs h
    have hrec_18 : ∀ a : WSLW × Int32 × Nat × Nat, aw_loop (fun r (a : WSLW × Int32 × Nat × Nat) => wb_L_law_18 G  post r a.1 a.2.1 a.2.2.1 a.2.2.2) n a → AW G ML_law d a.2.2.1 a.2.2.2 0 (fun v _ => v = some (.int 1)) 18 [(0, .retAddr 400), (1, .ref 0), (2, .ref 42), (3, .int a.2.1)] [] (wLW G a.1) := fun a h => ih a.1 a.2.1 a.2.2.1 a.2.2.2 h
    have h : wb_L_law_18 G  post (aw_loop (fun r (a : WSLW × Int32 × Nat × Nat) => wb_L_law_18 G  post r a.1 a.2.1 a.2.2.1 a.2.2.2) n) σ x3 bm bs := h
    unfold wb_L_law_18 at h
    refine aw_iload_n 3 dL_law_18 rfl rfl ?_
    refine aw_aload_nS 0 dL_law_19 rfl rfl ?_
    refine aw_tlen dL_law_20 ?_
    refine aw_bipush (v := (6 : Int32)) dL_law_21 (by decide) ?_
    refine aw_isub dL_law_23 ?_
    refine aw_icmp_gt 591 dL_law_24 (by decide) (fun c110 => ?_) (fun c110 => ?_)
    · have h := h.1 c110
      refine aw_iconst (v := (1 : Int32)) dL_law_591 (by decide) ?_
      exact aw_zret rfl rfl dL_law_592 rfl
    · have h := h.2 c110
      refine aw_aload_nS 0 dL_law_27 rfl rfl ?_
      refine aw_iload_n 3 dL_law_28 rfl rfl ?_
      refine aw_ti h.1 dL_law_29 ?_
      have h := h.2
      refine aw_bipush (v := (31 : Int32)) dL_law_30 (by decide) ?_
      refine aw_iand dL_law_32 ?_
      by_cases c1 : ((aw_sx G (x3).toNatClampNeg) &&& (31 : Int32)) = (0 : Int32)
      · refine aw_tableIn 120 (off := 87) dL_law_33 (by rw [c1]; decide) (by rw [c1]; decide) (by rw [c1]; rfl) (by decide) ?_
        have h := h.1 c1
        refine aw_aload_n 1 dL_law_120 rfl rfl ?_
        refine aw_aload_nS 0 dL_law_121 rfl rfl ?_
        refine aw_iload_n 3 dL_law_122 rfl rfl ?_
        refine aw_iconst (v := (1 : Int32)) dL_law_123 (by decide) ?_
        refine aw_iadd dL_law_124 ?_
        refine aw_ti h.1 dL_law_125 ?_
        have h := h.2
        refine aw_aload_nS 0 dL_law_126 rfl rfl ?_
        refine aw_iload_n 3 dL_law_127 rfl rfl ?_
        refine aw_iconst (v := (2 : Int32)) dL_law_128 (by decide) ?_
        refine aw_iadd dL_law_129 ?_
        refine aw_ti h.1 dL_law_130 ?_
        have h := h.2
        refine aw_aload_nS 0 dL_law_131 rfl rfl ?_
        refine aw_iload_n 3 dL_law_132 rfl rfl ?_
        refine aw_iconst (v := (3 : Int32)) dL_law_133 (by decide) ?_
        refine aw_iadd dL_law_134 ?_
        refine aw_ti h.1 dL_law_135 ?_
        have h := h.2
        refine aw_aload_nS 0 dL_law_136 rfl rfl ?_
        refine aw_iload_n 3 dL_law_137 rfl rfl ?_
        refine aw_iconst (v := (4 : Int32)) dL_law_138 (by decide) ?_
        refine aw_iadd dL_law_139 ?_
        refine aw_ti h.1 dL_law_140 ?_
        have h := h.2
        refine aw_aload_nS 0 dL_law_141 rfl rfl ?_
        refine aw_iload_n 3 dL_law_142 rfl rfl ?_
        refine aw_iconst (v := (5 : Int32)) dL_law_143 (by decide) ?_
        refine aw_iadd dL_law_144 ?_
        refine aw_ti h.1 dL_law_145 ?_
        have h := h.2
        refine aw_bud (mc := 0 + bm) (ms := 0 + bs) (by omega) (by omega) ?_
        refine aw_callV (mc1 := 0) (ms1 := 0) (mc := bm) (ms := bs) (st := []) (q := 0) (As := [.int (aw_sx G ((x3 + (1 : Int32))).toNatClampNeg), .int (aw_sx G ((x3 + (2 : Int32))).toNatClampNeg), .int (aw_sx G ((x3 + (3 : Int32))).toNatClampNeg), .int (aw_sx G ((x3 + (4 : Int32))).toNatClampNeg), .int (aw_sx G ((x3 + (5 : Int32))).toNatClampNeg)]) (vsc := [.int (aw_sx G ((x3 + (1 : Int32))).toNatClampNeg), .int (aw_sx G ((x3 + (2 : Int32))).toNatClampNeg), .int (aw_sx G ((x3 + (3 : Int32))).toNatClampNeg), .int (aw_sx G ((x3 + (4 : Int32))).toNatClampNeg), .int (aw_sx G ((x3 + (5 : Int32))).toNatClampNeg)]) lL_13 insX11_feed selX11_feed ⟨TX11, 12, rfl⟩ (by omega) (kX11_feed (d := 1) (by omega) h) [0, 1, 2, 3, 4, 5, 6, 7, 8, 9, 10, 11, 12, 13, 14, 15, 16, 17, 18, 19, 20, 21, 22, 23, 24, 25, 26, 27, 28, 29, 30, 31, 32, 33, 34, 35, 36, 37, 38, 39, 40, 41] rfl rfl rfl rfl rfl dL_law_146 rfl rfl (fun _ _ hh => ?_)
        obtain ⟨r2, τ3, rfl, rfl, h⟩ := hh
        refine ⟨(wLW G (τ3, σ.2)), [.int r2], rfl, rfl, rfl, ?_⟩
        refine aw_aload_n 2 dL_law_149 rfl rfl ?_
        refine aw_aload_nS 0 dL_law_150 rfl rfl ?_
        refine aw_iload_n 3 dL_law_151 rfl rfl ?_
        refine aw_iconst (v := (1 : Int32)) dL_law_152 (by decide) ?_
        refine aw_iadd dL_law_153 ?_
        refine aw_ti h.1 dL_law_154 ?_
        have h := h.2
        refine aw_aload_nS 0 dL_law_155 rfl rfl ?_
        refine aw_iload_n 3 dL_law_156 rfl rfl ?_
        refine aw_iconst (v := (2 : Int32)) dL_law_157 (by decide) ?_
        refine aw_iadd dL_law_158 ?_
        refine aw_ti h.1 dL_law_159 ?_
        have h := h.2
        refine aw_aload_nS 0 dL_law_160 rfl rfl ?_
        refine aw_iload_n 3 dL_law_161 rfl rfl ?_
        refine aw_iconst (v := (3 : Int32)) dL_law_162 (by decide) ?_
        refine aw_iadd dL_law_163 ?_
        refine aw_ti h.1 dL_law_164 ?_
        have h := h.2
        refine aw_aload_nS 0 dL_law_165 rfl rfl ?_
        refine aw_iload_n 3 dL_law_166 rfl rfl ?_
        refine aw_iconst (v := (4 : Int32)) dL_law_167 (by decide) ?_
        refine aw_iadd dL_law_168 ?_
        refine aw_ti h.1 dL_law_169 ?_
        have h := h.2
        refine aw_aload_nS 0 dL_law_170 rfl rfl ?_
        refine aw_iload_n 3 dL_law_171 rfl rfl ?_
        refine aw_iconst (v := (5 : Int32)) dL_law_172 (by decide) ?_
        refine aw_iadd dL_law_173 ?_
        refine aw_ti h.1 dL_law_174 ?_
        have h := h.2
        refine aw_bud (mc := 0 + bm) (ms := 0 + bs) (by omega) (by omega) ?_
        refine aw_callV (mc1 := 0) (ms1 := 0) (mc := bm) (ms := bs) (st := [.int r2]) (q := 42) (As := [.int (aw_sx G ((x3 + (1 : Int32))).toNatClampNeg), .int (aw_sx G ((x3 + (2 : Int32))).toNatClampNeg), .int (aw_sx G ((x3 + (3 : Int32))).toNatClampNeg), .int (aw_sx G ((x3 + (4 : Int32))).toNatClampNeg), .int (aw_sx G ((x3 + (5 : Int32))).toNatClampNeg)]) (vsc := [.int (aw_sx G ((x3 + (1 : Int32))).toNatClampNeg), .int (aw_sx G ((x3 + (2 : Int32))).toNatClampNeg), .int (aw_sx G ((x3 + (3 : Int32))).toNatClampNeg), .int (aw_sx G ((x3 + (4 : Int32))).toNatClampNeg), .int (aw_sx G ((x3 + (5 : Int32))).toNatClampNeg)]) lL_17 insX12_feed selX12_feed ⟨TX12, 50, rfl⟩ (by omega) (kX12_feed (d := 0) (by omega) h) [42, 43, 44, 45, 46, 47, 48, 49, 50, 51, 52, 53, 54, 55, 56, 57, 58, 59, 60, 61, 62, 63, 64, 65, 66] rfl rfl rfl rfl rfl dL_law_175 rfl rfl (fun _ _ hh => ?_)
        obtain ⟨r4, τ5, rfl, rfl, h⟩ := hh
        refine ⟨(wLW G (τ3, τ5)), [.int r4, .int r2], rfl, rfl, rfl, ?_⟩
        refine aw_icmp_eq 585 dL_law_178 (by decide) (fun c6 => ?_) (fun c6 => ?_)
        · have h := h.1 c6
          exact aw_L_law_585 hd hrec_18 h
        · have h := h.2 c6
          refine aw_iconst (v := (0 : Int32)) dL_law_181 (by decide) ?_
          exact h.elim
      have h := h.2 c1
      by_cases c7 : ((aw_sx G (x3).toNatClampNeg) &&& (31 : Int32)) = (1 : Int32)
      · refine aw_tableIn 183 (off := 150) dL_law_33 (by rw [c7]; decide) (by rw [c7]; decide) (by rw [c7]; rfl) (by decide) ?_
        have h := h.1 c7
        refine aw_aload_n 1 dL_law_183 rfl rfl ?_
        refine aw_aload_nS 0 dL_law_184 rfl rfl ?_
        refine aw_iload_n 3 dL_law_185 rfl rfl ?_
        refine aw_iconst (v := (1 : Int32)) dL_law_186 (by decide) ?_
        refine aw_iadd dL_law_187 ?_
        refine aw_ti h.1 dL_law_188 ?_
        have h := h.2
        obtain ⟨hbm, y8, hbs, h⟩ := h
        refine aw_bud (mc := 12 + (bm - 12)) (ms := y8 + (bs - y8)) (by omega) (by omega) ?_
        refine aw_callV (mc1 := 12) (ms1 := y8) (mc := (bm - 12)) (ms := (bs - y8)) (st := []) (q := 0) (As := [.int (aw_sx G ((x3 + (1 : Int32))).toNatClampNeg)]) (vsc := [.int (aw_sx G ((x3 + (1 : Int32))).toNatClampNeg)]) lL_18 insX11_load selX11_load ⟨TX11, 12, rfl⟩ (by omega) (kX11_load (d := 407) (by omega) h) [0, 1, 2, 3, 4, 5, 6, 7, 8, 9, 10, 11, 12, 13, 14, 15, 16, 17, 18, 19, 20, 21, 22, 23, 24, 25, 26, 27, 28, 29, 30, 31, 32, 33, 34, 35, 36, 37, 38, 39, 40, 41] rfl rfl rfl rfl rfl dL_law_189 rfl rfl (fun _ _ hh => ?_)
        obtain ⟨r9, τ10, rfl, rfl, h⟩ := hh
        refine ⟨(wLW G (τ10, σ.2)), [.int r9], rfl, rfl, rfl, ?_⟩
        refine aw_aload_n 2 dL_law_192 rfl rfl ?_
        refine aw_aload_nS 0 dL_law_193 rfl rfl ?_
        refine aw_iload_n 3 dL_law_194 rfl rfl ?_
        refine aw_iconst (v := (1 : Int32)) dL_law_195 (by decide) ?_
        refine aw_iadd dL_law_196 ?_
        refine aw_ti h.1 dL_law_197 ?_
        have h := h.2
        refine aw_bud (mc := 0 + (bm - 12)) (ms := 0 + (bs - y8)) (by omega) (by omega) ?_
        refine aw_callV (mc1 := 0) (ms1 := 0) (mc := (bm - 12)) (ms := (bs - y8)) (st := [.int r9]) (q := 42) (As := [.int (aw_sx G ((x3 + (1 : Int32))).toNatClampNeg)]) (vsc := [.int (aw_sx G ((x3 + (1 : Int32))).toNatClampNeg)]) lL_22 insX12_load selX12_load ⟨TX12, 50, rfl⟩ (by omega) (kX12_load (d := 805) (by omega) h) [42, 43, 44, 45, 46, 47, 48, 49, 50, 51, 52, 53, 54, 55, 56, 57, 58, 59, 60, 61, 62, 63, 64, 65, 66] rfl rfl rfl rfl rfl dL_law_198 rfl rfl (fun _ _ hh => ?_)
        obtain ⟨r11, τ12, rfl, rfl, h⟩ := hh
        refine ⟨(wLW G (τ10, τ12)), [.int r11, .int r9], rfl, rfl, rfl, ?_⟩
        refine aw_icmp_eq 585 dL_law_201 (by decide) (fun c13 => ?_) (fun c13 => ?_)
        · have h := h.1 c13
          exact aw_L_law_585 hd hrec_18 h
        · have h := h.2 c13
          refine aw_iconst (v := (0 : Int32)) dL_law_204 (by decide) ?_
          exact h.elim
      have h := h.2 c7
      by_cases c14 : ((aw_sx G (x3).toNatClampNeg) &&& (31 : Int32)) = (2 : Int32)
      · refine aw_tableIn 206 (off := 173) dL_law_33 (by rw [c14]; decide) (by rw [c14]; decide) (by rw [c14]; rfl) (by decide) ?_
        have h := h.1 c14
        refine aw_aload_n 1 dL_law_206 rfl rfl ?_
        refine aw_aload_nS 0 dL_law_207 rfl rfl ?_
        refine aw_iload_n 3 dL_law_208 rfl rfl ?_
        refine aw_iconst (v := (1 : Int32)) dL_law_209 (by decide) ?_
        refine aw_iadd dL_law_210 ?_
        refine aw_ti h.1 dL_law_211 ?_
        have h := h.2
        refine aw_bud (mc := 0 + bm) (ms := 0 + bs) (by omega) (by omega) ?_
        refine aw_callV (mc1 := 0) (ms1 := 0) (mc := bm) (ms := bs) (st := []) (q := 0) (As := [.int (aw_sx G ((x3 + (1 : Int32))).toNatClampNeg)]) (vsc := [.int (aw_sx G ((x3 + (1 : Int32))).toNatClampNeg)]) lL_23 insX11_told selX11_told ⟨TX11, 12, rfl⟩ (by omega) (kX11_told (d := 0) (by omega) h) [0, 1, 2, 3, 4, 5, 6, 7, 8, 9, 10, 11, 12, 13, 14, 15, 16, 17, 18, 19, 20, 21, 22, 23, 24, 25, 26, 27, 28, 29, 30, 31, 32, 33, 34, 35, 36, 37, 38, 39, 40, 41] rfl rfl rfl rfl rfl dL_law_212 rfl rfl (fun _ _ hh => ?_)
        obtain ⟨r15, τ16, rfl, rfl, h⟩ := hh
        refine ⟨(wLW G (τ16, σ.2)), [.int r15], rfl, rfl, rfl, ?_⟩
        refine aw_aload_n 2 dL_law_215 rfl rfl ?_
        refine aw_aload_nS 0 dL_law_216 rfl rfl ?_
        refine aw_iload_n 3 dL_law_217 rfl rfl ?_
        refine aw_iconst (v := (1 : Int32)) dL_law_218 (by decide) ?_
        refine aw_iadd dL_law_219 ?_
        refine aw_ti h.1 dL_law_220 ?_
        have h := h.2
        refine aw_bud (mc := 0 + bm) (ms := 0 + bs) (by omega) (by omega) ?_
        refine aw_callV (mc1 := 0) (ms1 := 0) (mc := bm) (ms := bs) (st := [.int r15]) (q := 42) (As := [.int (aw_sx G ((x3 + (1 : Int32))).toNatClampNeg)]) (vsc := [.int (aw_sx G ((x3 + (1 : Int32))).toNatClampNeg)]) lL_26 insX12_told selX12_told ⟨TX12, 50, rfl⟩ (by omega) (kX12_told (d := 0) (by omega) h) [42, 43, 44, 45, 46, 47, 48, 49, 50, 51, 52, 53, 54, 55, 56, 57, 58, 59, 60, 61, 62, 63, 64, 65, 66] rfl rfl rfl rfl rfl dL_law_221 rfl rfl (fun _ _ hh => ?_)
        obtain ⟨r17, τ18, rfl, rfl, h⟩ := hh
        refine ⟨(wLW G (τ16, τ18)), [.int r17, .int r15], rfl, rfl, rfl, ?_⟩
        refine aw_icmp_eq 585 dL_law_224 (by decide) (fun c19 => ?_) (fun c19 => ?_)
        · have h := h.1 c19
          exact aw_L_law_585 hd hrec_18 h
        · have h := h.2 c19
          refine aw_iconst (v := (0 : Int32)) dL_law_227 (by decide) ?_
          exact h.elim
      have h := h.2 c14
      by_cases c20 : ((aw_sx G (x3).toNatClampNeg) &&& (31 : Int32)) = (3 : Int32)
      · refine aw_tableIn 229 (off := 196) dL_law_33 (by rw [c20]; decide) (by rw [c20]; decide) (by rw [c20]; rfl) (by decide) ?_
        have h := h.1 c20
        refine aw_aload_n 1 dL_law_229 rfl rfl ?_
        refine aw_aload_nS 0 dL_law_230 rfl rfl ?_
        refine aw_iload_n 3 dL_law_231 rfl rfl ?_
        refine aw_iconst (v := (1 : Int32)) dL_law_232 (by decide) ?_
        refine aw_iadd dL_law_233 ?_
        refine aw_ti h.1 dL_law_234 ?_
        have h := h.2
        refine aw_bud (mc := 0 + bm) (ms := 0 + bs) (by omega) (by omega) ?_
        refine aw_callV (mc1 := 0) (ms1 := 0) (mc := bm) (ms := bs) (st := []) (q := 0) (As := [.int (aw_sx G ((x3 + (1 : Int32))).toNatClampNeg)]) (vsc := [.int (aw_sx G ((x3 + (1 : Int32))).toNatClampNeg)]) lL_27 insX11_count selX11_count ⟨TX11, 12, rfl⟩ (by omega) (kX11_count (d := 1) (by omega) h) [0, 1, 2, 3, 4, 5, 6, 7, 8, 9, 10, 11, 12, 13, 14, 15, 16, 17, 18, 19, 20, 21, 22, 23, 24, 25, 26, 27, 28, 29, 30, 31, 32, 33, 34, 35, 36, 37, 38, 39, 40, 41] rfl rfl rfl rfl rfl dL_law_235 rfl rfl (fun _ _ hh => ?_)
        obtain ⟨r21, τ22, rfl, rfl, h⟩ := hh
        refine ⟨(wLW G (τ22, σ.2)), [.int r21], rfl, rfl, rfl, ?_⟩
        refine aw_aload_n 2 dL_law_238 rfl rfl ?_
        refine aw_aload_nS 0 dL_law_239 rfl rfl ?_
        refine aw_iload_n 3 dL_law_240 rfl rfl ?_
        refine aw_iconst (v := (1 : Int32)) dL_law_241 (by decide) ?_
        refine aw_iadd dL_law_242 ?_
        refine aw_ti h.1 dL_law_243 ?_
        have h := h.2
        refine aw_bud (mc := 0 + bm) (ms := 0 + bs) (by omega) (by omega) ?_
        refine aw_callV (mc1 := 0) (ms1 := 0) (mc := bm) (ms := bs) (st := [.int r21]) (q := 42) (As := [.int (aw_sx G ((x3 + (1 : Int32))).toNatClampNeg)]) (vsc := [.int (aw_sx G ((x3 + (1 : Int32))).toNatClampNeg)]) lL_30 insX12_count selX12_count ⟨TX12, 50, rfl⟩ (by omega) (kX12_count (d := 0) (by omega) h) [42, 43, 44, 45, 46, 47, 48, 49, 50, 51, 52, 53, 54, 55, 56, 57, 58, 59, 60, 61, 62, 63, 64, 65, 66] rfl rfl rfl rfl rfl dL_law_244 rfl rfl (fun _ _ hh => ?_)
        obtain ⟨r23, τ24, rfl, rfl, h⟩ := hh
        refine ⟨(wLW G (τ22, τ24)), [.int r23, .int r21], rfl, rfl, rfl, ?_⟩
        refine aw_icmp_eq 585 dL_law_247 (by decide) (fun c25 => ?_) (fun c25 => ?_)
        · have h := h.1 c25
          exact aw_L_law_585 hd hrec_18 h
        · have h := h.2 c25
          refine aw_iconst (v := (0 : Int32)) dL_law_250 (by decide) ?_
          exact h.elim
      have h := h.2 c20
      by_cases c26 : ((aw_sx G (x3).toNatClampNeg) &&& (31 : Int32)) = (4 : Int32)
      · refine aw_tableIn 252 (off := 219) dL_law_33 (by rw [c26]; decide) (by rw [c26]; decide) (by rw [c26]; rfl) (by decide) ?_
        have h := h.1 c26
        refine aw_aload_n 1 dL_law_252 rfl rfl ?_
        refine aw_aload_nS 0 dL_law_253 rfl rfl ?_
        refine aw_iload_n 3 dL_law_254 rfl rfl ?_
        refine aw_iconst (v := (1 : Int32)) dL_law_255 (by decide) ?_
        refine aw_iadd dL_law_256 ?_
        refine aw_ti h.1 dL_law_257 ?_
        have h := h.2
        refine aw_aload_nS 0 dL_law_258 rfl rfl ?_
        refine aw_iload_n 3 dL_law_259 rfl rfl ?_
        refine aw_iconst (v := (2 : Int32)) dL_law_260 (by decide) ?_
        refine aw_iadd dL_law_261 ?_
        refine aw_ti h.1 dL_law_262 ?_
        have h := h.2
        refine aw_bud (mc := 0 + bm) (ms := 0 + bs) (by omega) (by omega) ?_
        refine aw_callV (mc1 := 0) (ms1 := 0) (mc := bm) (ms := bs) (st := []) (q := 0) (As := [.int (aw_sx G ((x3 + (1 : Int32))).toNatClampNeg), .int (aw_sx G ((x3 + (2 : Int32))).toNatClampNeg)]) (vsc := [.int (aw_sx G ((x3 + (1 : Int32))).toNatClampNeg), .int (aw_sx G ((x3 + (2 : Int32))).toNatClampNeg)]) lL_31 insX11_input selX11_input ⟨TX11, 12, rfl⟩ (by omega) (kX11_input (d := 2) (by omega) h) [0, 1, 2, 3, 4, 5, 6, 7, 8, 9, 10, 11, 12, 13, 14, 15, 16, 17, 18, 19, 20, 21, 22, 23, 24, 25, 26, 27, 28, 29, 30, 31, 32, 33, 34, 35, 36, 37, 38, 39, 40, 41] rfl rfl rfl rfl rfl dL_law_263 rfl rfl (fun _ _ hh => ?_)
        obtain ⟨r27, τ28, rfl, rfl, h⟩ := hh
        refine ⟨(wLW G (τ28, σ.2)), [.int r27], rfl, rfl, rfl, ?_⟩
        refine aw_aload_n 2 dL_law_266 rfl rfl ?_
        refine aw_aload_nS 0 dL_law_267 rfl rfl ?_
        refine aw_iload_n 3 dL_law_268 rfl rfl ?_
        refine aw_iconst (v := (1 : Int32)) dL_law_269 (by decide) ?_
        refine aw_iadd dL_law_270 ?_
        refine aw_ti h.1 dL_law_271 ?_
        have h := h.2
        refine aw_aload_nS 0 dL_law_272 rfl rfl ?_
        refine aw_iload_n 3 dL_law_273 rfl rfl ?_
        refine aw_iconst (v := (2 : Int32)) dL_law_274 (by decide) ?_
        refine aw_iadd dL_law_275 ?_
        refine aw_ti h.1 dL_law_276 ?_
        have h := h.2
        refine aw_bud (mc := 0 + bm) (ms := 0 + bs) (by omega) (by omega) ?_
        refine aw_callV (mc1 := 0) (ms1 := 0) (mc := bm) (ms := bs) (st := [.int r27]) (q := 42) (As := [.int (aw_sx G ((x3 + (1 : Int32))).toNatClampNeg), .int (aw_sx G ((x3 + (2 : Int32))).toNatClampNeg)]) (vsc := [.int (aw_sx G ((x3 + (1 : Int32))).toNatClampNeg), .int (aw_sx G ((x3 + (2 : Int32))).toNatClampNeg)]) lL_35 insX12_input selX12_input ⟨TX12, 50, rfl⟩ (by omega) (kX12_input (d := 0) (by omega) h) [42, 43, 44, 45, 46, 47, 48, 49, 50, 51, 52, 53, 54, 55, 56, 57, 58, 59, 60, 61, 62, 63, 64, 65, 66] rfl rfl rfl rfl rfl dL_law_277 rfl rfl (fun _ _ hh => ?_)
        obtain ⟨r29, τ30, rfl, rfl, h⟩ := hh
        refine ⟨(wLW G (τ28, τ30)), [.int r29, .int r27], rfl, rfl, rfl, ?_⟩
        refine aw_icmp_eq 585 dL_law_280 (by decide) (fun c31 => ?_) (fun c31 => ?_)
        · have h := h.1 c31
          exact aw_L_law_585 hd hrec_18 h
        · have h := h.2 c31
          refine aw_iconst (v := (0 : Int32)) dL_law_283 (by decide) ?_
          exact h.elim
      have h := h.2 c26
      by_cases c32 : ((aw_sx G (x3).toNatClampNeg) &&& (31 : Int32)) = (5 : Int32)
      · refine aw_tableIn 285 (off := 252) dL_law_33 (by rw [c32]; decide) (by rw [c32]; decide) (by rw [c32]; rfl) (by decide) ?_
        have h := h.1 c32
        refine aw_aload_n 1 dL_law_285 rfl rfl ?_
        refine aw_aload_nS 0 dL_law_286 rfl rfl ?_
        refine aw_iload_n 3 dL_law_287 rfl rfl ?_
        refine aw_iconst (v := (1 : Int32)) dL_law_288 (by decide) ?_
        refine aw_iadd dL_law_289 ?_
        refine aw_ti h.1 dL_law_290 ?_
        have h := h.2
        refine aw_bud (mc := 0 + bm) (ms := 0 + bs) (by omega) (by omega) ?_
        refine aw_callV (mc1 := 0) (ms1 := 0) (mc := bm) (ms := bs) (st := []) (q := 0) (As := [.int (aw_sx G ((x3 + (1 : Int32))).toNatClampNeg)]) (vsc := [.int (aw_sx G ((x3 + (1 : Int32))).toNatClampNeg)]) lL_36 insX11_run selX11_run ⟨TX11, 12, rfl⟩ (by omega) (kX11_run (d := 7) (by omega) h) [0, 1, 2, 3, 4, 5, 6, 7, 8, 9, 10, 11, 12, 13, 14, 15, 16, 17, 18, 19, 20, 21, 22, 23, 24, 25, 26, 27, 28, 29, 30, 31, 32, 33, 34, 35, 36, 37, 38, 39, 40, 41] rfl rfl rfl rfl rfl dL_law_291 rfl rfl (fun _ _ hh => ?_)
        obtain ⟨r33, τ34, rfl, rfl, h⟩ := hh
        refine ⟨(wLW G (τ34, σ.2)), [.int r33], rfl, rfl, rfl, ?_⟩
        refine aw_aload_n 2 dL_law_294 rfl rfl ?_
        refine aw_aload_nS 0 dL_law_295 rfl rfl ?_
        refine aw_iload_n 3 dL_law_296 rfl rfl ?_
        refine aw_iconst (v := (1 : Int32)) dL_law_297 (by decide) ?_
        refine aw_iadd dL_law_298 ?_
        refine aw_ti h.1 dL_law_299 ?_
        have h := h.2
        refine aw_bud (mc := 0 + bm) (ms := 0 + bs) (by omega) (by omega) ?_
        refine aw_callV (mc1 := 0) (ms1 := 0) (mc := bm) (ms := bs) (st := [.int r33]) (q := 42) (As := [.int (aw_sx G ((x3 + (1 : Int32))).toNatClampNeg)]) (vsc := [.int (aw_sx G ((x3 + (1 : Int32))).toNatClampNeg)]) lL_39 insX12_run selX12_run ⟨TX12, 50, rfl⟩ (by omega) (kX12_run (d := 804) (by omega) h) [42, 43, 44, 45, 46, 47, 48, 49, 50, 51, 52, 53, 54, 55, 56, 57, 58, 59, 60, 61, 62, 63, 64, 65, 66] rfl rfl rfl rfl rfl dL_law_300 rfl rfl (fun _ _ hh => ?_)
        obtain ⟨r35, τ36, rfl, rfl, h⟩ := hh
        refine ⟨(wLW G (τ34, τ36)), [.int r35, .int r33], rfl, rfl, rfl, ?_⟩
        refine aw_icmp_eq 585 dL_law_303 (by decide) (fun c37 => ?_) (fun c37 => ?_)
        · have h := h.1 c37
          exact aw_L_law_585 hd hrec_18 h
        · have h := h.2 c37
          refine aw_iconst (v := (0 : Int32)) dL_law_306 (by decide) ?_
          exact h.elim
      have h := h.2 c32
      by_cases c38 : ((aw_sx G (x3).toNatClampNeg) &&& (31 : Int32)) = (6 : Int32)
      · refine aw_tableIn 308 (off := 275) dL_law_33 (by rw [c38]; decide) (by rw [c38]; decide) (by rw [c38]; rfl) (by decide) ?_
        have h := h.1 c38
        refine aw_aload_n 1 dL_law_308 rfl rfl ?_
        refine aw_aload_nS 0 dL_law_309 rfl rfl ?_
        refine aw_iload_n 3 dL_law_310 rfl rfl ?_
        refine aw_iconst (v := (1 : Int32)) dL_law_311 (by decide) ?_
        refine aw_iadd dL_law_312 ?_
        refine aw_ti h.1 dL_law_313 ?_
        have h := h.2
        refine aw_bud (mc := 0 + bm) (ms := 0 + bs) (by omega) (by omega) ?_
        refine aw_callV (mc1 := 0) (ms1 := 0) (mc := bm) (ms := bs) (st := []) (q := 0) (As := [.int (aw_sx G ((x3 + (1 : Int32))).toNatClampNeg)]) (vsc := [.int (aw_sx G ((x3 + (1 : Int32))).toNatClampNeg)]) lL_40 insX11_ran selX11_ran ⟨TX11, 12, rfl⟩ (by omega) (kX11_ran (d := 1) (by omega) h) [0, 1, 2, 3, 4, 5, 6, 7, 8, 9, 10, 11, 12, 13, 14, 15, 16, 17, 18, 19, 20, 21, 22, 23, 24, 25, 26, 27, 28, 29, 30, 31, 32, 33, 34, 35, 36, 37, 38, 39, 40, 41] rfl rfl rfl rfl rfl dL_law_314 rfl rfl (fun _ _ hh => ?_)
        obtain ⟨r39, τ40, rfl, rfl, h⟩ := hh
        refine ⟨(wLW G (τ40, σ.2)), [.int r39], rfl, rfl, rfl, ?_⟩
        refine aw_aload_n 2 dL_law_317 rfl rfl ?_
        refine aw_aload_nS 0 dL_law_318 rfl rfl ?_
        refine aw_iload_n 3 dL_law_319 rfl rfl ?_
        refine aw_iconst (v := (1 : Int32)) dL_law_320 (by decide) ?_
        refine aw_iadd dL_law_321 ?_
        refine aw_ti h.1 dL_law_322 ?_
        have h := h.2
        refine aw_bud (mc := 0 + bm) (ms := 0 + bs) (by omega) (by omega) ?_
        refine aw_callV (mc1 := 0) (ms1 := 0) (mc := bm) (ms := bs) (st := [.int r39]) (q := 42) (As := [.int (aw_sx G ((x3 + (1 : Int32))).toNatClampNeg)]) (vsc := [.int (aw_sx G ((x3 + (1 : Int32))).toNatClampNeg)]) lL_43 insX12_ran selX12_ran ⟨TX12, 50, rfl⟩ (by omega) (kX12_ran (d := 0) (by omega) h) [42, 43, 44, 45, 46, 47, 48, 49, 50, 51, 52, 53, 54, 55, 56, 57, 58, 59, 60, 61, 62, 63, 64, 65, 66] rfl rfl rfl rfl rfl dL_law_323 rfl rfl (fun _ _ hh => ?_)
        obtain ⟨r41, τ42, rfl, rfl, h⟩ := hh
        refine ⟨(wLW G (τ40, τ42)), [.int r41, .int r39], rfl, rfl, rfl, ?_⟩
        refine aw_icmp_eq 585 dL_law_326 (by decide) (fun c43 => ?_) (fun c43 => ?_)
        · have h := h.1 c43
          exact aw_L_law_585 hd hrec_18 h
        · have h := h.2 c43
          refine aw_iconst (v := (0 : Int32)) dL_law_329 (by decide) ?_
          exact h.elim
      have h := h.2 c38
      by_cases c44 : ((aw_sx G (x3).toNatClampNeg) &&& (31 : Int32)) = (7 : Int32)
      · refine aw_tableIn 331 (off := 298) dL_law_33 (by rw [c44]; decide) (by rw [c44]; decide) (by rw [c44]; rfl) (by decide) ?_
        have h := h.1 c44
        refine aw_aload_n 1 dL_law_331 rfl rfl ?_
        refine aw_aload_nS 0 dL_law_332 rfl rfl ?_
        refine aw_iload_n 3 dL_law_333 rfl rfl ?_
        refine aw_iconst (v := (1 : Int32)) dL_law_334 (by decide) ?_
        refine aw_iadd dL_law_335 ?_
        refine aw_ti h.1 dL_law_336 ?_
        have h := h.2
        refine aw_bud (mc := 0 + bm) (ms := 0 + bs) (by omega) (by omega) ?_
        refine aw_callV (mc1 := 0) (ms1 := 0) (mc := bm) (ms := bs) (st := []) (q := 0) (As := [.int (aw_sx G ((x3 + (1 : Int32))).toNatClampNeg)]) (vsc := [.int (aw_sx G ((x3 + (1 : Int32))).toNatClampNeg)]) lL_44 insX11_out selX11_out ⟨TX11, 12, rfl⟩ (by omega) (kX11_out (d := 3) (by omega) h) [0, 1, 2, 3, 4, 5, 6, 7, 8, 9, 10, 11, 12, 13, 14, 15, 16, 17, 18, 19, 20, 21, 22, 23, 24, 25, 26, 27, 28, 29, 30, 31, 32, 33, 34, 35, 36, 37, 38, 39, 40, 41] rfl rfl rfl rfl rfl dL_law_337 rfl rfl (fun _ _ hh => ?_)
        obtain ⟨r45, τ46, rfl, rfl, h⟩ := hh
        refine ⟨(wLW G (τ46, σ.2)), [.int r45], rfl, rfl, rfl, ?_⟩
        refine aw_aload_n 2 dL_law_340 rfl rfl ?_
        refine aw_aload_nS 0 dL_law_341 rfl rfl ?_
        refine aw_iload_n 3 dL_law_342 rfl rfl ?_
        refine aw_iconst (v := (1 : Int32)) dL_law_343 (by decide) ?_
        refine aw_iadd dL_law_344 ?_
        refine aw_ti h.1 dL_law_345 ?_
        have h := h.2
        refine aw_bud (mc := 0 + bm) (ms := 0 + bs) (by omega) (by omega) ?_
        refine aw_callV (mc1 := 0) (ms1 := 0) (mc := bm) (ms := bs) (st := [.int r45]) (q := 42) (As := [.int (aw_sx G ((x3 + (1 : Int32))).toNatClampNeg)]) (vsc := [.int (aw_sx G ((x3 + (1 : Int32))).toNatClampNeg)]) lL_47 insX12_out selX12_out ⟨TX12, 50, rfl⟩ (by omega) (kX12_out (d := 0) (by omega) h) [42, 43, 44, 45, 46, 47, 48, 49, 50, 51, 52, 53, 54, 55, 56, 57, 58, 59, 60, 61, 62, 63, 64, 65, 66] rfl rfl rfl rfl rfl dL_law_346 rfl rfl (fun _ _ hh => ?_)
        obtain ⟨r47, τ48, rfl, rfl, h⟩ := hh
        refine ⟨(wLW G (τ46, τ48)), [.int r47, .int r45], rfl, rfl, rfl, ?_⟩
        refine aw_icmp_eq 585 dL_law_349 (by decide) (fun c49 => ?_) (fun c49 => ?_)
        · have h := h.1 c49
          exact aw_L_law_585 hd hrec_18 h
        · have h := h.2 c49
          refine aw_iconst (v := (0 : Int32)) dL_law_352 (by decide) ?_
          exact h.elim
      have h := h.2 c44
      by_cases c50 : ((aw_sx G (x3).toNatClampNeg) &&& (31 : Int32)) = (8 : Int32)
      · refine aw_tableIn 354 (off := 321) dL_law_33 (by rw [c50]; decide) (by rw [c50]; decide) (by rw [c50]; rfl) (by decide) ?_
        have h := h.1 c50
        refine aw_aload_n 1 dL_law_354 rfl rfl ?_
        refine aw_aload_nS 0 dL_law_355 rfl rfl ?_
        refine aw_iload_n 3 dL_law_356 rfl rfl ?_
        refine aw_iconst (v := (1 : Int32)) dL_law_357 (by decide) ?_
        refine aw_iadd dL_law_358 ?_
        refine aw_ti h.1 dL_law_359 ?_
        have h := h.2
        refine aw_bud (mc := 0 + bm) (ms := 0 + bs) (by omega) (by omega) ?_
        refine aw_callV (mc1 := 0) (ms1 := 0) (mc := bm) (ms := bs) (st := []) (q := 0) (As := [.int (aw_sx G ((x3 + (1 : Int32))).toNatClampNeg)]) (vsc := [.int (aw_sx G ((x3 + (1 : Int32))).toNatClampNeg)]) lL_48 insX11_word selX11_word ⟨TX11, 12, rfl⟩ (by omega) (kX11_word (d := 3) (by omega) h) [0, 1, 2, 3, 4, 5, 6, 7, 8, 9, 10, 11, 12, 13, 14, 15, 16, 17, 18, 19, 20, 21, 22, 23, 24, 25, 26, 27, 28, 29, 30, 31, 32, 33, 34, 35, 36, 37, 38, 39, 40, 41] rfl rfl rfl rfl rfl dL_law_360 rfl rfl (fun _ _ hh => ?_)
        obtain ⟨r51, τ52, rfl, rfl, h⟩ := hh
        refine ⟨(wLW G (τ52, σ.2)), [.int r51], rfl, rfl, rfl, ?_⟩
        refine aw_aload_n 2 dL_law_363 rfl rfl ?_
        refine aw_aload_nS 0 dL_law_364 rfl rfl ?_
        refine aw_iload_n 3 dL_law_365 rfl rfl ?_
        refine aw_iconst (v := (1 : Int32)) dL_law_366 (by decide) ?_
        refine aw_iadd dL_law_367 ?_
        refine aw_ti h.1 dL_law_368 ?_
        have h := h.2
        refine aw_bud (mc := 0 + bm) (ms := 0 + bs) (by omega) (by omega) ?_
        refine aw_callV (mc1 := 0) (ms1 := 0) (mc := bm) (ms := bs) (st := [.int r51]) (q := 42) (As := [.int (aw_sx G ((x3 + (1 : Int32))).toNatClampNeg)]) (vsc := [.int (aw_sx G ((x3 + (1 : Int32))).toNatClampNeg)]) lL_51 insX12_word selX12_word ⟨TX12, 50, rfl⟩ (by omega) (kX12_word (d := 0) (by omega) h) [42, 43, 44, 45, 46, 47, 48, 49, 50, 51, 52, 53, 54, 55, 56, 57, 58, 59, 60, 61, 62, 63, 64, 65, 66] rfl rfl rfl rfl rfl dL_law_369 rfl rfl (fun _ _ hh => ?_)
        obtain ⟨r53, τ54, rfl, rfl, h⟩ := hh
        refine ⟨(wLW G (τ52, τ54)), [.int r53, .int r51], rfl, rfl, rfl, ?_⟩
        refine aw_icmp_eq 585 dL_law_372 (by decide) (fun c55 => ?_) (fun c55 => ?_)
        · have h := h.1 c55
          exact aw_L_law_585 hd hrec_18 h
        · have h := h.2 c55
          refine aw_iconst (v := (0 : Int32)) dL_law_375 (by decide) ?_
          exact h.elim
      have h := h.2 c50
      by_cases c56 : ((aw_sx G (x3).toNatClampNeg) &&& (31 : Int32)) = (9 : Int32)
      · refine aw_tableIn 377 (off := 344) dL_law_33 (by rw [c56]; decide) (by rw [c56]; decide) (by rw [c56]; rfl) (by decide) ?_
        have h := h.1 c56
        refine aw_aload_n 1 dL_law_377 rfl rfl ?_
        refine aw_bud (mc := 0 + bm) (ms := 0 + bs) (by omega) (by omega) ?_
        refine aw_callV (mc1 := 0) (ms1 := 0) (mc := bm) (ms := bs) (st := []) (q := 0) (As := []) (vsc := []) lL_52 insX11_quiet selX11_quiet ⟨TX11, 12, rfl⟩ (by omega) (kX11_quiet (d := 2) (by omega) h) [0, 1, 2, 3, 4, 5, 6, 7, 8, 9, 10, 11, 12, 13, 14, 15, 16, 17, 18, 19, 20, 21, 22, 23, 24, 25, 26, 27, 28, 29, 30, 31, 32, 33, 34, 35, 36, 37, 38, 39, 40, 41] rfl rfl rfl rfl rfl dL_law_378 rfl rfl (fun _ _ hh => ?_)
        obtain ⟨r57, τ58, rfl, rfl, h⟩ := hh
        refine ⟨(wLW G (τ58, σ.2)), [.int r57], rfl, rfl, rfl, ?_⟩
        refine aw_aload_n 2 dL_law_381 rfl rfl ?_
        refine aw_bud (mc := 0 + bm) (ms := 0 + bs) (by omega) (by omega) ?_
        refine aw_callV (mc1 := 0) (ms1 := 0) (mc := bm) (ms := bs) (st := [.int r57]) (q := 42) (As := []) (vsc := []) lL_56 insX12_quiet selX12_quiet ⟨TX12, 50, rfl⟩ (by omega) (kX12_quiet (d := 0) (by omega) h) [42, 43, 44, 45, 46, 47, 48, 49, 50, 51, 52, 53, 54, 55, 56, 57, 58, 59, 60, 61, 62, 63, 64, 65, 66] rfl rfl rfl rfl rfl dL_law_382 rfl rfl (fun _ _ hh => ?_)
        obtain ⟨r59, τ60, rfl, rfl, h⟩ := hh
        refine ⟨(wLW G (τ58, τ60)), [.int r59, .int r57], rfl, rfl, rfl, ?_⟩
        refine aw_icmp_eq 585 dL_law_385 (by decide) (fun c61 => ?_) (fun c61 => ?_)
        · have h := h.1 c61
          exact aw_L_law_585 hd hrec_18 h
        · have h := h.2 c61
          refine aw_iconst (v := (0 : Int32)) dL_law_388 (by decide) ?_
          exact h.elim
      have h := h.2 c56
      by_cases c62 : ((aw_sx G (x3).toNatClampNeg) &&& (31 : Int32)) = (10 : Int32)
      · refine aw_tableIn 390 (off := 357) dL_law_33 (by rw [c62]; decide) (by rw [c62]; decide) (by rw [c62]; rfl) (by decide) ?_
        have h := h.1 c62
        refine aw_aload_n 1 dL_law_390 rfl rfl ?_
        refine aw_aload_nS 0 dL_law_391 rfl rfl ?_
        refine aw_iload_n 3 dL_law_392 rfl rfl ?_
        refine aw_iconst (v := (1 : Int32)) dL_law_393 (by decide) ?_
        refine aw_iadd dL_law_394 ?_
        refine aw_ti h.1 dL_law_395 ?_
        have h := h.2
        refine aw_aload_nS 0 dL_law_396 rfl rfl ?_
        refine aw_iload_n 3 dL_law_397 rfl rfl ?_
        refine aw_iconst (v := (2 : Int32)) dL_law_398 (by decide) ?_
        refine aw_iadd dL_law_399 ?_
        refine aw_ti h.1 dL_law_400 ?_
        have h := h.2
        refine aw_bud (mc := 0 + bm) (ms := 0 + bs) (by omega) (by omega) ?_
        refine aw_callV (mc1 := 0) (ms1 := 0) (mc := bm) (ms := bs) (st := []) (q := 0) (As := [.int (aw_sx G ((x3 + (1 : Int32))).toNatClampNeg), .int (aw_sx G ((x3 + (2 : Int32))).toNatClampNeg)]) (vsc := [.int (aw_sx G ((x3 + (1 : Int32))).toNatClampNeg), .int (aw_sx G ((x3 + (2 : Int32))).toNatClampNeg)]) lL_57 insX11_poke selX11_poke ⟨TX11, 12, rfl⟩ (by omega) (kX11_poke (d := 2) (by omega) h) [0, 1, 2, 3, 4, 5, 6, 7, 8, 9, 10, 11, 12, 13, 14, 15, 16, 17, 18, 19, 20, 21, 22, 23, 24, 25, 26, 27, 28, 29, 30, 31, 32, 33, 34, 35, 36, 37, 38, 39, 40, 41] rfl rfl rfl rfl rfl dL_law_401 rfl rfl (fun _ _ hh => ?_)
        obtain ⟨r63, τ64, rfl, rfl, h⟩ := hh
        refine ⟨(wLW G (τ64, σ.2)), [.int r63], rfl, rfl, rfl, ?_⟩
        refine aw_aload_n 2 dL_law_404 rfl rfl ?_
        refine aw_aload_nS 0 dL_law_405 rfl rfl ?_
        refine aw_iload_n 3 dL_law_406 rfl rfl ?_
        refine aw_iconst (v := (1 : Int32)) dL_law_407 (by decide) ?_
        refine aw_iadd dL_law_408 ?_
        refine aw_ti h.1 dL_law_409 ?_
        have h := h.2
        refine aw_aload_nS 0 dL_law_410 rfl rfl ?_
        refine aw_iload_n 3 dL_law_411 rfl rfl ?_
        refine aw_iconst (v := (2 : Int32)) dL_law_412 (by decide) ?_
        refine aw_iadd dL_law_413 ?_
        refine aw_ti h.1 dL_law_414 ?_
        have h := h.2
        refine aw_bud (mc := 0 + bm) (ms := 0 + bs) (by omega) (by omega) ?_
        refine aw_callV (mc1 := 0) (ms1 := 0) (mc := bm) (ms := bs) (st := [.int r63]) (q := 42) (As := [.int (aw_sx G ((x3 + (1 : Int32))).toNatClampNeg), .int (aw_sx G ((x3 + (2 : Int32))).toNatClampNeg)]) (vsc := [.int (aw_sx G ((x3 + (1 : Int32))).toNatClampNeg), .int (aw_sx G ((x3 + (2 : Int32))).toNatClampNeg)]) lL_60 insX12_poke selX12_poke ⟨TX12, 50, rfl⟩ (by omega) (kX12_poke (d := 1) (by omega) h) [42, 43, 44, 45, 46, 47, 48, 49, 50, 51, 52, 53, 54, 55, 56, 57, 58, 59, 60, 61, 62, 63, 64, 65, 66] rfl rfl rfl rfl rfl dL_law_415 rfl rfl (fun _ _ hh => ?_)
        obtain ⟨r65, τ66, rfl, rfl, h⟩ := hh
        refine ⟨(wLW G (τ64, τ66)), [.int r65, .int r63], rfl, rfl, rfl, ?_⟩
        refine aw_icmp_eq 585 dL_law_418 (by decide) (fun c67 => ?_) (fun c67 => ?_)
        · have h := h.1 c67
          exact aw_L_law_585 hd hrec_18 h
        · have h := h.2 c67
          refine aw_iconst (v := (0 : Int32)) dL_law_421 (by decide) ?_
          exact h.elim
      have h := h.2 c62
      by_cases c68 : ((aw_sx G (x3).toNatClampNeg) &&& (31 : Int32)) = (11 : Int32)
      · refine aw_tableIn 423 (off := 390) dL_law_33 (by rw [c68]; decide) (by rw [c68]; decide) (by rw [c68]; rfl) (by decide) ?_
        have h := h.1 c68
        refine aw_aload_n 1 dL_law_423 rfl rfl ?_
        refine aw_aload_nS 0 dL_law_424 rfl rfl ?_
        refine aw_iload_n 3 dL_law_425 rfl rfl ?_
        refine aw_iconst (v := (1 : Int32)) dL_law_426 (by decide) ?_
        refine aw_iadd dL_law_427 ?_
        refine aw_ti h.1 dL_law_428 ?_
        have h := h.2
        refine aw_bud (mc := 0 + bm) (ms := 0 + bs) (by omega) (by omega) ?_
        refine aw_callV (mc1 := 0) (ms1 := 0) (mc := bm) (ms := bs) (st := []) (q := 0) (As := [.int (aw_sx G ((x3 + (1 : Int32))).toNatClampNeg)]) (vsc := [.int (aw_sx G ((x3 + (1 : Int32))).toNatClampNeg)]) lL_61 insX11_peek selX11_peek ⟨TX11, 12, rfl⟩ (by omega) (kX11_peek (d := 2) (by omega) h) [0, 1, 2, 3, 4, 5, 6, 7, 8, 9, 10, 11, 12, 13, 14, 15, 16, 17, 18, 19, 20, 21, 22, 23, 24, 25, 26, 27, 28, 29, 30, 31, 32, 33, 34, 35, 36, 37, 38, 39, 40, 41] rfl rfl rfl rfl rfl dL_law_429 rfl rfl (fun _ _ hh => ?_)
        obtain ⟨r69, τ70, rfl, rfl, h⟩ := hh
        refine ⟨(wLW G (τ70, σ.2)), [.int r69], rfl, rfl, rfl, ?_⟩
        refine aw_aload_n 2 dL_law_432 rfl rfl ?_
        refine aw_aload_nS 0 dL_law_433 rfl rfl ?_
        refine aw_iload_n 3 dL_law_434 rfl rfl ?_
        refine aw_iconst (v := (1 : Int32)) dL_law_435 (by decide) ?_
        refine aw_iadd dL_law_436 ?_
        refine aw_ti h.1 dL_law_437 ?_
        have h := h.2
        refine aw_bud (mc := 0 + bm) (ms := 0 + bs) (by omega) (by omega) ?_
        refine aw_callV (mc1 := 0) (ms1 := 0) (mc := bm) (ms := bs) (st := [.int r69]) (q := 42) (As := [.int (aw_sx G ((x3 + (1 : Int32))).toNatClampNeg)]) (vsc := [.int (aw_sx G ((x3 + (1 : Int32))).toNatClampNeg)]) lL_64 insX12_peek selX12_peek ⟨TX12, 50, rfl⟩ (by omega) (kX12_peek (d := 1) (by omega) h) [42, 43, 44, 45, 46, 47, 48, 49, 50, 51, 52, 53, 54, 55, 56, 57, 58, 59, 60, 61, 62, 63, 64, 65, 66] rfl rfl rfl rfl rfl dL_law_438 rfl rfl (fun _ _ hh => ?_)
        obtain ⟨r71, τ72, rfl, rfl, h⟩ := hh
        refine ⟨(wLW G (τ70, τ72)), [.int r71, .int r69], rfl, rfl, rfl, ?_⟩
        refine aw_icmp_eq 585 dL_law_441 (by decide) (fun c73 => ?_) (fun c73 => ?_)
        · have h := h.1 c73
          exact aw_L_law_585 hd hrec_18 h
        · have h := h.2 c73
          refine aw_iconst (v := (0 : Int32)) dL_law_444 (by decide) ?_
          exact h.elim
      have h := h.2 c68
      by_cases c74 : ((aw_sx G (x3).toNatClampNeg) &&& (31 : Int32)) = (12 : Int32)
      · refine aw_tableIn 446 (off := 413) dL_law_33 (by rw [c74]; decide) (by rw [c74]; decide) (by rw [c74]; rfl) (by decide) ?_
        have h := h.1 c74
        refine aw_aload_n 1 dL_law_446 rfl rfl ?_
        refine aw_aload_nS 0 dL_law_447 rfl rfl ?_
        refine aw_iload_n 3 dL_law_448 rfl rfl ?_
        refine aw_iconst (v := (1 : Int32)) dL_law_449 (by decide) ?_
        refine aw_iadd dL_law_450 ?_
        refine aw_ti h.1 dL_law_451 ?_
        have h := h.2
        refine aw_aload_nS 0 dL_law_452 rfl rfl ?_
        refine aw_iload_n 3 dL_law_453 rfl rfl ?_
        refine aw_iconst (v := (2 : Int32)) dL_law_454 (by decide) ?_
        refine aw_iadd dL_law_455 ?_
        refine aw_ti h.1 dL_law_456 ?_
        have h := h.2
        refine aw_bud (mc := 0 + bm) (ms := 0 + bs) (by omega) (by omega) ?_
        refine aw_callV (mc1 := 0) (ms1 := 0) (mc := bm) (ms := bs) (st := []) (q := 0) (As := [.int (aw_sx G ((x3 + (1 : Int32))).toNatClampNeg), .int (aw_sx G ((x3 + (2 : Int32))).toNatClampNeg)]) (vsc := [.int (aw_sx G ((x3 + (1 : Int32))).toNatClampNeg), .int (aw_sx G ((x3 + (2 : Int32))).toNatClampNeg)]) lL_65 insX11_set selX11_set ⟨TX11, 12, rfl⟩ (by omega) (kX11_set (d := 1) (by omega) h) [0, 1, 2, 3, 4, 5, 6, 7, 8, 9, 10, 11, 12, 13, 14, 15, 16, 17, 18, 19, 20, 21, 22, 23, 24, 25, 26, 27, 28, 29, 30, 31, 32, 33, 34, 35, 36, 37, 38, 39, 40, 41] rfl rfl rfl rfl rfl dL_law_457 rfl rfl (fun _ _ hh => ?_)
        obtain ⟨r75, τ76, rfl, rfl, h⟩ := hh
        refine ⟨(wLW G (τ76, σ.2)), [.int r75], rfl, rfl, rfl, ?_⟩
        refine aw_aload_n 2 dL_law_460 rfl rfl ?_
        refine aw_aload_nS 0 dL_law_461 rfl rfl ?_
        refine aw_iload_n 3 dL_law_462 rfl rfl ?_
        refine aw_iconst (v := (1 : Int32)) dL_law_463 (by decide) ?_
        refine aw_iadd dL_law_464 ?_
        refine aw_ti h.1 dL_law_465 ?_
        have h := h.2
        refine aw_aload_nS 0 dL_law_466 rfl rfl ?_
        refine aw_iload_n 3 dL_law_467 rfl rfl ?_
        refine aw_iconst (v := (2 : Int32)) dL_law_468 (by decide) ?_
        refine aw_iadd dL_law_469 ?_
        refine aw_ti h.1 dL_law_470 ?_
        have h := h.2
        refine aw_bud (mc := 0 + bm) (ms := 0 + bs) (by omega) (by omega) ?_
        refine aw_callV (mc1 := 0) (ms1 := 0) (mc := bm) (ms := bs) (st := [.int r75]) (q := 42) (As := [.int (aw_sx G ((x3 + (1 : Int32))).toNatClampNeg), .int (aw_sx G ((x3 + (2 : Int32))).toNatClampNeg)]) (vsc := [.int (aw_sx G ((x3 + (1 : Int32))).toNatClampNeg), .int (aw_sx G ((x3 + (2 : Int32))).toNatClampNeg)]) lL_68 insX12_set selX12_set ⟨TX12, 50, rfl⟩ (by omega) (kX12_set (d := 0) (by omega) h) [42, 43, 44, 45, 46, 47, 48, 49, 50, 51, 52, 53, 54, 55, 56, 57, 58, 59, 60, 61, 62, 63, 64, 65, 66] rfl rfl rfl rfl rfl dL_law_471 rfl rfl (fun _ _ hh => ?_)
        obtain ⟨r77, τ78, rfl, rfl, h⟩ := hh
        refine ⟨(wLW G (τ76, τ78)), [.int r77, .int r75], rfl, rfl, rfl, ?_⟩
        refine aw_icmp_eq 585 dL_law_474 (by decide) (fun c79 => ?_) (fun c79 => ?_)
        · have h := h.1 c79
          exact aw_L_law_585 hd hrec_18 h
        · have h := h.2 c79
          refine aw_iconst (v := (0 : Int32)) dL_law_477 (by decide) ?_
          exact h.elim
      have h := h.2 c74
      by_cases c80 : ((aw_sx G (x3).toNatClampNeg) &&& (31 : Int32)) = (13 : Int32)
      · refine aw_tableIn 479 (off := 446) dL_law_33 (by rw [c80]; decide) (by rw [c80]; decide) (by rw [c80]; rfl) (by decide) ?_
        have h := h.1 c80
        refine aw_aload_n 1 dL_law_479 rfl rfl ?_
        refine aw_aload_nS 0 dL_law_480 rfl rfl ?_
        refine aw_iload_n 3 dL_law_481 rfl rfl ?_
        refine aw_iconst (v := (1 : Int32)) dL_law_482 (by decide) ?_
        refine aw_iadd dL_law_483 ?_
        refine aw_ti h.1 dL_law_484 ?_
        have h := h.2
        refine aw_bud (mc := 0 + bm) (ms := 0 + bs) (by omega) (by omega) ?_
        refine aw_callV (mc1 := 0) (ms1 := 0) (mc := bm) (ms := bs) (st := []) (q := 0) (As := [.int (aw_sx G ((x3 + (1 : Int32))).toNatClampNeg)]) (vsc := [.int (aw_sx G ((x3 + (1 : Int32))).toNatClampNeg)]) lL_69 insX11_get selX11_get ⟨TX11, 12, rfl⟩ (by omega) (kX11_get (d := 1) (by omega) h) [0, 1, 2, 3, 4, 5, 6, 7, 8, 9, 10, 11, 12, 13, 14, 15, 16, 17, 18, 19, 20, 21, 22, 23, 24, 25, 26, 27, 28, 29, 30, 31, 32, 33, 34, 35, 36, 37, 38, 39, 40, 41] rfl rfl rfl rfl rfl dL_law_485 rfl rfl (fun _ _ hh => ?_)
        obtain ⟨r81, τ82, rfl, rfl, h⟩ := hh
        refine ⟨(wLW G (τ82, σ.2)), [.int r81], rfl, rfl, rfl, ?_⟩
        refine aw_aload_n 2 dL_law_488 rfl rfl ?_
        refine aw_aload_nS 0 dL_law_489 rfl rfl ?_
        refine aw_iload_n 3 dL_law_490 rfl rfl ?_
        refine aw_iconst (v := (1 : Int32)) dL_law_491 (by decide) ?_
        refine aw_iadd dL_law_492 ?_
        refine aw_ti h.1 dL_law_493 ?_
        have h := h.2
        refine aw_bud (mc := 0 + bm) (ms := 0 + bs) (by omega) (by omega) ?_
        refine aw_callV (mc1 := 0) (ms1 := 0) (mc := bm) (ms := bs) (st := [.int r81]) (q := 42) (As := [.int (aw_sx G ((x3 + (1 : Int32))).toNatClampNeg)]) (vsc := [.int (aw_sx G ((x3 + (1 : Int32))).toNatClampNeg)]) lL_72 insX12_get selX12_get ⟨TX12, 50, rfl⟩ (by omega) (kX12_get (d := 0) (by omega) h) [42, 43, 44, 45, 46, 47, 48, 49, 50, 51, 52, 53, 54, 55, 56, 57, 58, 59, 60, 61, 62, 63, 64, 65, 66] rfl rfl rfl rfl rfl dL_law_494 rfl rfl (fun _ _ hh => ?_)
        obtain ⟨r83, τ84, rfl, rfl, h⟩ := hh
        refine ⟨(wLW G (τ82, τ84)), [.int r83, .int r81], rfl, rfl, rfl, ?_⟩
        refine aw_icmp_eq 585 dL_law_497 (by decide) (fun c85 => ?_) (fun c85 => ?_)
        · have h := h.1 c85
          exact aw_L_law_585 hd hrec_18 h
        · have h := h.2 c85
          refine aw_iconst (v := (0 : Int32)) dL_law_500 (by decide) ?_
          exact h.elim
      have h := h.2 c80
      by_cases c86 : ((aw_sx G (x3).toNatClampNeg) &&& (31 : Int32)) = (14 : Int32)
      · refine aw_tableIn 502 (off := 469) dL_law_33 (by rw [c86]; decide) (by rw [c86]; decide) (by rw [c86]; rfl) (by decide) ?_
        have h := h.1 c86
        refine aw_aload_n 1 dL_law_502 rfl rfl ?_
        refine aw_aload_nS 0 dL_law_503 rfl rfl ?_
        refine aw_iload_n 3 dL_law_504 rfl rfl ?_
        refine aw_iconst (v := (1 : Int32)) dL_law_505 (by decide) ?_
        refine aw_iadd dL_law_506 ?_
        refine aw_ti h.1 dL_law_507 ?_
        have h := h.2
        refine aw_bud (mc := 0 + bm) (ms := 0 + bs) (by omega) (by omega) ?_
        refine aw_callV (mc1 := 0) (ms1 := 0) (mc := bm) (ms := bs) (st := []) (q := 0) (As := [.int (aw_sx G ((x3 + (1 : Int32))).toNatClampNeg)]) (vsc := [.int (aw_sx G ((x3 + (1 : Int32))).toNatClampNeg)]) lL_73 insX11_start selX11_start ⟨TX11, 12, rfl⟩ (by omega) (kX11_start (d := 2) (by omega) h) [0, 1, 2, 3, 4, 5, 6, 7, 8, 9, 10, 11, 12, 13, 14, 15, 16, 17, 18, 19, 20, 21, 22, 23, 24, 25, 26, 27, 28, 29, 30, 31, 32, 33, 34, 35, 36, 37, 38, 39, 40, 41] rfl rfl rfl rfl rfl dL_law_508 rfl rfl (fun _ _ hh => ?_)
        obtain ⟨r87, τ88, rfl, rfl, h⟩ := hh
        refine ⟨(wLW G (τ88, σ.2)), [.int r87], rfl, rfl, rfl, ?_⟩
        refine aw_aload_n 2 dL_law_511 rfl rfl ?_
        refine aw_aload_nS 0 dL_law_512 rfl rfl ?_
        refine aw_iload_n 3 dL_law_513 rfl rfl ?_
        refine aw_iconst (v := (1 : Int32)) dL_law_514 (by decide) ?_
        refine aw_iadd dL_law_515 ?_
        refine aw_ti h.1 dL_law_516 ?_
        have h := h.2
        refine aw_bud (mc := 0 + bm) (ms := 0 + bs) (by omega) (by omega) ?_
        refine aw_callV (mc1 := 0) (ms1 := 0) (mc := bm) (ms := bs) (st := [.int r87]) (q := 42) (As := [.int (aw_sx G ((x3 + (1 : Int32))).toNatClampNeg)]) (vsc := [.int (aw_sx G ((x3 + (1 : Int32))).toNatClampNeg)]) lL_77 insX12_start selX12_start ⟨TX12, 50, rfl⟩ (by omega) (kX12_start (d := 1) (by omega) h) [42, 43, 44, 45, 46, 47, 48, 49, 50, 51, 52, 53, 54, 55, 56, 57, 58, 59, 60, 61, 62, 63, 64, 65, 66] rfl rfl rfl rfl rfl dL_law_517 rfl rfl (fun _ _ hh => ?_)
        obtain ⟨r89, τ90, rfl, rfl, h⟩ := hh
        refine ⟨(wLW G (τ88, τ90)), [.int r89, .int r87], rfl, rfl, rfl, ?_⟩
        refine aw_icmp_eq 585 dL_law_520 (by decide) (fun c91 => ?_) (fun c91 => ?_)
        · have h := h.1 c91
          exact aw_L_law_585 hd hrec_18 h
        · have h := h.2 c91
          refine aw_iconst (v := (0 : Int32)) dL_law_523 (by decide) ?_
          exact h.elim
      have h := h.2 c86
      by_cases c92 : ((aw_sx G (x3).toNatClampNeg) &&& (31 : Int32)) = (15 : Int32)
      · refine aw_tableIn 525 (off := 492) dL_law_33 (by rw [c92]; decide) (by rw [c92]; decide) (by rw [c92]; rfl) (by decide) ?_
        have h := h.1 c92
        refine aw_aload_n 1 dL_law_525 rfl rfl ?_
        refine aw_aload_nS 0 dL_law_526 rfl rfl ?_
        refine aw_iload_n 3 dL_law_527 rfl rfl ?_
        refine aw_iconst (v := (1 : Int32)) dL_law_528 (by decide) ?_
        refine aw_iadd dL_law_529 ?_
        refine aw_ti h.1 dL_law_530 ?_
        have h := h.2
        refine aw_bud (mc := 0 + bm) (ms := 0 + bs) (by omega) (by omega) ?_
        refine aw_callV (mc1 := 0) (ms1 := 0) (mc := bm) (ms := bs) (st := []) (q := 0) (As := [.int (aw_sx G ((x3 + (1 : Int32))).toNatClampNeg)]) (vsc := [.int (aw_sx G ((x3 + (1 : Int32))).toNatClampNeg)]) lL_78 insX11_go selX11_go ⟨TX11, 12, rfl⟩ (by omega) (kX11_go (d := 6) (by omega) h) [0, 1, 2, 3, 4, 5, 6, 7, 8, 9, 10, 11, 12, 13, 14, 15, 16, 17, 18, 19, 20, 21, 22, 23, 24, 25, 26, 27, 28, 29, 30, 31, 32, 33, 34, 35, 36, 37, 38, 39, 40, 41] rfl rfl rfl rfl rfl dL_law_531 rfl rfl (fun _ _ hh => ?_)
        obtain ⟨r93, τ94, rfl, rfl, h⟩ := hh
        refine ⟨(wLW G (τ94, σ.2)), [.int r93], rfl, rfl, rfl, ?_⟩
        refine aw_aload_n 2 dL_law_534 rfl rfl ?_
        refine aw_aload_nS 0 dL_law_535 rfl rfl ?_
        refine aw_iload_n 3 dL_law_536 rfl rfl ?_
        refine aw_iconst (v := (1 : Int32)) dL_law_537 (by decide) ?_
        refine aw_iadd dL_law_538 ?_
        refine aw_ti h.1 dL_law_539 ?_
        have h := h.2
        refine aw_bud (mc := 0 + bm) (ms := 0 + bs) (by omega) (by omega) ?_
        refine aw_callV (mc1 := 0) (ms1 := 0) (mc := bm) (ms := bs) (st := [.int r93]) (q := 42) (As := [.int (aw_sx G ((x3 + (1 : Int32))).toNatClampNeg)]) (vsc := [.int (aw_sx G ((x3 + (1 : Int32))).toNatClampNeg)]) lL_81 insX12_go selX12_go ⟨TX12, 50, rfl⟩ (by omega) (kX12_go (d := 2) (by omega) h) [42, 43, 44, 45, 46, 47, 48, 49, 50, 51, 52, 53, 54, 55, 56, 57, 58, 59, 60, 61, 62, 63, 64, 65, 66] rfl rfl rfl rfl rfl dL_law_540 rfl rfl (fun _ _ hh => ?_)
        obtain ⟨r95, τ96, rfl, rfl, h⟩ := hh
        refine ⟨(wLW G (τ94, τ96)), [.int r95, .int r93], rfl, rfl, rfl, ?_⟩
        refine aw_icmp_eq 585 dL_law_543 (by decide) (fun c97 => ?_) (fun c97 => ?_)
        · have h := h.1 c97
          exact aw_L_law_585 hd hrec_18 h
        · have h := h.2 c97
          refine aw_iconst (v := (0 : Int32)) dL_law_546 (by decide) ?_
          exact h.elim
      have h := h.2 c92
      by_cases c98 : ((aw_sx G (x3).toNatClampNeg) &&& (31 : Int32)) = (16 : Int32)
      · refine aw_tableIn 548 (off := 515) dL_law_33 (by rw [c98]; decide) (by rw [c98]; decide) (by rw [c98]; rfl) (by decide) ?_
        have h := h.1 c98
        refine aw_aload_n 1 dL_law_548 rfl rfl ?_
        refine aw_aload_nS 0 dL_law_549 rfl rfl ?_
        refine aw_iload_n 3 dL_law_550 rfl rfl ?_
        refine aw_iconst (v := (1 : Int32)) dL_law_551 (by decide) ?_
        refine aw_iadd dL_law_552 ?_
        refine aw_ti h.1 dL_law_553 ?_
        have h := h.2
        refine aw_bud (mc := 0 + bm) (ms := 0 + bs) (by omega) (by omega) ?_
        refine aw_callV (mc1 := 0) (ms1 := 0) (mc := bm) (ms := bs) (st := []) (q := 0) (As := [.int (aw_sx G ((x3 + (1 : Int32))).toNatClampNeg)]) (vsc := [.int (aw_sx G ((x3 + (1 : Int32))).toNatClampNeg)]) lL_82 insX11_state selX11_state ⟨TX11, 12, rfl⟩ (by omega) (kX11_state (d := 1) (by omega) h) [0, 1, 2, 3, 4, 5, 6, 7, 8, 9, 10, 11, 12, 13, 14, 15, 16, 17, 18, 19, 20, 21, 22, 23, 24, 25, 26, 27, 28, 29, 30, 31, 32, 33, 34, 35, 36, 37, 38, 39, 40, 41] rfl rfl rfl rfl rfl dL_law_554 rfl rfl (fun _ _ hh => ?_)
        obtain ⟨r99, τ100, rfl, rfl, h⟩ := hh
        refine ⟨(wLW G (τ100, σ.2)), [.int r99], rfl, rfl, rfl, ?_⟩
        refine aw_aload_n 2 dL_law_557 rfl rfl ?_
        refine aw_aload_nS 0 dL_law_558 rfl rfl ?_
        refine aw_iload_n 3 dL_law_559 rfl rfl ?_
        refine aw_iconst (v := (1 : Int32)) dL_law_560 (by decide) ?_
        refine aw_iadd dL_law_561 ?_
        refine aw_ti h.1 dL_law_562 ?_
        have h := h.2
        refine aw_bud (mc := 0 + bm) (ms := 0 + bs) (by omega) (by omega) ?_
        refine aw_callV (mc1 := 0) (ms1 := 0) (mc := bm) (ms := bs) (st := [.int r99]) (q := 42) (As := [.int (aw_sx G ((x3 + (1 : Int32))).toNatClampNeg)]) (vsc := [.int (aw_sx G ((x3 + (1 : Int32))).toNatClampNeg)]) lL_85 insX12_state selX12_state ⟨TX12, 50, rfl⟩ (by omega) (kX12_state (d := 0) (by omega) h) [42, 43, 44, 45, 46, 47, 48, 49, 50, 51, 52, 53, 54, 55, 56, 57, 58, 59, 60, 61, 62, 63, 64, 65, 66] rfl rfl rfl rfl rfl dL_law_563 rfl rfl (fun _ _ hh => ?_)
        obtain ⟨r101, τ102, rfl, rfl, h⟩ := hh
        refine ⟨(wLW G (τ100, τ102)), [.int r101, .int r99], rfl, rfl, rfl, ?_⟩
        refine aw_icmp_eq 585 dL_law_566 (by decide) (fun c103 => ?_) (fun c103 => ?_)
        · have h := h.1 c103
          exact aw_L_law_585 hd hrec_18 h
        · have h := h.2 c103
          refine aw_iconst (v := (0 : Int32)) dL_law_569 (by decide) ?_
          exact h.elim
      have h := h.2 c98
      by_cases c104 : ((aw_sx G (x3).toNatClampNeg) &&& (31 : Int32)) = (17 : Int32)
      · refine aw_tableIn 571 (off := 538) dL_law_33 (by rw [c104]; decide) (by rw [c104]; decide) (by rw [c104]; rfl) (by decide) ?_
        have h := h.1 c104
        refine aw_aload_n 1 dL_law_571 rfl rfl ?_
        refine aw_bud (mc := 0 + bm) (ms := 0 + bs) (by omega) (by omega) ?_
        refine aw_callV (mc1 := 0) (ms1 := 0) (mc := bm) (ms := bs) (st := []) (q := 0) (As := []) (vsc := []) lL_86 insX11_trail selX11_trail ⟨TX11, 12, rfl⟩ (by omega) (kX11_trail (d := 1) (by omega) h) [0, 1, 2, 3, 4, 5, 6, 7, 8, 9, 10, 11, 12, 13, 14, 15, 16, 17, 18, 19, 20, 21, 22, 23, 24, 25, 26, 27, 28, 29, 30, 31, 32, 33, 34, 35, 36, 37, 38, 39, 40, 41] rfl rfl rfl rfl rfl dL_law_572 rfl rfl (fun _ _ hh => ?_)
        obtain ⟨r105, τ106, rfl, rfl, h⟩ := hh
        refine ⟨(wLW G (τ106, σ.2)), [.long r105], rfl, rfl, rfl, ?_⟩
        refine aw_aload_n 2 dL_law_575 rfl rfl ?_
        refine aw_bud (mc := 0 + bm) (ms := 0 + bs) (by omega) (by omega) ?_
        refine aw_callV (mc1 := 0) (ms1 := 0) (mc := bm) (ms := bs) (st := [.long r105]) (q := 42) (As := []) (vsc := []) lL_90 insX12_trail selX12_trail ⟨TX12, 50, rfl⟩ (by omega) (kX12_trail (d := 0) (by omega) h) [42, 43, 44, 45, 46, 47, 48, 49, 50, 51, 52, 53, 54, 55, 56, 57, 58, 59, 60, 61, 62, 63, 64, 65, 66] rfl rfl rfl rfl rfl dL_law_576 rfl rfl (fun _ _ hh => ?_)
        obtain ⟨r107, τ108, rfl, rfl, h⟩ := hh
        refine ⟨(wLW G (τ106, τ108)), [.long r107, .long r105], rfl, rfl, rfl, ?_⟩
        refine aw_lcmp dL_law_579 ?_
        refine aw_if_eq 585 dL_law_580 (by decide) (fun c109 => ?_) (fun c109 => ?_)
        · have h := h.1 c109
          exact aw_L_law_585 hd hrec_18 h
        · have h := h.2 c109
          refine aw_iconst (v := (0 : Int32)) dL_law_583 (by decide) ?_
          exact h.elim
      have h := h.2 c104
      refine aw_tableOut 585 dL_law_33 (by have := lv_neT (a := 0) c1 rfl; have := lv_neT (a := 1) c7 rfl; have := lv_neT (a := 2) c14 rfl; have := lv_neT (a := 3) c20 rfl; have := lv_neT (a := 4) c26 rfl; have := lv_neT (a := 5) c32 rfl; have := lv_neT (a := 6) c38 rfl; have := lv_neT (a := 7) c44 rfl; have := lv_neT (a := 8) c50 rfl; have := lv_neT (a := 9) c56 rfl; have := lv_neT (a := 10) c62 rfl; have := lv_neT (a := 11) c68 rfl; have := lv_neT (a := 12) c74 rfl; have := lv_neT (a := 13) c80 rfl; have := lv_neT (a := 14) c86 rfl; have := lv_neT (a := 15) c92 rfl; have := lv_neT (a := 16) c98 rfl; have := lv_neT (a := 17) c104 rfl; omega) (by decide) ?_
      exact aw_L_law_585 hd hrec_18 h
end WalkLaw
