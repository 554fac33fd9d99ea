section WalkX12
theorem aw_astoreS {G : aw_G} {M : aw_M} {d mc ms n0 pc : Nat} {lv : List (Nat × Value)} {st : List Value} {w : aw_W} {post : Option Value → aw_W → Prop} {i : Nat} {x : Nat} {lv' : List (Nat × Value)} (hd : decode M.2.1 pc = .ok (.astore i, 2)) (hn : i < M.2.2.1) (hv : (i, Value.retAddr x) :: lv.filter (aw_f1 i) = lv') (kk : AW G M d mc ms n0 post (pc + 2) lv' st w) : AW G M d mc ms n0 post pc lv (.retAddr x :: st) w := by
  intro p e R s m args below meth c A ad0 ad H locs cells slots ls X h0 h1 h2 h3 hP hS hA hE hl
  exact lv_astore X.1 X.2.1 hd hl hn (aw_lv1 hv) (fun ls hl => kk p e R s m args below meth c A ad0 ad H locs cells slots ls X h0 h1 h2 h3 hP hS hA hE hl)
def wp_X12_feed_71 (rec_18 : WSX12 × Int32 × Int32 × Int32 × Int32 × Int32 × Int32 → Prop) (post : Int32 → WSX12 → Prop) (σ : WSX12) (x1 : Int32) (x2 : Int32) (x3 : Int32) (x4 : Int32) (x5 : Int32) (x6 : Int32) (s0 : Int32) : Prop :=
  (vp_in σ.1.1.1.1.2.1 3000 ∧ ∀ y1 : Nat → Int32, y1 = upd σ.1.1.1.1.1 (σ.1.1.1.1.2.1).toNatClampNeg ((s0 >>> (((24 : Int32) - ((8 : Int32) * (x6 - x6 / (4 : Int32) * (4 : Int32)))) &&& 31)) &&& (255 : Int32)) → (∀ y2 : Int32, y2 = (σ.1.1.1.1.2.1 + (1 : Int32)) → rec_18 ((((((y1, (y2, σ.1.1.1.1.2.2)), σ.1.1.1.2), σ.1.1.2), σ.1.2), σ.2), x1, x2, x3, x4, x5, (x6 + 1))))
theorem aw_X12_feed_71 {G : aw_G} {d : Nat} (hd : 0 ≤ d) {rec_18 : WSX12 × Int32 × Int32 × Int32 × Int32 × Int32 × Int32 → Prop} {post : Int32 → WSX12 → Prop} (hrec_18 : ∀ a : WSX12 × Int32 × Int32 × Int32 × Int32 × Int32 × Int32, rec_18 a → AW G MX12_feed d 0 0 25 (aw_pi (wX12 G) post) 18 [(0, .ref 0), (1, .int a.2.1), (2, .int a.2.2.1), (3, .int a.2.2.2.1), (4, .int a.2.2.2.2.1), (5, .int a.2.2.2.2.2.1), (6, .int a.2.2.2.2.2.2)] [] (wX12 G a.1)) {σ : WSX12} {x1 : Int32} {x2 : Int32} {x3 : Int32} {x4 : Int32} {x5 : Int32} {x6 : Int32} {s0 : Int32} (h : wp_X12_feed_71 rec_18 post σ x1 x2 x3 x4 x5 x6 s0) : AW G MX12_feed d 0 0 25 (aw_pi (wX12 G) post) 71 [(0, .ref 0), (1, .int x1), (2, .int x2), (3, .int x3), (4, .int x4), (5, .int x5), (6, .int x6)] [.int s0] (wX12 G σ) := by
  unfold wp_X12_feed_71 at h
  refine aw_istore (lv' := [(7, .int s0), (0, .ref 0), (1, .int x1), (2, .int x2), (3, .int x3), (4, .int x4), (5, .int x5), (6, .int x6)]) dX12_feed_71 (by decide) rfl ?_
  refine aw_aload_n 1 dX12_feed_73 rfl rfl ?_
  refine aw_getf (v := .ref 1) fX12_7 0 rfl rfl dX12_feed_74 ?_
  refine aw_aload_n 1 dX12_feed_77 rfl rfl ?_
  refine aw_getf (v := .int σ.1.1.1.1.2.1) fX12_90 0 rfl rfl dX12_feed_78 ?_
  refine aw_iload 0 dX12_feed_81 rfl ?_
  refine aw_bipush (v := (24 : Int32)) dX12_feed_83 (by decide) ?_
  refine aw_bipush (v := (8 : Int32)) dX12_feed_85 (by decide) ?_
  refine aw_iload 7 dX12_feed_87 rfl ?_
  refine aw_iconst (v := (4 : Int32)) dX12_feed_89 (by decide) ?_
  refine aw_irem dX12_feed_90 (by decide) ?_
  refine aw_imul dX12_feed_91 ?_
  refine aw_isub dX12_feed_92 ?_
  refine aw_ishr dX12_feed_93 ?_
  refine aw_sipush (v := (255 : Int32)) dX12_feed_94 (by decide) ?_
  refine aw_iand dX12_feed_97 ?_
  refine aw_iast 1 (n := 3000) (f := σ.1.1.1.1.1) (w' := fun y1 => (wX12 G (((((y1, σ.1.1.1.1.2), σ.1.1.1.2), σ.1.1.2), σ.1.2), σ.2))) rfl h.1 (fun _ => rfl) dX12_feed_98 (fun y1 ey1 => ?_)
  have h := h.2 y1 ey1
  refine aw_aload_n 1 dX12_feed_99 rfl rfl ?_
  refine aw_dup dX12_feed_100 rfl ?_
  refine aw_getf (v := .int σ.1.1.1.1.2.1) fX12_90 0 rfl rfl dX12_feed_101 ?_
  refine aw_iconst (v := (1 : Int32)) dX12_feed_104 (by decide) ?_
  refine aw_iadd dX12_feed_105 ?_
  refine aw_topi (fun y2 ey2 => ?_)
  have h := h y2 ey2
  refine aw_putf fX12_90 0 (w' := (wX12 G (((((y1, (y2, σ.1.1.1.1.2.2)), σ.1.1.1.2), σ.1.1.2), σ.1.2), σ.2))) rfl (fun _ => ⟨rfl, rfl⟩) (Nat.le_of_ble_eq_true rfl) rfl dX12_feed_106 ?_
  refine aw_iinc 7 (v := (x6 + 1)) (lv' := [(6, .int (x6 + 1)), (7, .int s0), (0, .ref 0), (1, .int x1), (2, .int x2), (3, .int x3), (4, .int x4), (5, .int x5)]) dX12_feed_109 rfl rfl (by decide) rfl ?_
  refine aw_goto 18 dX12_feed_112 (by decide) ?_
  refine aw_lvsub (lv' := [(0, .ref 0), (1, .int x1), (2, .int x2), (3, .int x3), (4, .int x4), (5, .int x5), (6, .int (x6 + 1))]) [2, 3, 4, 5, 6, 7, 0] rfl ?_
  exact hrec_18 ((((((y1, (y2, σ.1.1.1.1.2.2)), σ.1.1.1.2), σ.1.1.2), σ.1.2), σ.2), x1, x2, x3, x4, x5, (x6 + 1)) h
def wb_X12_feed_18  (post : Int32 → WSX12 → Prop) (rec_18 : WSX12 × Int32 × Int32 × Int32 × Int32 × Int32 × Int32 → Prop) (σ : WSX12) (x1 : Int32) (x2 : Int32) (x3 : Int32) (x4 : Int32) (x5 : Int32) (x6 : Int32) : Prop :=
  (((20 : Int32) ≤ x6 → post σ.1.1.1.1.2.1 σ) ∧ (¬ (20 : Int32) ≤ x6 → (((4 : Int32) ≤ x6 → (((8 : Int32) ≤ x6 → (((12 : Int32) ≤ x6 → (((16 : Int32) ≤ x6 → wp_X12_feed_71 rec_18 post σ x1 x2 x3 x4 x5 x6 x5) ∧ (¬ (16 : Int32) ≤ x6 → wp_X12_feed_71 rec_18 post σ x1 x2 x3 x4 x5 x6 x4))) ∧ (¬ (12 : Int32) ≤ x6 → wp_X12_feed_71 rec_18 post σ x1 x2 x3 x4 x5 x6 x3))) ∧ (¬ (8 : Int32) ≤ x6 → wp_X12_feed_71 rec_18 post σ x1 x2 x3 x4 x5 x6 x2))) ∧ (¬ (4 : Int32) ≤ x6 → wp_X12_feed_71 rec_18 post σ x1 x2 x3 x4 x5 x6 x1))))
def wp_X12_feed_18  (post : Int32 → WSX12 → Prop) (n : Nat) (σ : WSX12) (x1 : Int32) (x2 : Int32) (x3 : Int32) (x4 : Int32) (x5 : Int32) (x6 : Int32) : Prop := aw_loop (fun r (a : WSX12 × Int32 × Int32 × Int32 × Int32 × Int32 × Int32) => wb_X12_feed_18  post r a.1 a.2.1 a.2.2.1 a.2.2.2.1 a.2.2.2.2.1 a.2.2.2.2.2.1 a.2.2.2.2.2.2) n (σ, x1, x2, x3, x4, x5, x6)
theorem aw_X12_feed_18 {G : aw_G} {d : Nat} (hd : 0 ≤ d) {post : Int32 → WSX12 → Prop}  : ∀ (n : Nat) (σ : WSX12) (x1 : Int32) (x2 : Int32) (x3 : Int32) (x4 : Int32) (x5 : Int32) (x6 : Int32), wp_X12_feed_18  post n σ x1 x2 x3 x4 x5 x6 → AW G MX12_feed d 0 0 25 (aw_pi (wX12 G) post) 18 [(0, .ref 0), (1, .int x1), (2, .int x2), (3, .int x3), (4, .int x4), (5, .int x5), (6, .int x6)] [] (wX12 G σ) := by
  intro n
  induction n with
  | zero => intro σ x1 x2 x3 x4 x5 x6 h; exact h.elim
  | succ n ih =>
    intro σ x1 x2 x3 x4 x5 x6 h
    have hrec_18 : ∀ a : WSX12 × Int32 × Int32 × Int32 × Int32 × Int32 × Int32, aw_loop (fun r (a : WSX12 × Int32 × Int32 × Int32 × Int32 × Int32 × Int32) => wb_X12_feed_18  post r a.1 a.2.1 a.2.2.1 a.2.2.2.1 a.2.2.2.2.1 a.2.2.2.2.2.1 a.2.2.2.2.2.2) n a → AW G MX12_feed d 0 0 25 (aw_pi (wX12 G) post) 18 [(0, .ref 0), (1, .int a.2.1), (2, .int a.2.2.1), (3, .int a.2.2.2.1), (4, .int a.2.2.2.2.1), (5, .int a.2.2.2.2.2.1), (6, .int a.2.2.2.2.2.2)] [] (wX12 G a.1) := fun a h => ih a.1 a.2.1 a.2.2.1 a.2.2.2.1 a.2.2.2.2.1 a.2.2.2.2.2.1 a.2.2.2.2.2.2 h
    have h : wb_X12_feed_18  post (aw_loop (fun r (a : WSX12 × Int32 × Int32 × Int32 × Int32 × Int32 × Int32) => wb_X12_feed_18  post r a.1 a.2.1 a.2.2.1 a.2.2.2.1 a.2.2.2.2.1 a.2.2.2.2.2.1 a.2.2.2.2.2.2) n) σ x1 x2 x3 x4 x5 x6 := h
    unfold wb_X12_feed_18 at h
    refine aw_iload 6 dX12_feed_18 rfl ?_
    refine aw_bipush (v := (20 : Int32)) dX12_feed_20 (by decide) ?_
    refine aw_icmp_ge 115 dX12_feed_22 (by decide) (fun c7 => ?_) (fun c7 => ?_)
    · have h := h.1 c7
      refine aw_aload_n 0 dX12_feed_115 rfl rfl ?_
      refine aw_getf (v := .int σ.1.1.1.1.2.1) fX12_90 0 rfl rfl dX12_feed_116 ?_
      exact aw_iret rfl dX12_feed_119 ⟨_, σ, rfl, rfl, h⟩
    · have h := h.2 c7
      refine aw_iload 6 dX12_feed_25 rfl ?_
      refine aw_iconst (v := (4 : Int32)) dX12_feed_27 (by decide) ?_
      refine aw_icmp_ge 35 dX12_feed_28 (by decide) (fun c6 => ?_) (fun c6 => ?_)
      · have h := h.1 c6
        refine aw_iload 6 dX12_feed_35 rfl ?_
        refine aw_bipush (v := (8 : Int32)) dX12_feed_37 (by decide) ?_
        refine aw_icmp_ge 46 dX12_feed_39 (by decide) (fun c5 => ?_) (fun c5 => ?_)
        · have h := h.1 c5
          refine aw_iload 6 dX12_feed_46 rfl ?_
          refine aw_bipush (v := (12 : Int32)) dX12_feed_48 (by decide) ?_
          refine aw_icmp_ge 57 dX12_feed_50 (by decide) (fun c4 => ?_) (fun c4 => ?_)
          · have h := h.1 c4
            refine aw_iload 6 dX12_feed_57 rfl ?_
            refine aw_bipush (v := (16 : Int32)) dX12_feed_59 (by decide) ?_
            refine aw_icmp_ge 69 dX12_feed_61 (by decide) (fun c3 => ?_) (fun c3 => ?_)
            · have h := h.1 c3
              refine aw_iload 5 dX12_feed_69 rfl ?_
              exact aw_X12_feed_71 hd hrec_18 h
            · have h := h.2 c3
              refine aw_iload 4 dX12_feed_64 rfl ?_
              refine aw_goto 71 dX12_feed_66 (by decide) ?_
              exact aw_X12_feed_71 hd hrec_18 h
          · have h := h.2 c4
            refine aw_iload_n 3 dX12_feed_53 rfl rfl ?_
            refine aw_goto 71 dX12_feed_54 (by decide) ?_
            exact aw_X12_feed_71 hd hrec_18 h
        · have h := h.2 c5
          refine aw_iload_n 2 dX12_feed_42 rfl rfl ?_
          refine aw_goto 71 dX12_feed_43 (by decide) ?_
          exact aw_X12_feed_71 hd hrec_18 h
      · have h := h.2 c6
        refine aw_iload_n 1 dX12_feed_31 rfl rfl ?_
        refine aw_goto 71 dX12_feed_32 (by decide) ?_
        exact aw_X12_feed_71 hd hrec_18 h
def wp_X12_feed (σ : WSX12) (a1 : Int32) (a2 : Int32) (a3 : Int32) (a4 : Int32) (a5 : Int32) (post : Int32 → WSX12 → Prop) : Prop :=
  (((σ.1.1.1.1.2.1 + (20 : Int32)) ≤ (3000 : Int32) → (∃ n8, wp_X12_feed_18  post n8 σ a1 a2 a3 a4 a5 (0 : Int32))) ∧ (¬ (σ.1.1.1.1.2.1 + (20 : Int32)) ≤ (3000 : Int32) → post ((-1) : Int32) σ))
theorem kX12_feed {G : aw_G} {d : Nat} (hd : 0 ≤ d) {σ : WSX12} {a1 : Int32} {a2 : Int32} {a3 : Int32} {a4 : Int32} {a5 : Int32} {post : Int32 → WSX12 → Prop} (h : wp_X12_feed σ a1 a2 a3 a4 a5 post) : AC G MX12_feed d 0 0 25 [.ref 0, .int a1, .int a2, .int a3, .int a4, .int a5] (wX12 G σ) (aw_pi (wX12 G) post) := by
  refine AC.of (lv := [(0, .ref 0), (1, .int a1), (2, .int a2), (3, .int a3), (4, .int a4), (5, .int a5)]) (by decide) (Nat.le_of_ble_eq_true rfl) rfl ?_
  unfold wp_X12_feed at h
  refine aw_aload_n 0 dX12_feed_0 rfl rfl ?_
  refine aw_getf (v := .int σ.1.1.1.1.2.1) fX12_90 0 rfl rfl dX12_feed_1 ?_
  refine aw_bipush (v := (20 : Int32)) dX12_feed_4 (by decide) ?_
  refine aw_iadd dX12_feed_6 ?_
  refine aw_sipush (v := (3000 : Int32)) dX12_feed_7 (by decide) ?_
  refine aw_icmp_le 15 dX12_feed_10 (by decide) (fun c9 => ?_) (fun c9 => ?_)
  · have h := h.1 c9
    refine aw_iconst (v := (0 : Int32)) dX12_feed_15 (by decide) ?_
    refine aw_istore (lv' := [(6, .int (0 : Int32)), (0, .ref 0), (1, .int a1), (2, .int a2), (3, .int a3), (4, .int a4), (5, .int a5)]) dX12_feed_16 (by decide) rfl ?_
    refine aw_lvsub (lv' := [(0, .ref 0), (1, .int a1), (2, .int a2), (3, .int a3), (4, .int a4), (5, .int a5), (6, .int (0 : Int32))]) [1, 2, 3, 4, 5, 6, 0] rfl ?_
    obtain ⟨n8, h⟩ := h
    exact aw_X12_feed_18 hd  n8 σ a1 a2 a3 a4 a5 (0 : Int32) h
  · have h := h.2 c9
    refine aw_iconst (v := ((-1) : Int32)) dX12_feed_13 (by decide) ?_
    exact aw_iret rfl dX12_feed_14 ⟨_, σ, rfl, rfl, h⟩
def wp_X12_byteAt (σ : WSX12) (a1 : Int32) (post : Int32 → WSX12 → Prop) : Prop :=
  ((σ.1.1.1.1.2.2 ≤ a1 → post (0 : Int32) σ) ∧ (¬ σ.1.1.1.1.2.2 ≤ a1 → (vp_in a1 3000 ∧ post (σ.2.2.1.2.1 (a1).toNatClampNeg) σ)))
theorem kX12_byteAt {G : aw_G} {d : Nat} (hd : 0 ≤ d) {σ : WSX12} {a1 : Int32} {post : Int32 → WSX12 → Prop} (h : wp_X12_byteAt σ a1 post) : AC G MX12_byteAt d 0 0 25 [.ref 0, .int a1] (wX12 G σ) (aw_pi (wX12 G) post) := by
  refine AC.of (lv := [(0, .ref 0), (1, .int a1)]) (by decide) (Nat.le_of_ble_eq_true rfl) rfl ?_
  unfold wp_X12_byteAt at h
  refine aw_iload_n 1 dX12_byteAt_0 rfl rfl ?_
  refine aw_aload_n 0 dX12_byteAt_1 rfl rfl ?_
  refine aw_getf (v := .int σ.1.1.1.1.2.2) fX12_93 0 rfl rfl dX12_byteAt_2 ?_
  refine aw_icmp_ge 17 dX12_byteAt_5 (by decide) (fun c1 => ?_) (fun c1 => ?_)
  · have h := h.1 c1
    refine aw_iconst (v := (0 : Int32)) dX12_byteAt_17 (by decide) ?_
    exact aw_iret rfl dX12_byteAt_18 ⟨_, σ, rfl, rfl, h⟩
  · have h := h.2 c1
    refine aw_aload_n 0 dX12_byteAt_8 rfl rfl ?_
    refine aw_getf (v := .ref 20) fX12_75 0 rfl rfl dX12_byteAt_9 ?_
    refine aw_iload_n 1 dX12_byteAt_12 rfl rfl ?_
    refine aw_iald 20 (n := 3000) (f := σ.2.2.1.2.1) rfl h.1 dX12_byteAt_13 ?_
    have h := h.2
    refine aw_goto 18 dX12_byteAt_14 (by decide) ?_
    exact aw_iret rfl dX12_byteAt_18 ⟨_, σ, rfl, rfl, h⟩
def wp_X12_isLetter_12  (post : Int32 → Unit → Prop) (x0 : Int32) : Prop :=
  ((x0 < (65 : Int32) → post (0 : Int32) ()) ∧ (¬ x0 < (65 : Int32) → (((90 : Int32) < x0 → post (0 : Int32) ()) ∧ (¬ (90 : Int32) < x0 → post (1 : Int32) ()))))
theorem aw_X12_isLetter_12 {G : aw_G} {d : Nat} (hd : 0 ≤ d) {post : Int32 → Unit → Prop}  {x0 : Int32} (h : wp_X12_isLetter_12  post x0) : AW G MX12_isLetter d 0 0 0 (aw_pi (fun _ : Unit => []) post) 12 [(0, .int x0)] [] [] := by
  unfold wp_X12_isLetter_12 at h
  refine aw_iload_n 0 dX12_isLetter_12 rfl rfl ?_
  refine aw_bipush (v := (65 : Int32)) dX12_isLetter_13 (by decide) ?_
  refine aw_icmp_lt 28 dX12_isLetter_15 (by decide) (fun c2 => ?_) (fun c2 => ?_)
  · have h := h.1 c2
    refine aw_iconst (v := (0 : Int32)) dX12_isLetter_28 (by decide) ?_
    exact aw_zret rfl rfl dX12_isLetter_29 ⟨_, (), rfl, rfl, h⟩
  · have h := h.2 c2
    refine aw_iload_n 0 dX12_isLetter_18 rfl rfl ?_
    refine aw_bipush (v := (90 : Int32)) dX12_isLetter_19 (by decide) ?_
    refine aw_icmp_gt 28 dX12_isLetter_21 (by decide) (fun c1 => ?_) (fun c1 => ?_)
    · have h := h.1 c1
      refine aw_iconst (v := (0 : Int32)) dX12_isLetter_28 (by decide) ?_
      exact aw_zret rfl rfl dX12_isLetter_29 ⟨_, (), rfl, rfl, h⟩
    · have h := h.2 c1
      refine aw_iconst (v := (1 : Int32)) dX12_isLetter_24 (by decide) ?_
      refine aw_goto 29 dX12_isLetter_25 (by decide) ?_
      exact aw_zret rfl rfl dX12_isLetter_29 ⟨_, (), rfl, rfl, h⟩
def wp_X12_isLetter (a0 : Int32) (post : Int32 → Unit → Prop) : Prop :=
  ((a0 < (97 : Int32) → wp_X12_isLetter_12  post a0) ∧ (¬ a0 < (97 : Int32) → ((a0 ≤ (122 : Int32) → post (1 : Int32) ()) ∧ (¬ a0 ≤ (122 : Int32) → wp_X12_isLetter_12  post a0))))
theorem kX12_isLetter {G : aw_G} {d : Nat} (hd : 0 ≤ d) {a0 : Int32} {post : Int32 → Unit → Prop} (h : wp_X12_isLetter a0 post) : AC G MX12_isLetter d 0 0 0 [.int a0] [] (aw_pi (fun _ : Unit => []) post) := by
  refine AC.of (lv := [(0, .int a0)]) (by decide) (Nat.le_of_ble_eq_true rfl) rfl ?_
  unfold wp_X12_isLetter at h
  refine aw_iload_n 0 dX12_isLetter_0 rfl rfl ?_
  refine aw_bipush (v := (97 : Int32)) dX12_isLetter_1 (by decide) ?_
  refine aw_icmp_lt 12 dX12_isLetter_3 (by decide) (fun c4 => ?_) (fun c4 => ?_)
  · have h := h.1 c4
    exact aw_X12_isLetter_12 hd  h
  · have h := h.2 c4
    refine aw_iload_n 0 dX12_isLetter_6 rfl rfl ?_
    refine aw_bipush (v := (122 : Int32)) dX12_isLetter_7 (by decide) ?_
    refine aw_icmp_le 24 dX12_isLetter_9 (by decide) (fun c3 => ?_) (fun c3 => ?_)
    · have h := h.1 c3
      refine aw_iconst (v := (1 : Int32)) dX12_isLetter_24 (by decide) ?_
      refine aw_goto 29 dX12_isLetter_25 (by decide) ?_
      exact aw_zret rfl rfl dX12_isLetter_29 ⟨_, (), rfl, rfl, h⟩
    · have h := h.2 c3
      exact aw_X12_isLetter_12 hd  h
def wp_X12_isDigit (a0 : Int32) (post : Int32 → Unit → Prop) : Prop :=
  ((a0 < (48 : Int32) → post (0 : Int32) ()) ∧ (¬ a0 < (48 : Int32) → (((57 : Int32) < a0 → post (0 : Int32) ()) ∧ (¬ (57 : Int32) < a0 → post (1 : Int32) ()))))
theorem kX12_isDigit {G : aw_G} {d : Nat} (hd : 0 ≤ d) {a0 : Int32} {post : Int32 → Unit → Prop} (h : wp_X12_isDigit a0 post) : AC G MX12_isDigit d 0 0 0 [.int a0] [] (aw_pi (fun _ : Unit => []) post) := by
  refine AC.of (lv := [(0, .int a0)]) (by decide) (Nat.le_of_ble_eq_true rfl) rfl ?_
  unfold wp_X12_isDigit at h
  refine aw_iload_n 0 dX12_isDigit_0 rfl rfl ?_
  refine aw_bipush (v := (48 : Int32)) dX12_isDigit_1 (by decide) ?_
  refine aw_icmp_lt 16 dX12_isDigit_3 (by decide) (fun c2 => ?_) (fun c2 => ?_)
  · have h := h.1 c2
    refine aw_iconst (v := (0 : Int32)) dX12_isDigit_16 (by decide) ?_
    exact aw_zret rfl rfl dX12_isDigit_17 ⟨_, (), rfl, rfl, h⟩
  · have h := h.2 c2
    refine aw_iload_n 0 dX12_isDigit_6 rfl rfl ?_
    refine aw_bipush (v := (57 : Int32)) dX12_isDigit_7 (by decide) ?_
    refine aw_icmp_gt 16 dX12_isDigit_9 (by decide) (fun c1 => ?_) (fun c1 => ?_)
    · have h := h.1 c1
      refine aw_iconst (v := (0 : Int32)) dX12_isDigit_16 (by decide) ?_
      exact aw_zret rfl rfl dX12_isDigit_17 ⟨_, (), rfl, rfl, h⟩
    · have h := h.2 c1
      refine aw_iconst (v := (1 : Int32)) dX12_isDigit_12 (by decide) ?_
      refine aw_goto 17 dX12_isDigit_13 (by decide) ?_
      exact aw_zret rfl rfl dX12_isDigit_17 ⟨_, (), rfl, rfl, h⟩
def wp_X12_is_51 (rec_18 : WSX12 × Int32 × Int32 × Nat × Int32 × Int32 → Prop) (post : Int32 → WSX12 → Prop) (σ : WSX12) (x1 : Int32) (x2 : Int32) (x3 : Nat) (x5 : Int32) (s0 : Int32) : Prop :=
  rec_18 (σ, x1, x2, x3, s0, (x5 + 1))
theorem aw_X12_is_51 {G : aw_G} {d : Nat} (hd : 4 ≤ d) {rec_18 : WSX12 × Int32 × Int32 × Nat × Int32 × Int32 → Prop} {post : Int32 → WSX12 → Prop} (hrec_18 : ∀ a : WSX12 × Int32 × Int32 × Nat × Int32 × Int32, rec_18 a → AW G MX12_is d 0 0 25 (aw_pi (wX12 G) post) 18 [(0, .ref 0), (1, .int a.2.1), (2, .int a.2.2.1), (3, .retAddr a.2.2.2.1), (4, .int a.2.2.2.2.1), (5, .int a.2.2.2.2.2)] [] (wX12 G a.1)) {σ : WSX12} {x1 : Int32} {x2 : Int32} {x3 : Nat} {x5 : Int32} {s0 : Int32} (h : wp_X12_is_51 rec_18 post σ x1 x2 x3 x5 s0) : AW G MX12_is d 0 0 25 (aw_pi (wX12 G) post) 51 [(0, .ref 0), (1, .int x1), (2, .int x2), (3, .retAddr x3), (5, .int x5)] [.int s0] (wX12 G σ) := by
  unfold wp_X12_is_51 at h
  refine aw_istore (lv' := [(4, .int s0), (0, .ref 0), (1, .int x1), (2, .int x2), (3, .retAddr x3), (5, .int x5)]) dX12_is_51 (by decide) rfl ?_
  refine aw_iinc 5 (v := (x5 + 1)) (lv' := [(5, .int (x5 + 1)), (4, .int s0), (0, .ref 0), (1, .int x1), (2, .int x2), (3, .retAddr x3)]) dX12_is_53 rfl rfl (by decide) rfl ?_
  refine aw_goto 18 dX12_is_56 (by decide) ?_
  refine aw_lvsub (lv' := [(0, .ref 0), (1, .int x1), (2, .int x2), (3, .retAddr x3), (4, .int s0), (5, .int (x5 + 1))]) [2, 3, 4, 5, 1, 0] rfl ?_
  exact hrec_18 (σ, x1, x2, x3, s0, (x5 + 1)) h
def wb_X12_is_18  (post : Int32 → WSX12 → Prop) (rec_18 : WSX12 × Int32 × Int32 × Nat × Int32 × Int32 → Prop) (σ : WSX12) (x1 : Int32) (x2 : Int32) (x3 : Nat) (x4 : Int32) (x5 : Int32) : Prop :=
  ((x2 ≤ x5 → (aw_bz x4 ∧ post x4 σ)) ∧ (¬ x2 ≤ x5 → ((x4 = 0 → (aw_bz x4 ∧ post x4 σ)) ∧ (¬ x4 = 0 → wp_X12_byteAt σ (x1 + x5) (fun r2 τ3 => (x3 < aw_nS ∧ (vp_in x5 (aw_lenS.getD x3 0) ∧ ((¬ r2 = (aw_ch x3 x5) → wp_X12_is_51 rec_18 post τ3 x1 x2 x3 x5 (0 : Int32)) ∧ (r2 = (aw_ch x3 x5) → wp_X12_is_51 rec_18 post τ3 x1 x2 x3 x5 (1 : Int32))))))))))
def wp_X12_is_18  (post : Int32 → WSX12 → Prop) (n : Nat) (σ : WSX12) (x1 : Int32) (x2 : Int32) (x3 : Nat) (x4 : Int32) (x5 : Int32) : Prop := aw_loop (fun r (a : WSX12 × Int32 × Int32 × Nat × Int32 × Int32) => wb_X12_is_18  post r a.1 a.2.1 a.2.2.1 a.2.2.2.1 a.2.2.2.2.1 a.2.2.2.2.2) n (σ, x1, x2, x3, x4, x5)
theorem aw_X12_is_18 {G : aw_G} {d : Nat} (hd : 4 ≤ d) {post : Int32 → WSX12 → Prop}  : ∀ (n : Nat) (σ : WSX12) (x1 : Int32) (x2 : Int32) (x3 : Nat) (x4 : Int32) (x5 : Int32), wp_X12_is_18  post n σ x1 x2 x3 x4 x5 → AW G MX12_is d 0 0 25 (aw_pi (wX12 G) post) 18 [(0, .ref 0), (1, .int x1), (2, .int x2), (3, .retAddr x3), (4, .int x4), (5, .int x5)] [] (wX12 G σ) := by
  intro n
  induction n with
  | zero => intro σ x1 x2 x3 x4 x5 h; exact h.elim
  | succ n ih =>
    intro σ x1 x2 x3 x4 x5 h
    have hrec_18 : ∀ a : WSX12 × Int32 × Int32 × Nat × Int32 × Int32, aw_loop (fun r (a : WSX12 × Int32 × Int32 × Nat × Int32 × Int32) => wb_X12_is_18  post r a.1 a.2.1 a.2.2.1 a.2.2.2.1 a.2.2.2.2.1 a.2.2.2.2.2) n a → AW G MX12_is d 0 0 25 (aw_pi (wX12 G) post) 18 [(0, .ref 0), (1, .int a.2.1), (2, .int a.2.2.1), (3, .retAddr a.2.2.2.1), (4, .int a.2.2.2.2.1), (5, .int a.2.2.2.2.2)] [] (wX12 G a.1) := fun a h => ih a.1 a.2.1 a.2.2.1 a.2.2.2.1 a.2.2.2.2.1 a.2.2.2.2.2 h
    have h : wb_X12_is_18  post (aw_loop (fun r (a : WSX12 × Int32 × Int32 × Nat × Int32 × Int32) => wb_X12_is_18  post r a.1 a.2.1 a.2.2.1 a.2.2.2.1 a.2.2.2.2.1 a.2.2.2.2.2) n) σ x1 x2 x3 x4 x5 := h
    unfold wb_X12_is_18 at h
    refine aw_iload 5 dX12_is_18 rfl ?_
    refine aw_iload_n 2 dX12_is_20 rfl rfl ?_
    refine aw_icmp_ge 59 dX12_is_21 (by decide) (fun c7 => ?_) (fun c7 => ?_)
    · have h := h.1 c7
      refine aw_iload 4 dX12_is_59 rfl ?_
      exact aw_zret rfl h.1.1 dX12_is_61 ⟨_, σ, rfl, rfl, h.2⟩
    · have h := h.2 c7
      refine aw_iload 4 dX12_is_24 rfl ?_
      refine aw_if_eq 59 dX12_is_26 (by decide) (fun c6 => ?_) (fun c6 => ?_)
      · have h := h.1 c6
        refine aw_iload 4 dX12_is_59 rfl ?_
        exact aw_zret rfl h.1.1 dX12_is_61 ⟨_, σ, rfl, rfl, h.2⟩
      · have h := h.2 c6
        refine aw_aload_n 0 dX12_is_29 rfl rfl ?_
        refine aw_iload_n 1 dX12_is_30 rfl rfl ?_
        refine aw_iload 5 dX12_is_31 rfl ?_
        refine aw_iadd dX12_is_33 ?_
        refine aw_callVT (mc1 := 0) (ms1 := 0) (mc := 0) (ms := 0) (st := []) (q := 0) (As := [.int (x1 + x5)]) lX12_101 insX12_byteAt selX12_byteAt ⟨TX12, 50, rfl⟩ (by omega) (kX12_byteAt (d := 0) (by omega) h) (Nat.le_of_ble_eq_true rfl) rfl rfl rfl dX12_is_34 rfl (fun _ _ hh => ?_)
        obtain ⟨r2, τ3, rfl, rfl, h⟩ := hh
        refine aw_stk (st' := [.int r2]) rfl ?_
        refine aw_aload_nS 3 dX12_is_37 rfl rfl ?_
        refine aw_iload 5 dX12_is_38 rfl ?_
        refine aw_callVS (mc := 0) (ms := 0) (st := [.int r2]) (As := [.int x5]) (vsc := [.int x5]) lX12_105 insJ0_charAt_5068e selJ0_charAt_5068e rfl h.1 (by omega) (kJ0_charAt (d := 3) (by omega) h.1 h.2.1 (post := fun r _ => r = (aw_ch x3 x5)) rfl) [] rfl rfl rfl rfl dX12_is_40 rfl rfl (fun _ _ hh => ?_)
        obtain ⟨r4, τ, rfl, rfl, er4⟩ := hh
        have h := h.2.2
        refine ⟨(wX12 G τ3), [.int r4, .int r2], rfl, rfl, rfl, ?_⟩
        rw [er4]
        refine aw_icmp_ne 50 dX12_is_43 (by decide) (fun c5 => ?_) (fun c5 => ?_)
        · have h := h.1 c5
          refine aw_iconst (v := (0 : Int32)) dX12_is_50 (by decide) ?_
          refine aw_lvsub (lv' := [(0, .ref 0), (1, .int x1), (2, .int x2), (3, .retAddr x3), (5, .int x5)]) [0, 1, 2, 3, 5] rfl ?_
          exact aw_X12_is_51 hd hrec_18 h
        · have h := h.2 c5
          refine aw_iconst (v := (1 : Int32)) dX12_is_46 (by decide) ?_
          refine aw_goto 51 dX12_is_47 (by decide) ?_
          refine aw_lvsub (lv' := [(0, .ref 0), (1, .int x1), (2, .int x2), (3, .retAddr x3), (5, .int x5)]) [0, 1, 2, 3, 5] rfl ?_
          exact aw_X12_is_51 hd hrec_18 h
def wp_X12_is_13  (post : Int32 → WSX12 → Prop) (σ : WSX12) (x1 : Int32) (x2 : Int32) (x3 : Nat) (s0 : Int32) : Prop :=
  (∃ n8, wp_X12_is_18  post n8 σ x1 x2 x3 s0 (0 : Int32))
theorem aw_X12_is_13 {G : aw_G} {d : Nat} (hd : 4 ≤ d) {post : Int32 → WSX12 → Prop}  {σ : WSX12} {x1 : Int32} {x2 : Int32} {x3 : Nat} {s0 : Int32} (h : wp_X12_is_13  post σ x1 x2 x3 s0) : AW G MX12_is d 0 0 25 (aw_pi (wX12 G) post) 13 [(0, .ref 0), (1, .int x1), (2, .int x2), (3, .retAddr x3)] [.int s0] (wX12 G σ) := by
  unfold wp_X12_is_13 at h
  refine aw_istore (lv' := [(4, .int s0), (0, .ref 0), (1, .int x1), (2, .int x2), (3, .retAddr x3)]) dX12_is_13 (by decide) rfl ?_
  refine aw_iconst (v := (0 : Int32)) dX12_is_15 (by decide) ?_
  refine aw_istore (lv' := [(5, .int (0 : Int32)), (4, .int s0), (0, .ref 0), (1, .int x1), (2, .int x2), (3, .retAddr x3)]) dX12_is_16 (by decide) rfl ?_
  refine aw_lvsub (lv' := [(0, .ref 0), (1, .int x1), (2, .int x2), (3, .retAddr x3), (4, .int s0), (5, .int (0 : Int32))]) [2, 3, 4, 5, 1, 0] rfl ?_
  obtain ⟨n8, h⟩ := h
  exact aw_X12_is_18 hd  n8 σ x1 x2 x3 s0 (0 : Int32) h
def wp_X12_is (σ : WSX12) (a1 : Int32) (a2 : Int32) (a3 : Nat) (post : Int32 → WSX12 → Prop) : Prop :=
  (a3 < aw_nS ∧ ((¬ a2 = (nI (aw_lenS.getD a3 0)) → wp_X12_is_13  post σ a1 a2 a3 (0 : Int32)) ∧ (a2 = (nI (aw_lenS.getD a3 0)) → wp_X12_is_13  post σ a1 a2 a3 (1 : Int32))))
theorem kX12_is {G : aw_G} {d : Nat} (hd : 4 ≤ d) {σ : WSX12} {a1 : Int32} {a2 : Int32} {a3 : Nat} {post : Int32 → WSX12 → Prop} (h : wp_X12_is σ a1 a2 a3 post) : AC G MX12_is d 0 0 25 [.ref 0, .int a1, .int a2, .retAddr a3] (wX12 G σ) (aw_pi (wX12 G) post) := by
  refine AC.of (lv := [(0, .ref 0), (1, .int a1), (2, .int a2), (3, .retAddr a3)]) (by decide) (Nat.le_of_ble_eq_true rfl) rfl ?_
  unfold wp_X12_is at h
  refine aw_iload_n 2 dX12_is_0 rfl rfl ?_
  refine aw_aload_nS 3 dX12_is_1 rfl rfl ?_
  refine aw_callVS (mc := 0) (ms := 0) (st := [.int a2]) (As := []) (vsc := []) lX12_96 insJ0_length_8abf5 selJ0_length_8abf5 rfl h.1 (by omega) (kJ0_length (d := 1) (by omega) h.1 (post := fun r _ => r = (nI (aw_lenS.getD a3 0))) rfl) [] rfl rfl rfl rfl dX12_is_2 rfl rfl (fun _ _ hh => ?_)
  obtain ⟨r1, τ, rfl, rfl, er1⟩ := hh
  have h := h.2
  refine ⟨(wX12 G σ), [.int r1, .int a2], rfl, rfl, rfl, ?_⟩
  rw [er1]
  refine aw_icmp_ne 12 dX12_is_5 (by decide) (fun c9 => ?_) (fun c9 => ?_)
  · have h := h.1 c9
    refine aw_iconst (v := (0 : Int32)) dX12_is_12 (by decide) ?_
    exact aw_X12_is_13 hd  h
  · have h := h.2 c9
    refine aw_iconst (v := (1 : Int32)) dX12_is_8 (by decide) ?_
    refine aw_goto 13 dX12_is_9 (by decide) ?_
    exact aw_X12_is_13 hd  h
def wp_X12_wordOf (σ : WSX12) (a1 : Int32) (a2 : Int32) (post : Int32 → WSX12 → Prop) : Prop :=
  wp_X12_is σ a1 a2 0 (fun r1 τ2 => ((r1 = 0 → wp_X12_is τ2 a1 a2 1 (fun r3 τ4 => ((r3 = 0 → wp_X12_is τ4 a1 a2 2 (fun r5 τ6 => ((r5 = 0 → wp_X12_is τ6 a1 a2 3 (fun r7 τ8 => ((r7 = 0 → wp_X12_is τ8 a1 a2 4 (fun r9 τ10 => ((r9 = 0 → wp_X12_is τ10 a1 a2 5 (fun r11 τ12 => ((r11 = 0 → wp_X12_is τ12 a1 a2 6 (fun r13 τ14 => ((r13 = 0 → post (1 : Int32) τ14) ∧ (¬ r13 = 0 → post (9 : Int32) τ14)))) ∧ (¬ r11 = 0 → post (8 : Int32) τ12)))) ∧ (¬ r9 = 0 → post (7 : Int32) τ10)))) ∧ (¬ r7 = 0 → post (6 : Int32) τ8)))) ∧ (¬ r5 = 0 → post (5 : Int32) τ6)))) ∧ (¬ r3 = 0 → post (4 : Int32) τ4)))) ∧ (¬ r1 = 0 → post (3 : Int32) τ2)))
theorem kX12_wordOf {G : aw_G} {d : Nat} (hd : 5 ≤ d) {σ : WSX12} {a1 : Int32} {a2 : Int32} {post : Int32 → WSX12 → Prop} (h : wp_X12_wordOf σ a1 a2 post) : AC G MX12_wordOf d 0 0 25 [.ref 0, .int a1, .int a2] (wX12 G σ) (aw_pi (wX12 G) post) := by
  refine AC.of (lv := [(0, .ref 0), (1, .int a1), (2, .int a2)]) (by decide) (Nat.le_of_ble_eq_true rfl) rfl ?_
  unfold wp_X12_wordOf at h
  refine aw_aload_n 0 dX12_wordOf_0 rfl rfl ?_
  refine aw_iload_n 1 dX12_wordOf_1 rfl rfl ?_
  refine aw_iload_n 2 dX12_wordOf_2 rfl rfl ?_
  refine aw_ldcS (k := 0) (tx := "pub") (by decide +kernel) dX12_wordOf_3 ?_
  refine aw_callVT (mc1 := 0) (ms1 := 0) (mc := 0) (ms := 0) (st := []) (q := 0) (As := [.int a1, .int a2, .retAddr 0]) lX12_111 insX12_is selX12_is ⟨TX12, 50, rfl⟩ (by omega) (kX12_is (d := 4) (by omega) h) (Nat.le_of_ble_eq_true rfl) rfl rfl rfl dX12_wordOf_5 rfl (fun _ _ hh => ?_)
  obtain ⟨r1, τ2, rfl, rfl, h⟩ := hh
  refine aw_stk (st' := [.int r1]) rfl ?_
  refine aw_if_eq 15 dX12_wordOf_8 (by decide) (fun c21 => ?_) (fun c21 => ?_)
  · have h := h.1 c21
    refine aw_aload_n 0 dX12_wordOf_15 rfl rfl ?_
    refine aw_iload_n 1 dX12_wordOf_16 rfl rfl ?_
    refine aw_iload_n 2 dX12_wordOf_17 rfl rfl ?_
    refine aw_ldcS (k := 1) (tx := "sec") (by decide +kernel) dX12_wordOf_18 ?_
    refine aw_callVT (mc1 := 0) (ms1 := 0) (mc := 0) (ms := 0) (st := []) (q := 0) (As := [.int a1, .int a2, .retAddr 1]) lX12_111 insX12_is selX12_is ⟨TX12, 50, rfl⟩ (by omega) (kX12_is (d := 4) (by omega) h) (Nat.le_of_ble_eq_true rfl) rfl rfl rfl dX12_wordOf_20 rfl (fun _ _ hh => ?_)
    obtain ⟨r3, τ4, rfl, rfl, h⟩ := hh
    refine aw_stk (st' := [.int r3]) rfl ?_
    refine aw_if_eq 30 dX12_wordOf_23 (by decide) (fun c20 => ?_) (fun c20 => ?_)
    · have h := h.1 c20
      refine aw_aload_n 0 dX12_wordOf_30 rfl rfl ?_
      refine aw_iload_n 1 dX12_wordOf_31 rfl rfl ?_
      refine aw_iload_n 2 dX12_wordOf_32 rfl rfl ?_
      refine aw_ldcS (k := 2) (tx := "in") (by decide +kernel) dX12_wordOf_33 ?_
      refine aw_callVT (mc1 := 0) (ms1 := 0) (mc := 0) (ms := 0) (st := []) (q := 0) (As := [.int a1, .int a2, .retAddr 2]) lX12_111 insX12_is selX12_is ⟨TX12, 50, rfl⟩ (by omega) (kX12_is (d := 4) (by omega) h) (Nat.le_of_ble_eq_true rfl) rfl rfl rfl dX12_wordOf_35 rfl (fun _ _ hh => ?_)
      obtain ⟨r5, τ6, rfl, rfl, h⟩ := hh
      refine aw_stk (st' := [.int r5]) rfl ?_
      refine aw_if_eq 45 dX12_wordOf_38 (by decide) (fun c19 => ?_) (fun c19 => ?_)
      · have h := h.1 c19
        refine aw_aload_n 0 dX12_wordOf_45 rfl rfl ?_
        refine aw_iload_n 1 dX12_wordOf_46 rfl rfl ?_
        refine aw_iload_n 2 dX12_wordOf_47 rfl rfl ?_
        refine aw_ldcS (k := 3) (tx := "out") (by decide +kernel) dX12_wordOf_48 ?_
        refine aw_callVT (mc1 := 0) (ms1 := 0) (mc := 0) (ms := 0) (st := []) (q := 0) (As := [.int a1, .int a2, .retAddr 3]) lX12_111 insX12_is selX12_is ⟨TX12, 50, rfl⟩ (by omega) (kX12_is (d := 4) (by omega) h) (Nat.le_of_ble_eq_true rfl) rfl rfl rfl dX12_wordOf_50 rfl (fun _ _ hh => ?_)
        obtain ⟨r7, τ8, rfl, rfl, h⟩ := hh
        refine aw_stk (st' := [.int r7]) rfl ?_
        refine aw_if_eq 61 dX12_wordOf_53 (by decide) (fun c18 => ?_) (fun c18 => ?_)
        · have h := h.1 c18
          refine aw_aload_n 0 dX12_wordOf_61 rfl rfl ?_
          refine aw_iload_n 1 dX12_wordOf_62 rfl rfl ?_
          refine aw_iload_n 2 dX12_wordOf_63 rfl rfl ?_
          refine aw_ldcS (k := 4) (tx := "if") (by decide +kernel) dX12_wordOf_64 ?_
          refine aw_callVT (mc1 := 0) (ms1 := 0) (mc := 0) (ms := 0) (st := []) (q := 0) (As := [.int a1, .int a2, .retAddr 4]) lX12_111 insX12_is selX12_is ⟨TX12, 50, rfl⟩ (by omega) (kX12_is (d := 4) (by omega) h) (Nat.le_of_ble_eq_true rfl) rfl rfl rfl dX12_wordOf_66 rfl (fun _ _ hh => ?_)
          obtain ⟨r9, τ10, rfl, rfl, h⟩ := hh
          refine aw_stk (st' := [.int r9]) rfl ?_
          refine aw_if_eq 77 dX12_wordOf_69 (by decide) (fun c17 => ?_) (fun c17 => ?_)
          · have h := h.1 c17
            refine aw_aload_n 0 dX12_wordOf_77 rfl rfl ?_
            refine aw_iload_n 1 dX12_wordOf_78 rfl rfl ?_
            refine aw_iload_n 2 dX12_wordOf_79 rfl rfl ?_
            refine aw_ldcS (k := 5) (tx := "else") (by decide +kernel) dX12_wordOf_80 ?_
            refine aw_callVT (mc1 := 0) (ms1 := 0) (mc := 0) (ms := 0) (st := []) (q := 0) (As := [.int a1, .int a2, .retAddr 5]) lX12_111 insX12_is selX12_is ⟨TX12, 50, rfl⟩ (by omega) (kX12_is (d := 4) (by omega) h) (Nat.le_of_ble_eq_true rfl) rfl rfl rfl dX12_wordOf_82 rfl (fun _ _ hh => ?_)
            obtain ⟨r11, τ12, rfl, rfl, h⟩ := hh
            refine aw_stk (st' := [.int r11]) rfl ?_
            refine aw_if_eq 93 dX12_wordOf_85 (by decide) (fun c16 => ?_) (fun c16 => ?_)
            · have h := h.1 c16
              refine aw_aload_n 0 dX12_wordOf_93 rfl rfl ?_
              refine aw_iload_n 1 dX12_wordOf_94 rfl rfl ?_
              refine aw_iload_n 2 dX12_wordOf_95 rfl rfl ?_
              refine aw_ldcS (k := 6) (tx := "while") (by decide +kernel) dX12_wordOf_96 ?_
              refine aw_callVT (mc1 := 0) (ms1 := 0) (mc := 0) (ms := 0) (st := []) (q := 0) (As := [.int a1, .int a2, .retAddr 6]) lX12_111 insX12_is selX12_is ⟨TX12, 50, rfl⟩ (by omega) (kX12_is (d := 4) (by omega) h) (Nat.le_of_ble_eq_true rfl) rfl rfl rfl dX12_wordOf_98 rfl (fun _ _ hh => ?_)
              obtain ⟨r13, τ14, rfl, rfl, h⟩ := hh
              refine aw_stk (st' := [.int r13]) rfl ?_
              refine aw_if_eq 109 dX12_wordOf_101 (by decide) (fun c15 => ?_) (fun c15 => ?_)
              · have h := h.1 c15
                refine aw_iconst (v := (1 : Int32)) dX12_wordOf_109 (by decide) ?_
                exact aw_iret rfl dX12_wordOf_110 ⟨_, τ14, rfl, rfl, h⟩
              · have h := h.2 c15
                refine aw_bipush (v := (9 : Int32)) dX12_wordOf_104 (by decide) ?_
                refine aw_goto 110 dX12_wordOf_106 (by decide) ?_
                exact aw_iret rfl dX12_wordOf_110 ⟨_, τ14, rfl, rfl, h⟩
            · have h := h.2 c16
              refine aw_bipush (v := (8 : Int32)) dX12_wordOf_88 (by decide) ?_
              refine aw_goto 110 dX12_wordOf_90 (by decide) ?_
              exact aw_iret rfl dX12_wordOf_110 ⟨_, τ12, rfl, rfl, h⟩
          · have h := h.2 c17
            refine aw_bipush (v := (7 : Int32)) dX12_wordOf_72 (by decide) ?_
            refine aw_goto 110 dX12_wordOf_74 (by decide) ?_
            exact aw_iret rfl dX12_wordOf_110 ⟨_, τ10, rfl, rfl, h⟩
        · have h := h.2 c18
          refine aw_bipush (v := (6 : Int32)) dX12_wordOf_56 (by decide) ?_
          refine aw_goto 110 dX12_wordOf_58 (by decide) ?_
          exact aw_iret rfl dX12_wordOf_110 ⟨_, τ8, rfl, rfl, h⟩
      · have h := h.2 c19
        refine aw_iconst (v := (5 : Int32)) dX12_wordOf_41 (by decide) ?_
        refine aw_goto 110 dX12_wordOf_42 (by decide) ?_
        exact aw_iret rfl dX12_wordOf_110 ⟨_, τ6, rfl, rfl, h⟩
    · have h := h.2 c20
      refine aw_iconst (v := (4 : Int32)) dX12_wordOf_26 (by decide) ?_
      refine aw_goto 110 dX12_wordOf_27 (by decide) ?_
      exact aw_iret rfl dX12_wordOf_110 ⟨_, τ4, rfl, rfl, h⟩
  · have h := h.2 c21
    refine aw_iconst (v := (3 : Int32)) dX12_wordOf_11 (by decide) ?_
    refine aw_goto 110 dX12_wordOf_12 (by decide) ?_
    exact aw_iret rfl dX12_wordOf_110 ⟨_, τ2, rfl, rfl, h⟩
def wb_X12_tokenAt_314  (post : Int32 → WSX12 → Prop) (rec_314 : WSX12 × Int32 × Int32 → Prop) (σ : WSX12) (x3 : Int32) (x7 : Int32) : Prop :=
  (((nI (aw_lenS.getD 7 0)) ≤ x7 → post (11 : Int32) σ) ∧ (¬ (nI (aw_lenS.getD 7 0)) ≤ x7 → (vp_in x7 (aw_lenS.getD 7 0) ∧ ((¬ (aw_ch 7 x7) = x3 → rec_314 (σ, x3, (x7 + 1))) ∧ ((aw_ch 7 x7) = x3 → post x3 σ)))))
def wp_X12_tokenAt_314  (post : Int32 → WSX12 → Prop) (n : Nat) (σ : WSX12) (x3 : Int32) (x7 : Int32) : Prop := aw_loop (fun r (a : WSX12 × Int32 × Int32) => wb_X12_tokenAt_314  post r a.1 a.2.1 a.2.2) n (σ, x3, x7)
theorem aw_X12_tokenAt_314 {G : aw_G} {d : Nat} (hd : 6 ≤ d) {post : Int32 → WSX12 → Prop}  : ∀ (n : Nat) (σ : WSX12) (x3 : Int32) (x7 : Int32), wp_X12_tokenAt_314  post n σ x3 x7 → AW G MX12_tokenAt d 0 0 25 (aw_pi (wX12 G) post) 314 [(3, .int x3), (6, .retAddr 7), (7, .int x7)] [] (wX12 G σ) := by
  intro n
  induction n with
  | zero => intro σ x3 x7 h; exact h.elim
  | succ n ih =>
    intro σ x3 x7 h
    have hrec_314 : ∀ a : WSX12 × Int32 × Int32, aw_loop (fun r (a : WSX12 × Int32 × Int32) => wb_X12_tokenAt_314  post r a.1 a.2.1 a.2.2) n a → AW G MX12_tokenAt d 0 0 25 (aw_pi (wX12 G) post) 314 [(3, .int a.2.1), (6, .retAddr 7), (7, .int a.2.2)] [] (wX12 G a.1) := fun a h => ih a.1 a.2.1 a.2.2 h
    have h : wb_X12_tokenAt_314  post (aw_loop (fun r (a : WSX12 × Int32 × Int32) => wb_X12_tokenAt_314  post r a.1 a.2.1 a.2.2) n) σ x3 x7 := h
    unfold wb_X12_tokenAt_314 at h
    refine aw_iload 2 dX12_tokenAt_314 rfl ?_
    refine aw_aloadS 1 dX12_tokenAt_316 rfl ?_
    refine aw_callVS (mc := 0) (ms := 0) (st := [.int x7]) (As := []) (vsc := []) lX12_96 insJ0_length_8abf5 selJ0_length_8abf5 rfl (by decide) (by omega) (kJ0_length (d := 1) (by omega) (by decide) (post := fun r _ => r = (nI (aw_lenS.getD 7 0))) rfl) [] rfl rfl rfl rfl dX12_tokenAt_318 rfl rfl (fun _ _ hh => ?_)
    obtain ⟨r12, τ, rfl, rfl, er12⟩ := hh
    have h := h
    refine ⟨(wX12 G σ), [.int r12, .int x7], rfl, rfl, rfl, ?_⟩
    rw [er12]
    refine aw_icmp_ge 343 dX12_tokenAt_321 (by decide) (fun c15 => ?_) (fun c15 => ?_)
    · have h := h.1 c15
      refine aw_bipush (v := (11 : Int32)) dX12_tokenAt_343 (by decide) ?_
      exact aw_iret rfl dX12_tokenAt_345 ⟨_, σ, rfl, rfl, h⟩
    · have h := h.2 c15
      refine aw_aloadS 1 dX12_tokenAt_324 rfl ?_
      refine aw_iload 2 dX12_tokenAt_326 rfl ?_
      refine aw_callVS (mc := 0) (ms := 0) (st := []) (As := [.int x7]) (vsc := [.int x7]) lX12_105 insJ0_charAt_5068e selJ0_charAt_5068e rfl (by decide) (by omega) (kJ0_charAt (d := 3) (by omega) (by decide) h.1 (post := fun r _ => r = (aw_ch 7 x7)) rfl) [] rfl rfl rfl rfl dX12_tokenAt_328 rfl rfl (fun _ _ hh => ?_)
      obtain ⟨r13, τ, rfl, rfl, er13⟩ := hh
      have h := h.2
      refine ⟨(wX12 G σ), [.int r13], rfl, rfl, rfl, ?_⟩
      rw [er13]
      refine aw_iload_n 0 dX12_tokenAt_331 rfl rfl ?_
      refine aw_icmp_ne 337 dX12_tokenAt_332 (by decide) (fun c14 => ?_) (fun c14 => ?_)
      · have h := h.1 c14
        refine aw_iinc 2 (v := (x7 + 1)) (lv' := [(7, .int (x7 + 1)), (3, .int x3), (6, .retAddr 7)]) dX12_tokenAt_337 rfl rfl (by decide) rfl ?_
        refine aw_goto 314 dX12_tokenAt_340 (by decide) ?_
        refine aw_lvsub (lv' := [(3, .int x3), (6, .retAddr 7), (7, .int (x7 + 1))]) [1, 2, 0] rfl ?_
        exact hrec_314 (σ, x3, (x7 + 1)) h
      · have h := h.2 c14
        refine aw_iload_n 0 dX12_tokenAt_335 rfl rfl ?_
        exact aw_iret rfl dX12_tokenAt_336 ⟨_, σ, rfl, rfl, h⟩
def wp_X12_tokenAt_300  (post : Int32 → WSX12 → Prop) (σ : WSX12) (x1 : Int32) (x3 : Int32) : Prop :=
  (vp_in x1 3002 ∧ ∀ y11 : Nat → Int32, y11 = upd σ.1.1.1.2.2.2 (x1).toNatClampNeg (1 : Int32) → (∃ n16, wp_X12_tokenAt_314  post n16 ((((σ.1.1.1.1, (σ.1.1.1.2.1, (σ.1.1.1.2.2.1, y11))), σ.1.1.2), σ.1.2), σ.2) x3 (0 : Int32)))
theorem aw_X12_tokenAt_300 {G : aw_G} {d : Nat} (hd : 6 ≤ d) {post : Int32 → WSX12 → Prop}  {σ : WSX12} {x1 : Int32} {x3 : Int32} (h : wp_X12_tokenAt_300  post σ x1 x3) : AW G MX12_tokenAt d 0 0 25 (aw_pi (wX12 G) post) 300 [(0, .ref 0), (1, .int x1), (3, .int x3)] [] (wX12 G σ) := by
  unfold wp_X12_tokenAt_300 at h
  refine aw_aload_n 0 dX12_tokenAt_300 rfl rfl ?_
  refine aw_getf (v := .ref 4) fX12_19 0 rfl rfl dX12_tokenAt_301 ?_
  refine aw_iload_n 1 dX12_tokenAt_304 rfl rfl ?_
  refine aw_iconst (v := (1 : Int32)) dX12_tokenAt_305 (by decide) ?_
  refine aw_iast 4 (n := 3002) (f := σ.1.1.1.2.2.2) (w' := fun y11 => (wX12 G ((((σ.1.1.1.1, (σ.1.1.1.2.1, (σ.1.1.1.2.2.1, y11))), σ.1.1.2), σ.1.2), σ.2))) rfl h.1 (fun _ => rfl) dX12_tokenAt_306 (fun y11 ey11 => ?_)
  have h := h.2 y11 ey11
  refine aw_ldcS (k := 7) (tx := "()[]{};=+-*/%&|^~!<") (by decide +kernel) dX12_tokenAt_307 ?_
  refine aw_astoreS (lv' := [(6, .retAddr 7), (0, .ref 0), (1, .int x1), (3, .int x3)]) dX12_tokenAt_309 (by decide) rfl ?_
  refine aw_iconst (v := (0 : Int32)) dX12_tokenAt_311 (by decide) ?_
  refine aw_istore (lv' := [(7, .int (0 : Int32)), (6, .retAddr 7), (0, .ref 0), (1, .int x1), (3, .int x3)]) dX12_tokenAt_312 (by decide) rfl ?_
  refine aw_lvsub (lv' := [(3, .int x3), (6, .retAddr 7), (7, .int (0 : Int32))]) [4, 1, 0] rfl ?_
  obtain ⟨n16, h⟩ := h
  exact aw_X12_tokenAt_314 hd  n16 ((((σ.1.1.1.1, (σ.1.1.1.2.1, (σ.1.1.1.2.2.1, y11))), σ.1.1.2), σ.1.2), σ.2) x3 (0 : Int32) h
def wp_X12_tokenAt_283  (post : Int32 → WSX12 → Prop) (σ : WSX12) (x1 : Int32) (x3 : Int32) (x4 : Int32) : Prop :=
  ((¬ x3 = (62 : Int32) → wp_X12_tokenAt_300  post σ x1 x3) ∧ (x3 = (62 : Int32) → ((¬ x4 = (62 : Int32) → wp_X12_tokenAt_300  post σ x1 x3) ∧ (x4 = (62 : Int32) → post (203 : Int32) σ))))
theorem aw_X12_tokenAt_283 {G : aw_G} {d : Nat} (hd : 6 ≤ d) {post : Int32 → WSX12 → Prop}  {σ : WSX12} {x1 : Int32} {x3 : Int32} {x4 : Int32} (h : wp_X12_tokenAt_283  post σ x1 x3 x4) : AW G MX12_tokenAt d 0 0 25 (aw_pi (wX12 G) post) 283 [(0, .ref 0), (1, .int x1), (3, .int x3), (4, .int x4)] [] (wX12 G σ) := by
  unfold wp_X12_tokenAt_283 at h
  refine aw_iload_n 2 dX12_tokenAt_283 rfl rfl ?_
  refine aw_bipush (v := (62 : Int32)) dX12_tokenAt_284 (by decide) ?_
  refine aw_icmp_ne 300 dX12_tokenAt_286 (by decide) (fun c18 => ?_) (fun c18 => ?_)
  · have h := h.1 c18
    refine aw_lvsub (lv' := [(0, .ref 0), (1, .int x1), (3, .int x3)]) [0, 1, 2] rfl ?_
    exact aw_X12_tokenAt_300 hd  h
  · have h := h.2 c18
    refine aw_iload 3 dX12_tokenAt_289 rfl ?_
    refine aw_bipush (v := (62 : Int32)) dX12_tokenAt_291 (by decide) ?_
    refine aw_icmp_ne 300 dX12_tokenAt_293 (by decide) (fun c17 => ?_) (fun c17 => ?_)
    · have h := h.1 c17
      refine aw_lvsub (lv' := [(0, .ref 0), (1, .int x1), (3, .int x3)]) [0, 1, 2] rfl ?_
      exact aw_X12_tokenAt_300 hd  h
    · have h := h.2 c17
      refine aw_sipush (v := (203 : Int32)) dX12_tokenAt_296 (by decide) ?_
      exact aw_iret rfl dX12_tokenAt_299 ⟨_, σ, rfl, rfl, h⟩
def wp_X12_tokenAt_266  (post : Int32 → WSX12 → Prop) (σ : WSX12) (x1 : Int32) (x3 : Int32) (x4 : Int32) : Prop :=
  ((¬ x3 = (60 : Int32) → wp_X12_tokenAt_283  post σ x1 x3 x4) ∧ (x3 = (60 : Int32) → ((¬ x4 = (60 : Int32) → wp_X12_tokenAt_283  post σ x1 x3 x4) ∧ (x4 = (60 : Int32) → post (202 : Int32) σ))))
theorem aw_X12_tokenAt_266 {G : aw_G} {d : Nat} (hd : 6 ≤ d) {post : Int32 → WSX12 → Prop}  {σ : WSX12} {x1 : Int32} {x3 : Int32} {x4 : Int32} (h : wp_X12_tokenAt_266  post σ x1 x3 x4) : AW G MX12_tokenAt d 0 0 25 (aw_pi (wX12 G) post) 266 [(0, .ref 0), (1, .int x1), (3, .int x3), (4, .int x4)] [] (wX12 G σ) := by
  unfold wp_X12_tokenAt_266 at h
  refine aw_iload_n 2 dX12_tokenAt_266 rfl rfl ?_
  refine aw_bipush (v := (60 : Int32)) dX12_tokenAt_267 (by decide) ?_
  refine aw_icmp_ne 283 dX12_tokenAt_269 (by decide) (fun c20 => ?_) (fun c20 => ?_)
  · have h := h.1 c20
    exact aw_X12_tokenAt_283 hd  h
  · have h := h.2 c20
    refine aw_iload 3 dX12_tokenAt_272 rfl ?_
    refine aw_bipush (v := (60 : Int32)) dX12_tokenAt_274 (by decide) ?_
    refine aw_icmp_ne 283 dX12_tokenAt_276 (by decide) (fun c19 => ?_) (fun c19 => ?_)
    · have h := h.1 c19
      exact aw_X12_tokenAt_283 hd  h
    · have h := h.2 c19
      refine aw_sipush (v := (202 : Int32)) dX12_tokenAt_279 (by decide) ?_
      exact aw_iret rfl dX12_tokenAt_282 ⟨_, σ, rfl, rfl, h⟩
def wp_X12_tokenAt_249  (post : Int32 → WSX12 → Prop) (σ : WSX12) (x1 : Int32) (x3 : Int32) (x4 : Int32) : Prop :=
  ((¬ x3 = (61 : Int32) → wp_X12_tokenAt_266  post σ x1 x3 x4) ∧ (x3 = (61 : Int32) → ((¬ x4 = (61 : Int32) → wp_X12_tokenAt_266  post σ x1 x3 x4) ∧ (x4 = (61 : Int32) → post (201 : Int32) σ))))
theorem aw_X12_tokenAt_249 {G : aw_G} {d : Nat} (hd : 6 ≤ d) {post : Int32 → WSX12 → Prop}  {σ : WSX12} {x1 : Int32} {x3 : Int32} {x4 : Int32} (h : wp_X12_tokenAt_249  post σ x1 x3 x4) : AW G MX12_tokenAt d 0 0 25 (aw_pi (wX12 G) post) 249 [(0, .ref 0), (1, .int x1), (3, .int x3), (4, .int x4)] [] (wX12 G σ) := by
  unfold wp_X12_tokenAt_249 at h
  refine aw_iload_n 2 dX12_tokenAt_249 rfl rfl ?_
  refine aw_bipush (v := (61 : Int32)) dX12_tokenAt_250 (by decide) ?_
  refine aw_icmp_ne 266 dX12_tokenAt_252 (by decide) (fun c22 => ?_) (fun c22 => ?_)
  · have h := h.1 c22
    exact aw_X12_tokenAt_266 hd  h
  · have h := h.2 c22
    refine aw_iload 3 dX12_tokenAt_255 rfl ?_
    refine aw_bipush (v := (61 : Int32)) dX12_tokenAt_257 (by decide) ?_
    refine aw_icmp_ne 266 dX12_tokenAt_259 (by decide) (fun c21 => ?_) (fun c21 => ?_)
    · have h := h.1 c21
      exact aw_X12_tokenAt_266 hd  h
    · have h := h.2 c21
      refine aw_sipush (v := (201 : Int32)) dX12_tokenAt_262 (by decide) ?_
      exact aw_iret rfl dX12_tokenAt_265 ⟨_, σ, rfl, rfl, h⟩
def wp_X12_tokenAt_209  (post : Int32 → WSX12 → Prop) (σ : WSX12) (x6 : Int64) : Prop :=
  (((lg_cmp x6 (2147483647 : Int64)) ≤ 0 → post (2 : Int32) σ) ∧ (¬ (lg_cmp x6 (2147483647 : Int64)) ≤ 0 → post (11 : Int32) σ))
theorem aw_X12_tokenAt_209 {G : aw_G} {d : Nat} (hd : 6 ≤ d) {post : Int32 → WSX12 → Prop}  {σ : WSX12} {x6 : Int64} (h : wp_X12_tokenAt_209  post σ x6) : AW G MX12_tokenAt d 0 0 25 (aw_pi (wX12 G) post) 209 [(6, .long x6)] [] (wX12 G σ) := by
  unfold wp_X12_tokenAt_209 at h
  refine aw_lload 0 dX12_tokenAt_209 rfl ?_
  refine aw_ldc2 (v := (2147483647 : Int64)) dX12_tokenAt_211 oX12_144 ?_
  refine aw_lcmp dX12_tokenAt_214 ?_
  refine aw_if_le 223 dX12_tokenAt_215 (by decide) (fun c35 => ?_) (fun c35 => ?_)
  · have h := h.1 c35
    refine aw_iconst (v := (2 : Int32)) dX12_tokenAt_223 (by decide) ?_
    exact aw_iret rfl dX12_tokenAt_224 ⟨_, σ, rfl, rfl, h⟩
  · have h := h.2 c35
    refine aw_bipush (v := (11 : Int32)) dX12_tokenAt_218 (by decide) ?_
    refine aw_goto 224 dX12_tokenAt_220 (by decide) ?_
    exact aw_iret rfl dX12_tokenAt_224 ⟨_, σ, rfl, rfl, h⟩
def wp_X12_tokenAt_167 (rec_119 : WSX12 × Int32 × Int32 × Int32 × Int32 × Int64 → Prop) (post : Int32 → WSX12 → Prop) (σ : WSX12) (x1 : Int32) (x2 : Int32) (x3 : Int32) (x5 : Int32) (s0 : Int64) : Prop :=
  rec_119 (σ, x1, x2, x3, (x5 + 1), s0)
theorem aw_X12_tokenAt_167 {G : aw_G} {d : Nat} (hd : 6 ≤ d) {rec_119 : WSX12 × Int32 × Int32 × Int32 × Int32 × Int64 → Prop} {post : Int32 → WSX12 → Prop} (hrec_119 : ∀ a : WSX12 × Int32 × Int32 × Int32 × Int32 × Int64, rec_119 a → AW G MX12_tokenAt d 0 0 25 (aw_pi (wX12 G) post) 119 [(0, .ref 0), (1, .int a.2.1), (2, .int a.2.2.1), (3, .int a.2.2.2.1), (5, .int a.2.2.2.2.1), (6, .long a.2.2.2.2.2)] [] (wX12 G a.1)) {σ : WSX12} {x1 : Int32} {x2 : Int32} {x3 : Int32} {x5 : Int32} {s0 : Int64} (h : wp_X12_tokenAt_167 rec_119 post σ x1 x2 x3 x5 s0) : AW G MX12_tokenAt d 0 0 25 (aw_pi (wX12 G) post) 167 [(0, .ref 0), (1, .int x1), (2, .int x2), (3, .int x3), (5, .int x5)] [.long s0] (wX12 G σ) := by
  unfold wp_X12_tokenAt_167 at h
  refine aw_lstore (lv' := [(6, .long s0), (0, .ref 0), (1, .int x1), (2, .int x2), (3, .int x3), (5, .int x5)]) dX12_tokenAt_167 (by decide) rfl ?_
  refine aw_iinc 5 (v := (x5 + 1)) (lv' := [(5, .int (x5 + 1)), (6, .long s0), (0, .ref 0), (1, .int x1), (2, .int x2), (3, .int x3)]) dX12_tokenAt_169 rfl rfl (by decide) rfl ?_
  refine aw_goto 119 dX12_tokenAt_172 (by decide) ?_
  refine aw_lvsub (lv' := [(0, .ref 0), (1, .int x1), (2, .int x2), (3, .int x3), (5, .int (x5 + 1)), (6, .long s0)]) [2, 3, 4, 5, 0, 1] rfl ?_
  exact hrec_119 (σ, x1, x2, x3, (x5 + 1), s0) h
def wb_X12_tokenAt_119  (post : Int32 → WSX12 → Prop) (rec_119 : WSX12 × Int32 × Int32 × Int32 × Int32 × Int64 → Prop) (σ : WSX12) (x1 : Int32) (x2 : Int32) (x3 : Int32) (x5 : Int32) (x6 : Int64) : Prop :=
  wp_X12_byteAt σ (x2 + x5) (fun r26 τ27 => wp_X12_isDigit r26 (fun r28 τ29 => ((r28 = 0 → (vp_in x1 3002 ∧ ∀ y30 : Nat → Int32, y30 = upd τ27.1.1.1.2.2.2 (x1).toNatClampNeg x5 → wp_X12_byteAt ((((τ27.1.1.1.1, (τ27.1.1.1.2.1, (τ27.1.1.1.2.2.1, y30))), τ27.1.1.2), τ27.1.2), τ27.2) (x2 + x5) (fun r31 τ32 => wp_X12_isLetter r31 (fun r33 τ34 => ((¬ r33 = 0 → post (11 : Int32) τ32) ∧ (r33 = 0 → ((¬ x3 = (48 : Int32) → wp_X12_tokenAt_209  post τ32 x6) ∧ (x3 = (48 : Int32) → (((1 : Int32) < x5 → post (11 : Int32) τ32) ∧ (¬ (1 : Int32) < x5 → wp_X12_tokenAt_209  post τ32 x6)))))))))) ∧ (¬ r28 = 0 → (((lg_cmp x6 (3000000000 : Int64)) ≤ 0 → wp_X12_byteAt τ27 (x2 + x5) (fun r39 τ40 => wp_X12_tokenAt_167 rec_119 post τ40 x1 x2 x3 x5 ((((10 : Int64) * x6) + (r39).toInt64) - (48 : Int64)))) ∧ (¬ (lg_cmp x6 (3000000000 : Int64)) ≤ 0 → wp_X12_tokenAt_167 rec_119 post τ27 x1 x2 x3 x5 x6))))))
def wp_X12_tokenAt_119  (post : Int32 → WSX12 → Prop) (n : Nat) (σ : WSX12) (x1 : Int32) (x2 : Int32) (x3 : Int32) (x5 : Int32) (x6 : Int64) : Prop := aw_loop (fun r (a : WSX12 × Int32 × Int32 × Int32 × Int32 × Int64) => wb_X12_tokenAt_119  post r a.1 a.2.1 a.2.2.1 a.2.2.2.1 a.2.2.2.2.1 a.2.2.2.2.2) n (σ, x1, x2, x3, x5, x6)
theorem aw_X12_tokenAt_119 {G : aw_G} {d : Nat} (hd : 6 ≤ d) {post : Int32 → WSX12 → Prop}  : ∀ (n : Nat) (σ : WSX12) (x1 : Int32) (x2 : Int32) (x3 : Int32) (x5 : Int32) (x6 : Int64), wp_X12_tokenAt_119  post n σ x1 x2 x3 x5 x6 → AW G MX12_tokenAt d 0 0 25 (aw_pi (wX12 G) post) 119 [(0, .ref 0), (1, .int x1), (2, .int x2), (3, .int x3), (5, .int x5), (6, .long x6)] [] (wX12 G σ) := by
  intro n
  induction n with
  | zero => intro σ x1 x2 x3 x5 x6 h; exact h.elim
  | succ n ih =>
    intro σ x1 x2 x3 x5 x6 h
    have hrec_119 : ∀ a : WSX12 × Int32 × Int32 × Int32 × Int32 × Int64, aw_loop (fun r (a : WSX12 × Int32 × Int32 × Int32 × Int32 × Int64) => wb_X12_tokenAt_119  post r a.1 a.2.1 a.2.2.1 a.2.2.2.1 a.2.2.2.2.1 a.2.2.2.2.2) n a → AW G MX12_tokenAt d 0 0 25 (aw_pi (wX12 G) post) 119 [(0, .ref 0), (1, .int a.2.1), (2, .int a.2.2.1), (3, .int a.2.2.2.1), (5, .int a.2.2.2.2.1), (6, .long a.2.2.2.2.2)] [] (wX12 G a.1) := fun a h => ih a.1 a.2.1 a.2.2.1 a.2.2.2.1 a.2.2.2.2.1 a.2.2.2.2.2 h
    have h : wb_X12_tokenAt_119  post (aw_loop (fun r (a : WSX12 × Int32 × Int32 × Int32 × Int32 × Int64) => wb_X12_tokenAt_119  post r a.1 a.2.1 a.2.2.1 a.2.2.2.1 a.2.2.2.2.1 a.2.2.2.2.2) n) σ x1 x2 x3 x5 x6 := h
    unfold wb_X12_tokenAt_119 at h
    refine aw_aload_n 0 dX12_tokenAt_119 rfl rfl ?_
    refine aw_iload_n 2 dX12_tokenAt_120 rfl rfl ?_
    refine aw_iload 4 dX12_tokenAt_121 rfl ?_
    refine aw_iadd dX12_tokenAt_123 ?_
    refine aw_callVT (mc1 := 0) (ms1 := 0) (mc := 0) (ms := 0) (st := []) (q := 0) (As := [.int (x2 + x5)]) lX12_101 insX12_byteAt selX12_byteAt ⟨TX12, 50, rfl⟩ (by omega) (kX12_byteAt (d := 0) (by omega) h) (Nat.le_of_ble_eq_true rfl) rfl rfl rfl dX12_tokenAt_124 rfl (fun _ _ hh => ?_)
    obtain ⟨r26, τ27, rfl, rfl, h⟩ := hh
    refine aw_stk (st' := [.int r26]) rfl ?_
    refine aw_callST (st := []) (As := [.int r26]) lX12_131 sttX12_isDigit (by omega) (kX12_isDigit (d := 0) (by omega) h) rfl rfl rfl dX12_tokenAt_127 rfl (fun _ _ hh => ?_)
    obtain ⟨r28, τ29, rfl, rfl, h⟩ := hh
    refine ⟨rfl, (fun x hx => by cases hx; rfl), ?_⟩
    refine aw_stk (st' := [.int r28]) rfl ?_
    refine aw_if_eq 175 dX12_tokenAt_130 (by decide) (fun c42 => ?_) (fun c42 => ?_)
    · have h := h.1 c42
      refine aw_aload_n 0 dX12_tokenAt_175 rfl rfl ?_
      refine aw_getf (v := .ref 4) fX12_19 0 rfl rfl dX12_tokenAt_176 ?_
      refine aw_iload_n 1 dX12_tokenAt_179 rfl rfl ?_
      refine aw_iload 4 dX12_tokenAt_180 rfl ?_
      refine aw_iast 4 (n := 3002) (f := τ27.1.1.1.2.2.2) (w' := fun y30 => (wX12 G ((((τ27.1.1.1.1, (τ27.1.1.1.2.1, (τ27.1.1.1.2.2.1, y30))), τ27.1.1.2), τ27.1.2), τ27.2))) rfl h.1 (fun _ => rfl) dX12_tokenAt_182 (fun y30 ey30 => ?_)
      have h := h.2 y30 ey30
      refine aw_aload_n 0 dX12_tokenAt_183 rfl rfl ?_
      refine aw_iload_n 2 dX12_tokenAt_184 rfl rfl ?_
      refine aw_iload 4 dX12_tokenAt_185 rfl ?_
      refine aw_iadd dX12_tokenAt_187 ?_
      refine aw_callVT (mc1 := 0) (ms1 := 0) (mc := 0) (ms := 0) (st := []) (q := 0) (As := [.int (x2 + x5)]) lX12_101 insX12_byteAt selX12_byteAt ⟨TX12, 50, rfl⟩ (by omega) (kX12_byteAt (d := 0) (by omega) h) (Nat.le_of_ble_eq_true rfl) rfl rfl rfl dX12_tokenAt_188 rfl (fun _ _ hh => ?_)
      obtain ⟨r31, τ32, rfl, rfl, h⟩ := hh
      refine aw_stk (st' := [.int r31]) rfl ?_
      refine aw_callST (st := []) (As := [.int r31]) lX12_127 sttX12_isLetter (by omega) (kX12_isLetter (d := 0) (by omega) h) rfl rfl rfl dX12_tokenAt_191 rfl (fun _ _ hh => ?_)
      obtain ⟨r33, τ34, rfl, rfl, h⟩ := hh
      refine ⟨rfl, (fun x hx => by cases hx; rfl), ?_⟩
      refine aw_stk (st' := [.int r33]) rfl ?_
      refine aw_if_ne 218 dX12_tokenAt_194 (by decide) (fun c38 => ?_) (fun c38 => ?_)
      · have h := h.1 c38
        refine aw_bipush (v := (11 : Int32)) dX12_tokenAt_218 (by decide) ?_
        refine aw_goto 224 dX12_tokenAt_220 (by decide) ?_
        exact aw_iret rfl dX12_tokenAt_224 ⟨_, τ32, rfl, rfl, h⟩
      · have h := h.2 c38
        refine aw_iload_n 3 dX12_tokenAt_197 rfl rfl ?_
        refine aw_bipush (v := (48 : Int32)) dX12_tokenAt_198 (by decide) ?_
        refine aw_icmp_ne 209 dX12_tokenAt_200 (by decide) (fun c37 => ?_) (fun c37 => ?_)
        · have h := h.1 c37
          refine aw_lvsub (lv' := [(6, .long x6)]) [5] rfl ?_
          exact aw_X12_tokenAt_209 hd  h
        · have h := h.2 c37
          refine aw_iload 4 dX12_tokenAt_203 rfl ?_
          refine aw_iconst (v := (1 : Int32)) dX12_tokenAt_205 (by decide) ?_
          refine aw_icmp_gt 218 dX12_tokenAt_206 (by decide) (fun c36 => ?_) (fun c36 => ?_)
          · have h := h.1 c36
            refine aw_bipush (v := (11 : Int32)) dX12_tokenAt_218 (by decide) ?_
            refine aw_goto 224 dX12_tokenAt_220 (by decide) ?_
            exact aw_iret rfl dX12_tokenAt_224 ⟨_, τ32, rfl, rfl, h⟩
          · have h := h.2 c36
            refine aw_lvsub (lv' := [(6, .long x6)]) [5] rfl ?_
            exact aw_X12_tokenAt_209 hd  h
    · have h := h.2 c42
      refine aw_lload 5 dX12_tokenAt_133 rfl ?_
      refine aw_ldc2 (v := (3000000000 : Int64)) dX12_tokenAt_135 oX12_138 ?_
      refine aw_lcmp dX12_tokenAt_138 ?_
      refine aw_if_le 147 dX12_tokenAt_139 (by decide) (fun c41 => ?_) (fun c41 => ?_)
      · have h := h.1 c41
        refine aw_ldc2 (v := (10 : Int64)) dX12_tokenAt_147 oX12_140 ?_
        refine aw_lload 5 dX12_tokenAt_150 rfl ?_
        refine aw_lmul dX12_tokenAt_152 ?_
        refine aw_aload_n 0 dX12_tokenAt_153 rfl rfl ?_
        refine aw_iload_n 2 dX12_tokenAt_154 rfl rfl ?_
        refine aw_iload 4 dX12_tokenAt_155 rfl ?_
        refine aw_iadd dX12_tokenAt_157 ?_
        refine aw_callVT (mc1 := 0) (ms1 := 0) (mc := 0) (ms := 0) (st := [.long ((10 : Int64) * x6)]) (q := 0) (As := [.int (x2 + x5)]) lX12_101 insX12_byteAt selX12_byteAt ⟨TX12, 50, rfl⟩ (by omega) (kX12_byteAt (d := 0) (by omega) h) (Nat.le_of_ble_eq_true rfl) rfl rfl rfl dX12_tokenAt_158 rfl (fun _ _ hh => ?_)
        obtain ⟨r39, τ40, rfl, rfl, h⟩ := hh
        refine aw_stk (st' := [.int r39, .long ((10 : Int64) * x6)]) rfl ?_
        refine aw_i2l dX12_tokenAt_161 ?_
        refine aw_ladd dX12_tokenAt_162 ?_
        refine aw_ldc2 (v := (48 : Int64)) dX12_tokenAt_163 oX12_142 ?_
        refine aw_lsub dX12_tokenAt_166 ?_
        refine aw_lvsub (lv' := [(0, .ref 0), (1, .int x1), (2, .int x2), (3, .int x3), (5, .int x5)]) [0, 1, 2, 3, 4] rfl ?_
        exact aw_X12_tokenAt_167 hd hrec_119 h
      · have h := h.2 c41
        refine aw_lload 5 dX12_tokenAt_142 rfl ?_
        refine aw_goto 167 dX12_tokenAt_144 (by decide) ?_
        refine aw_lvsub (lv' := [(0, .ref 0), (1, .int x1), (2, .int x2), (3, .int x3), (5, .int x5)]) [0, 1, 2, 3, 4] rfl ?_
        exact aw_X12_tokenAt_167 hd hrec_119 h
def wp_X12_tokenAt_71 (rec_43 : WSX12 × Int32 × Int32 × Int32 → Prop) (post : Int32 → WSX12 → Prop) (σ : WSX12) (x1 : Int32) (x2 : Int32) (x5 : Int32) : Prop :=
  rec_43 (σ, x1, x2, (x5 + 1))
theorem aw_X12_tokenAt_71 {G : aw_G} {d : Nat} (hd : 6 ≤ d) {rec_43 : WSX12 × Int32 × Int32 × Int32 → Prop} {post : Int32 → WSX12 → Prop} (hrec_43 : ∀ a : WSX12 × Int32 × Int32 × Int32, rec_43 a → AW G MX12_tokenAt d 0 0 25 (aw_pi (wX12 G) post) 43 [(0, .ref 0), (1, .int a.2.1), (2, .int a.2.2.1), (5, .int a.2.2.2)] [] (wX12 G a.1)) {σ : WSX12} {x1 : Int32} {x2 : Int32} {x5 : Int32} (h : wp_X12_tokenAt_71 rec_43 post σ x1 x2 x5) : AW G MX12_tokenAt d 0 0 25 (aw_pi (wX12 G) post) 71 [(0, .ref 0), (1, .int x1), (2, .int x2), (5, .int x5)] [] (wX12 G σ) := by
  unfold wp_X12_tokenAt_71 at h
  refine aw_iinc 3 (v := (x5 + 1)) (lv' := [(5, .int (x5 + 1)), (0, .ref 0), (1, .int x1), (2, .int x2)]) dX12_tokenAt_71 rfl rfl (by decide) rfl ?_
  refine aw_goto 43 dX12_tokenAt_74 (by decide) ?_
  refine aw_lvsub (lv' := [(0, .ref 0), (1, .int x1), (2, .int x2), (5, .int (x5 + 1))]) [1, 2, 3, 0] rfl ?_
  exact hrec_43 (σ, x1, x2, (x5 + 1)) h
def wb_X12_tokenAt_43  (post : Int32 → WSX12 → Prop) (rec_43 : WSX12 × Int32 × Int32 × Int32 → Prop) (σ : WSX12) (x1 : Int32) (x2 : Int32) (x5 : Int32) : Prop :=
  wp_X12_byteAt σ (x2 + x5) (fun r45 τ46 => wp_X12_isLetter r45 (fun r47 τ48 => ((¬ r47 = 0 → wp_X12_tokenAt_71 rec_43 post τ46 x1 x2 x5) ∧ (r47 = 0 → wp_X12_byteAt τ46 (x2 + x5) (fun r49 τ50 => wp_X12_isDigit r49 (fun r51 τ52 => ((r51 = 0 → (vp_in x1 3002 ∧ ∀ y53 : Nat → Int32, y53 = upd τ50.1.1.1.2.2.2 (x1).toNatClampNeg x5 → ((x5 ≤ (10 : Int32) → wp_X12_wordOf ((((τ50.1.1.1.1, (τ50.1.1.1.2.1, (τ50.1.1.1.2.2.1, y53))), τ50.1.1.2), τ50.1.2), τ50.2) x2 x5 (fun r54 τ55 => post r54 τ55)) ∧ (¬ x5 ≤ (10 : Int32) → post (11 : Int32) ((((τ50.1.1.1.1, (τ50.1.1.1.2.1, (τ50.1.1.1.2.2.1, y53))), τ50.1.1.2), τ50.1.2), τ50.2))))) ∧ (¬ r51 = 0 → wp_X12_tokenAt_71 rec_43 post τ50 x1 x2 x5))))))))
def wp_X12_tokenAt_43  (post : Int32 → WSX12 → Prop) (n : Nat) (σ : WSX12) (x1 : Int32) (x2 : Int32) (x5 : Int32) : Prop := aw_loop (fun r (a : WSX12 × Int32 × Int32 × Int32) => wb_X12_tokenAt_43  post r a.1 a.2.1 a.2.2.1 a.2.2.2) n (σ, x1, x2, x5)
theorem aw_X12_tokenAt_43 {G : aw_G} {d : Nat} (hd : 6 ≤ d) {post : Int32 → WSX12 → Prop}  : ∀ (n : Nat) (σ : WSX12) (x1 : Int32) (x2 : Int32) (x5 : Int32), wp_X12_tokenAt_43  post n σ x1 x2 x5 → AW G MX12_tokenAt d 0 0 25 (aw_pi (wX12 G) post) 43 [(0, .ref 0), (1, .int x1), (2, .int x2), (5, .int x5)] [] (wX12 G σ) := by
  intro n
  induction n with
  | zero => intro σ x1 x2 x5 h; exact h.elim
  | succ n ih =>
    intro σ x1 x2 x5 h
    have hrec_43 : ∀ a : WSX12 × Int32 × Int32 × Int32, aw_loop (fun r (a : WSX12 × Int32 × Int32 × Int32) => wb_X12_tokenAt_43  post r a.1 a.2.1 a.2.2.1 a.2.2.2) n a → AW G MX12_tokenAt d 0 0 25 (aw_pi (wX12 G) post) 43 [(0, .ref 0), (1, .int a.2.1), (2, .int a.2.2.1), (5, .int a.2.2.2)] [] (wX12 G a.1) := fun a h => ih a.1 a.2.1 a.2.2.1 a.2.2.2 h
    have h : wb_X12_tokenAt_43  post (aw_loop (fun r (a : WSX12 × Int32 × Int32 × Int32) => wb_X12_tokenAt_43  post r a.1 a.2.1 a.2.2.1 a.2.2.2) n) σ x1 x2 x5 := h
    unfold wb_X12_tokenAt_43 at h
    refine aw_aload_n 0 dX12_tokenAt_43 rfl rfl ?_
    refine aw_iload_n 2 dX12_tokenAt_44 rfl rfl ?_
    refine aw_iload 3 dX12_tokenAt_45 rfl ?_
    refine aw_iadd dX12_tokenAt_47 ?_
    refine aw_callVT (mc1 := 0) (ms1 := 0) (mc := 0) (ms := 0) (st := []) (q := 0) (As := [.int (x2 + x5)]) lX12_101 insX12_byteAt selX12_byteAt ⟨TX12, 50, rfl⟩ (by omega) (kX12_byteAt (d := 0) (by omega) h) (Nat.le_of_ble_eq_true rfl) rfl rfl rfl dX12_tokenAt_48 rfl (fun _ _ hh => ?_)
    obtain ⟨r45, τ46, rfl, rfl, h⟩ := hh
    refine aw_stk (st' := [.int r45]) rfl ?_
    refine aw_callST (st := []) (As := [.int r45]) lX12_127 sttX12_isLetter (by omega) (kX12_isLetter (d := 0) (by omega) h) rfl rfl rfl dX12_tokenAt_51 rfl (fun _ _ hh => ?_)
    obtain ⟨r47, τ48, rfl, rfl, h⟩ := hh
    refine ⟨rfl, (fun x hx => by cases hx; rfl), ?_⟩
    refine aw_stk (st' := [.int r47]) rfl ?_
    refine aw_if_ne 71 dX12_tokenAt_54 (by decide) (fun c58 => ?_) (fun c58 => ?_)
    · have h := h.1 c58
      exact aw_X12_tokenAt_71 hd hrec_43 h
    · have h := h.2 c58
      refine aw_aload_n 0 dX12_tokenAt_57 rfl rfl ?_
      refine aw_iload_n 2 dX12_tokenAt_58 rfl rfl ?_
      refine aw_iload 3 dX12_tokenAt_59 rfl ?_
      refine aw_iadd dX12_tokenAt_61 ?_
      refine aw_callVT (mc1 := 0) (ms1 := 0) (mc := 0) (ms := 0) (st := []) (q := 0) (As := [.int (x2 + x5)]) lX12_101 insX12_byteAt selX12_byteAt ⟨TX12, 50, rfl⟩ (by omega) (kX12_byteAt (d := 0) (by omega) h) (Nat.le_of_ble_eq_true rfl) rfl rfl rfl dX12_tokenAt_62 rfl (fun _ _ hh => ?_)
      obtain ⟨r49, τ50, rfl, rfl, h⟩ := hh
      refine aw_stk (st' := [.int r49]) rfl ?_
      refine aw_callST (st := []) (As := [.int r49]) lX12_131 sttX12_isDigit (by omega) (kX12_isDigit (d := 0) (by omega) h) rfl rfl rfl dX12_tokenAt_65 rfl (fun _ _ hh => ?_)
      obtain ⟨r51, τ52, rfl, rfl, h⟩ := hh
      refine ⟨rfl, (fun x hx => by cases hx; rfl), ?_⟩
      refine aw_stk (st' := [.int r51]) rfl ?_
      refine aw_if_eq 77 dX12_tokenAt_68 (by decide) (fun c57 => ?_) (fun c57 => ?_)
      · have h := h.1 c57
        refine aw_aload_n 0 dX12_tokenAt_77 rfl rfl ?_
        refine aw_getf (v := .ref 4) fX12_19 0 rfl rfl dX12_tokenAt_78 ?_
        refine aw_iload_n 1 dX12_tokenAt_81 rfl rfl ?_
        refine aw_iload 3 dX12_tokenAt_82 rfl ?_
        refine aw_iast 4 (n := 3002) (f := τ50.1.1.1.2.2.2) (w' := fun y53 => (wX12 G ((((τ50.1.1.1.1, (τ50.1.1.1.2.1, (τ50.1.1.1.2.2.1, y53))), τ50.1.1.2), τ50.1.2), τ50.2))) rfl h.1 (fun _ => rfl) dX12_tokenAt_84 (fun y53 ey53 => ?_)
        have h := h.2 y53 ey53
        refine aw_iload 3 dX12_tokenAt_85 rfl ?_
        refine aw_bipush (v := (10 : Int32)) dX12_tokenAt_87 (by decide) ?_
        refine aw_icmp_le 97 dX12_tokenAt_89 (by decide) (fun c56 => ?_) (fun c56 => ?_)
        · have h := h.1 c56
          refine aw_aload_n 0 dX12_tokenAt_97 rfl rfl ?_
          refine aw_iload_n 2 dX12_tokenAt_98 rfl rfl ?_
          refine aw_iload 3 dX12_tokenAt_99 rfl ?_
          refine aw_callVT (mc1 := 0) (ms1 := 0) (mc := 0) (ms := 0) (st := []) (q := 0) (As := [.int x2, .int x5]) lX12_134 insX12_wordOf selX12_wordOf ⟨TX12, 50, rfl⟩ (by omega) (kX12_wordOf (d := 5) (by omega) h) (Nat.le_of_ble_eq_true rfl) rfl rfl rfl dX12_tokenAt_101 rfl (fun _ _ hh => ?_)
          obtain ⟨r54, τ55, rfl, rfl, h⟩ := hh
          refine aw_stk (st' := [.int r54]) rfl ?_
          exact aw_iret rfl dX12_tokenAt_104 ⟨_, τ55, rfl, rfl, h⟩
        · have h := h.2 c56
          refine aw_bipush (v := (11 : Int32)) dX12_tokenAt_92 (by decide) ?_
          refine aw_goto 104 dX12_tokenAt_94 (by decide) ?_
          exact aw_iret rfl dX12_tokenAt_104 ⟨_, ((((τ50.1.1.1.1, (τ50.1.1.1.2.1, (τ50.1.1.1.2.2.1, y53))), τ50.1.1.2), τ50.1.2), τ50.2), rfl, rfl, h⟩
      · have h := h.2 c57
        exact aw_X12_tokenAt_71 hd hrec_43 h
def wp_X12_tokenAt (σ : WSX12) (a1 : Int32) (a2 : Int32) (post : Int32 → WSX12 → Prop) : Prop :=
  wp_X12_byteAt σ a2 (fun r1 τ2 => wp_X12_byteAt τ2 (a2 + (1 : Int32)) (fun r3 τ4 => (vp_in a1 3002 ∧ ∀ y5 : Nat → Int32, y5 = upd τ4.1.1.1.2.2.2 (a1).toNatClampNeg (0 : Int32) → ((a2 < τ4.1.1.1.1.2.2 → wp_X12_isLetter r1 (fun r6 τ7 => ((r6 = 0 → wp_X12_isDigit r1 (fun r8 τ9 => ((r8 = 0 → (vp_in a1 3002 ∧ ∀ y10 : Nat → Int32, y10 = upd y5 (a1).toNatClampNeg (2 : Int32) → ((¬ r1 = (60 : Int32) → wp_X12_tokenAt_249  post ((((τ4.1.1.1.1, (τ4.1.1.1.2.1, (τ4.1.1.1.2.2.1, y10))), τ4.1.1.2), τ4.1.2), τ4.2) a1 r1 r3) ∧ (r1 = (60 : Int32) → ((¬ r3 = (61 : Int32) → wp_X12_tokenAt_249  post ((((τ4.1.1.1.1, (τ4.1.1.1.2.1, (τ4.1.1.1.2.2.1, y10))), τ4.1.1.2), τ4.1.2), τ4.2) a1 r1 r3) ∧ (r3 = (61 : Int32) → post (200 : Int32) ((((τ4.1.1.1.1, (τ4.1.1.1.2.1, (τ4.1.1.1.2.2.1, y10))), τ4.1.1.2), τ4.1.2), τ4.2))))))) ∧ (¬ r8 = 0 → (∀ y25 : Int64, y25 = ((r1 - (48 : Int32))).toInt64 → (∃ n43, wp_X12_tokenAt_119  post n43 ((((τ4.1.1.1.1, (τ4.1.1.1.2.1, (τ4.1.1.1.2.2.1, y5))), τ4.1.1.2), τ4.1.2), τ4.2) a1 a2 r1 (1 : Int32) y25)))))) ∧ (¬ r6 = 0 → (∃ n59, wp_X12_tokenAt_43  post n59 ((((τ4.1.1.1.1, (τ4.1.1.1.2.1, (τ4.1.1.1.2.2.1, y5))), τ4.1.1.2), τ4.1.2), τ4.2) a1 a2 (1 : Int32)))))) ∧ (¬ a2 < τ4.1.1.1.1.2.2 → post (10 : Int32) ((((τ4.1.1.1.1, (τ4.1.1.1.2.1, (τ4.1.1.1.2.2.1, y5))), τ4.1.1.2), τ4.1.2), τ4.2))))))
theorem kX12_tokenAt {G : aw_G} {d : Nat} (hd : 6 ≤ d) {σ : WSX12} {a1 : Int32} {a2 : Int32} {post : Int32 → WSX12 → Prop} (h : wp_X12_tokenAt σ a1 a2 post) : AC G MX12_tokenAt d 0 0 25 [.ref 0, .int a1, .int a2] (wX12 G σ) (aw_pi (wX12 G) post) := by
  refine AC.of (lv := [(0, .ref 0), (1, .int a1), (2, .int a2)]) (by decide) (Nat.le_of_ble_eq_true rfl) rfl ?_
  unfold wp_X12_tokenAt at h
  refine aw_aload_n 0 dX12_tokenAt_0 rfl rfl ?_
  refine aw_iload_n 2 dX12_tokenAt_1 rfl rfl ?_
  refine aw_callVT (mc1 := 0) (ms1 := 0) (mc := 0) (ms := 0) (st := []) (q := 0) (As := [.int a2]) lX12_101 insX12_byteAt selX12_byteAt ⟨TX12, 50, rfl⟩ (by omega) (kX12_byteAt (d := 0) (by omega) h) (Nat.le_of_ble_eq_true rfl) rfl rfl rfl dX12_tokenAt_2 rfl (fun _ _ hh => ?_)
  obtain ⟨r1, τ2, rfl, rfl, h⟩ := hh
  refine aw_stk (st' := [.int r1]) rfl ?_
  refine aw_istore_n (lv' := [(3, .int r1), (0, .ref 0), (1, .int a1), (2, .int a2)]) dX12_tokenAt_5 rfl (by decide) rfl ?_
  refine aw_aload_n 1 dX12_tokenAt_6 rfl rfl ?_
  refine aw_iload_n 3 dX12_tokenAt_7 rfl rfl ?_
  refine aw_iconst (v := (1 : Int32)) dX12_tokenAt_8 (by decide) ?_
  refine aw_iadd dX12_tokenAt_9 ?_
  refine aw_callVT (mc1 := 0) (ms1 := 0) (mc := 0) (ms := 0) (st := []) (q := 0) (As := [.int (a2 + (1 : Int32))]) lX12_101 insX12_byteAt selX12_byteAt ⟨TX12, 50, rfl⟩ (by omega) (kX12_byteAt (d := 0) (by omega) h) (Nat.le_of_ble_eq_true rfl) rfl rfl rfl dX12_tokenAt_10 rfl (fun _ _ hh => ?_)
  obtain ⟨r3, τ4, rfl, rfl, h⟩ := hh
  refine aw_stk (st' := [.int r3]) rfl ?_
  refine aw_istore (lv' := [(4, .int r3), (3, .int r1), (0, .ref 0), (1, .int a1), (2, .int a2)]) dX12_tokenAt_13 (by decide) rfl ?_
  refine aw_aload_n 2 dX12_tokenAt_15 rfl rfl ?_
  refine aw_getf (v := .ref 4) fX12_19 0 rfl rfl dX12_tokenAt_16 ?_
  refine aw_iload_n 3 dX12_tokenAt_19 rfl rfl ?_
  refine aw_iconst (v := (0 : Int32)) dX12_tokenAt_20 (by decide) ?_
  refine aw_iast 4 (n := 3002) (f := τ4.1.1.1.2.2.2) (w' := fun y5 => (wX12 G ((((τ4.1.1.1.1, (τ4.1.1.1.2.1, (τ4.1.1.1.2.2.1, y5))), τ4.1.1.2), τ4.1.2), τ4.2))) rfl h.1 (fun _ => rfl) dX12_tokenAt_21 (fun y5 ey5 => ?_)
  have h := h.2 y5 ey5
  refine aw_iload_n 4 dX12_tokenAt_22 rfl rfl ?_
  refine aw_aload_n 2 dX12_tokenAt_23 rfl rfl ?_
  refine aw_getf (v := .int τ4.1.1.1.1.2.2) fX12_93 0 rfl rfl dX12_tokenAt_24 ?_
  refine aw_icmp_lt 33 dX12_tokenAt_27 (by decide) (fun c61 => ?_) (fun c61 => ?_)
  · have h := h.1 c61
    refine aw_iconst (v := (1 : Int32)) dX12_tokenAt_33 (by decide) ?_
    refine aw_istore (lv' := [(5, .int (1 : Int32)), (4, .int r3), (3, .int r1), (0, .ref 0), (1, .int a1), (2, .int a2)]) dX12_tokenAt_34 (by decide) rfl ?_
    refine aw_iload_n 2 dX12_tokenAt_36 rfl rfl ?_
    refine aw_callST (st := []) (As := [.int r1]) lX12_127 sttX12_isLetter (by omega) (kX12_isLetter (d := 0) (by omega) h) rfl rfl rfl dX12_tokenAt_37 rfl (fun _ _ hh => ?_)
    obtain ⟨r6, τ7, rfl, rfl, h⟩ := hh
    refine ⟨rfl, (fun x hx => by cases hx; rfl), ?_⟩
    refine aw_stk (st' := [.int r6]) rfl ?_
    refine aw_if_eq 105 dX12_tokenAt_40 (by decide) (fun c60 => ?_) (fun c60 => ?_)
    · have h := h.1 c60
      refine aw_iload_n 2 dX12_tokenAt_105 rfl rfl ?_
      refine aw_callST (st := []) (As := [.int r1]) lX12_131 sttX12_isDigit (by omega) (kX12_isDigit (d := 0) (by omega) h) rfl rfl rfl dX12_tokenAt_106 rfl (fun _ _ hh => ?_)
      obtain ⟨r8, τ9, rfl, rfl, h⟩ := hh
      refine ⟨rfl, (fun x hx => by cases hx; rfl), ?_⟩
      refine aw_stk (st' := [.int r8]) rfl ?_
      refine aw_if_eq 225 dX12_tokenAt_109 (by decide) (fun c44 => ?_) (fun c44 => ?_)
      · have h := h.1 c44
        refine aw_aload_n 3 dX12_tokenAt_225 rfl rfl ?_
        refine aw_getf (v := .ref 4) fX12_19 0 rfl rfl dX12_tokenAt_226 ?_
        refine aw_iload_n 4 dX12_tokenAt_229 rfl rfl ?_
        refine aw_iconst (v := (2 : Int32)) dX12_tokenAt_230 (by decide) ?_
        refine aw_iast 4 (n := 3002) (f := y5) (w' := fun y10 => (wX12 G ((((τ4.1.1.1.1, (τ4.1.1.1.2.1, (τ4.1.1.1.2.2.1, y10))), τ4.1.1.2), τ4.1.2), τ4.2))) rfl h.1 (fun _ => rfl) dX12_tokenAt_231 (fun y10 ey10 => ?_)
        have h := h.2 y10 ey10
        refine aw_iload_n 2 dX12_tokenAt_232 rfl rfl ?_
        refine aw_bipush (v := (60 : Int32)) dX12_tokenAt_233 (by decide) ?_
        refine aw_icmp_ne 249 dX12_tokenAt_235 (by decide) (fun c24 => ?_) (fun c24 => ?_)
        · have h := h.1 c24
          refine aw_lvsub (lv' := [(0, .ref 0), (1, .int a1), (3, .int r1), (4, .int r3)]) [3, 4, 2, 1] rfl ?_
          exact aw_X12_tokenAt_249 hd  h
        · have h := h.2 c24
          refine aw_iload 1 dX12_tokenAt_238 rfl ?_
          refine aw_bipush (v := (61 : Int32)) dX12_tokenAt_240 (by decide) ?_
          refine aw_icmp_ne 249 dX12_tokenAt_242 (by decide) (fun c23 => ?_) (fun c23 => ?_)
          · have h := h.1 c23
            refine aw_lvsub (lv' := [(0, .ref 0), (1, .int a1), (3, .int r1), (4, .int r3)]) [3, 4, 2, 1] rfl ?_
            exact aw_X12_tokenAt_249 hd  h
          · have h := h.2 c23
            refine aw_sipush (v := (200 : Int32)) dX12_tokenAt_245 (by decide) ?_
            exact aw_iret rfl dX12_tokenAt_248 ⟨_, ((((τ4.1.1.1.1, (τ4.1.1.1.2.1, (τ4.1.1.1.2.2.1, y10))), τ4.1.1.2), τ4.1.2), τ4.2), rfl, rfl, h⟩
      · have h := h.2 c44
        refine aw_iload_n 2 dX12_tokenAt_112 rfl rfl ?_
        refine aw_bipush (v := (48 : Int32)) dX12_tokenAt_113 (by decide) ?_
        refine aw_isub dX12_tokenAt_115 ?_
        refine aw_i2l dX12_tokenAt_116 ?_
        refine aw_topl (fun y25 ey25 => ?_)
        have h := h y25 ey25
        refine aw_lstore (lv' := [(6, .long y25), (5, .int (1 : Int32)), (4, .int r3), (3, .int r1), (0, .ref 0), (1, .int a1), (2, .int a2)]) dX12_tokenAt_117 (by decide) rfl ?_
        refine aw_lvsub (lv' := [(0, .ref 0), (1, .int a1), (2, .int a2), (3, .int r1), (5, .int (1 : Int32)), (6, .long y25)]) [4, 5, 6, 3, 1, 0] rfl ?_
        obtain ⟨n43, h⟩ := h
        exact aw_X12_tokenAt_119 hd  n43 ((((τ4.1.1.1.1, (τ4.1.1.1.2.1, (τ4.1.1.1.2.2.1, y5))), τ4.1.1.2), τ4.1.2), τ4.2) a1 a2 r1 (1 : Int32) y25 h
    · have h := h.2 c60
      refine aw_lvsub (lv' := [(0, .ref 0), (1, .int a1), (2, .int a2), (5, .int (1 : Int32))]) [3, 4, 5, 0] rfl ?_
      obtain ⟨n59, h⟩ := h
      exact aw_X12_tokenAt_43 hd  n59 ((((τ4.1.1.1.1, (τ4.1.1.1.2.1, (τ4.1.1.1.2.2.1, y5))), τ4.1.1.2), τ4.1.2), τ4.2) a1 a2 (1 : Int32) h
  · have h := h.2 c61
    refine aw_bipush (v := (10 : Int32)) dX12_tokenAt_30 (by decide) ?_
    exact aw_iret rfl dX12_tokenAt_32 ⟨_, ((((τ4.1.1.1.1, (τ4.1.1.1.2.1, (τ4.1.1.1.2.2.1, y5))), τ4.1.1.2), τ4.1.2), τ4.2), rfl, rfl, h⟩
def wp_X12_cut_119 (rec_6 : WSX12 × Int32 × Int32 × Int32 → Prop) (post : WSX12 → Prop) (σ : WSX12) (x1 : Int32) (x2 : Int32) (s0 : Int32) : Prop :=
  rec_6 (σ, x1, (x2 + 1), s0)
theorem aw_X12_cut_119 {G : aw_G} {d : Nat} (hd : 7 ≤ d) {rec_6 : WSX12 × Int32 × Int32 × Int32 → Prop} {post : WSX12 → Prop} (hrec_6 : ∀ a : WSX12 × Int32 × Int32 × Int32, rec_6 a → AW G MX12_cut d 0 0 25 (aw_pv (wX12 G) post) 6 [(0, .ref 0), (1, .int a.2.1), (2, .int a.2.2.1), (3, .int a.2.2.2)] [] (wX12 G a.1)) {σ : WSX12} {x1 : Int32} {x2 : Int32} {s0 : Int32} (h : wp_X12_cut_119 rec_6 post σ x1 x2 s0) : AW G MX12_cut d 0 0 25 (aw_pv (wX12 G) post) 119 [(0, .ref 0), (1, .int x1), (2, .int x2)] [.int s0] (wX12 G σ) := by
  unfold wp_X12_cut_119 at h
  refine aw_istore_n (lv' := [(3, .int s0), (0, .ref 0), (1, .int x1), (2, .int x2)]) dX12_cut_119 rfl (by decide) rfl ?_
  refine aw_iinc 3 (v := (x2 + 1)) (lv' := [(2, .int (x2 + 1)), (3, .int s0), (0, .ref 0), (1, .int x1)]) dX12_cut_120 rfl rfl (by decide) rfl ?_
  refine aw_goto 6 dX12_cut_123 (by decide) ?_
  refine aw_lvsub (lv' := [(0, .ref 0), (1, .int x1), (2, .int (x2 + 1)), (3, .int s0)]) [2, 3, 0, 1] rfl ?_
  exact hrec_6 (σ, x1, (x2 + 1), s0) h
def wp_X12_cut_118 (rec_6 : WSX12 × Int32 × Int32 × Int32 → Prop) (post : WSX12 → Prop) (σ : WSX12) (x1 : Int32) (x2 : Int32) : Prop :=
  wp_X12_cut_119 rec_6 post σ x1 x2 (0 : Int32)
theorem aw_X12_cut_118 {G : aw_G} {d : Nat} (hd : 7 ≤ d) {rec_6 : WSX12 × Int32 × Int32 × Int32 → Prop} {post : WSX12 → Prop} (hrec_6 : ∀ a : WSX12 × Int32 × Int32 × Int32, rec_6 a → AW G MX12_cut d 0 0 25 (aw_pv (wX12 G) post) 6 [(0, .ref 0), (1, .int a.2.1), (2, .int a.2.2.1), (3, .int a.2.2.2)] [] (wX12 G a.1)) {σ : WSX12} {x1 : Int32} {x2 : Int32} (h : wp_X12_cut_118 rec_6 post σ x1 x2) : AW G MX12_cut d 0 0 25 (aw_pv (wX12 G) post) 118 [(0, .ref 0), (1, .int x1), (2, .int x2)] [] (wX12 G σ) := by
  unfold wp_X12_cut_118 at h
  refine aw_iconst (v := (0 : Int32)) dX12_cut_118 (by decide) ?_
  exact aw_X12_cut_119 hd hrec_6 h
def wp_X12_cut_64 (rec_6 : WSX12 × Int32 × Int32 × Int32 → Prop) (post : WSX12 → Prop) (σ : WSX12) (x1 : Int32) (x2 : Int32) : Prop :=
  (vp_in x2 3002 ∧ ∀ y1 : Nat → Int32, y1 = upd σ.1.1.1.2.2.1 (x2).toNatClampNeg x1 → wp_X12_tokenAt ((((σ.1.1.1.1, (σ.1.1.1.2.1, (y1, σ.1.1.1.2.2.2))), σ.1.1.2), σ.1.2), σ.2) x2 x1 (fun r2 τ3 => (vp_in x2 3002 ∧ ∀ y4 : Nat → Int32, y4 = upd τ3.1.1.1.2.1 (x2).toNatClampNeg r2 → (vp_in x2 3002 ∧ (∀ y5 : Int32, y5 = (x1 + (τ3.1.1.1.2.2.2 (x2).toNatClampNeg)) → (vp_in x2 3002 ∧ (((y4 (x2).toNatClampNeg) = (10 : Int32) → wp_X12_cut_118 rec_6 post ((((τ3.1.1.1.1, (y4, τ3.1.1.1.2.2)), τ3.1.1.2), τ3.1.2), τ3.2) y5 x2) ∧ (¬ (y4 (x2).toNatClampNeg) = (10 : Int32) → (vp_in x2 3002 ∧ (((y4 (x2).toNatClampNeg) = (11 : Int32) → wp_X12_cut_118 rec_6 post ((((τ3.1.1.1.1, (y4, τ3.1.1.1.2.2)), τ3.1.1.2), τ3.1.2), τ3.2) y5 x2) ∧ (¬ (y4 (x2).toNatClampNeg) = (11 : Int32) → wp_X12_cut_119 rec_6 post ((((τ3.1.1.1.1, (y4, τ3.1.1.1.2.2)), τ3.1.1.2), τ3.1.2), τ3.2) y5 x2 (1 : Int32))))))))))))
theorem aw_X12_cut_64 {G : aw_G} {d : Nat} (hd : 7 ≤ d) {rec_6 : WSX12 × Int32 × Int32 × Int32 → Prop} {post : WSX12 → Prop} (hrec_6 : ∀ a : WSX12 × Int32 × Int32 × Int32, rec_6 a → AW G MX12_cut d 0 0 25 (aw_pv (wX12 G) post) 6 [(0, .ref 0), (1, .int a.2.1), (2, .int a.2.2.1), (3, .int a.2.2.2)] [] (wX12 G a.1)) {σ : WSX12} {x1 : Int32} {x2 : Int32} (h : wp_X12_cut_64 rec_6 post σ x1 x2) : AW G MX12_cut d 0 0 25 (aw_pv (wX12 G) post) 64 [(0, .ref 0), (1, .int x1), (2, .int x2)] [] (wX12 G σ) := by
  unfold wp_X12_cut_64 at h
  refine aw_aload_n 0 dX12_cut_64 rfl rfl ?_
  refine aw_getf (v := .ref 3) fX12_16 0 rfl rfl dX12_cut_65 ?_
  refine aw_iload_n 2 dX12_cut_68 rfl rfl ?_
  refine aw_iload_n 1 dX12_cut_69 rfl rfl ?_
  refine aw_iast 3 (n := 3002) (f := σ.1.1.1.2.2.1) (w' := fun y1 => (wX12 G ((((σ.1.1.1.1, (σ.1.1.1.2.1, (y1, σ.1.1.1.2.2.2))), σ.1.1.2), σ.1.2), σ.2))) rfl h.1 (fun _ => rfl) dX12_cut_70 (fun y1 ey1 => ?_)
  have h := h.2 y1 ey1
  refine aw_aload_n 0 dX12_cut_71 rfl rfl ?_
  refine aw_getf (v := .ref 2) fX12_13 0 rfl rfl dX12_cut_72 ?_
  refine aw_iload_n 2 dX12_cut_75 rfl rfl ?_
  refine aw_aload_n 0 dX12_cut_76 rfl rfl ?_
  refine aw_iload_n 2 dX12_cut_77 rfl rfl ?_
  refine aw_iload_n 1 dX12_cut_78 rfl rfl ?_
  refine aw_callVT (mc1 := 0) (ms1 := 0) (mc := 0) (ms := 0) (st := [.int x2, .ref 2]) (q := 0) (As := [.int x2, .int x1]) lX12_148 insX12_tokenAt selX12_tokenAt ⟨TX12, 50, rfl⟩ (by omega) (kX12_tokenAt (d := 6) (by omega) h) (Nat.le_of_ble_eq_true rfl) rfl rfl rfl dX12_cut_79 rfl (fun _ _ hh => ?_)
  obtain ⟨r2, τ3, rfl, rfl, h⟩ := hh
  refine aw_stk (st' := [.int r2, .int x2, .ref 2]) rfl ?_
  refine aw_iast 2 (n := 3002) (f := τ3.1.1.1.2.1) (w' := fun y4 => (wX12 G ((((τ3.1.1.1.1, (y4, τ3.1.1.1.2.2)), τ3.1.1.2), τ3.1.2), τ3.2))) rfl h.1 (fun _ => rfl) dX12_cut_82 (fun y4 ey4 => ?_)
  have h := h.2 y4 ey4
  refine aw_iload_n 1 dX12_cut_83 rfl rfl ?_
  refine aw_aload_n 0 dX12_cut_84 rfl rfl ?_
  refine aw_getf (v := .ref 4) fX12_19 0 rfl rfl dX12_cut_85 ?_
  refine aw_iload_n 2 dX12_cut_88 rfl rfl ?_
  refine aw_iald 4 (n := 3002) (f := τ3.1.1.1.2.2.2) rfl h.1 dX12_cut_89 ?_
  have h := h.2
  refine aw_iadd dX12_cut_90 ?_
  refine aw_topi (fun y5 ey5 => ?_)
  have h := h y5 ey5
  refine aw_istore_n (lv' := [(1, .int y5), (0, .ref 0), (2, .int x2)]) dX12_cut_91 rfl (by decide) rfl ?_
  refine aw_aload_n 1 dX12_cut_92 rfl rfl ?_
  refine aw_getf (v := .ref 2) fX12_13 0 rfl rfl dX12_cut_93 ?_
  refine aw_iload_n 2 dX12_cut_96 rfl rfl ?_
  refine aw_iald 2 (n := 3002) (f := y4) rfl h.1 dX12_cut_97 ?_
  have h := h.2
  refine aw_bipush (v := (10 : Int32)) dX12_cut_98 (by decide) ?_
  refine aw_icmp_eq 118 dX12_cut_100 (by decide) (fun c7 => ?_) (fun c7 => ?_)
  · have h := h.1 c7
    refine aw_lvsub (lv' := [(0, .ref 0), (1, .int y5), (2, .int x2)]) [1, 0, 2] rfl ?_
    exact aw_X12_cut_118 hd hrec_6 h
  · have h := h.2 c7
    refine aw_aload_n 1 dX12_cut_103 rfl rfl ?_
    refine aw_getf (v := .ref 2) fX12_13 0 rfl rfl dX12_cut_104 ?_
    refine aw_iload_n 2 dX12_cut_107 rfl rfl ?_
    refine aw_iald 2 (n := 3002) (f := y4) rfl h.1 dX12_cut_108 ?_
    have h := h.2
    refine aw_bipush (v := (11 : Int32)) dX12_cut_109 (by decide) ?_
    refine aw_icmp_eq 118 dX12_cut_111 (by decide) (fun c6 => ?_) (fun c6 => ?_)
    · have h := h.1 c6
      refine aw_lvsub (lv' := [(0, .ref 0), (1, .int y5), (2, .int x2)]) [1, 0, 2] rfl ?_
      exact aw_X12_cut_118 hd hrec_6 h
    · have h := h.2 c6
      refine aw_iconst (v := (1 : Int32)) dX12_cut_114 (by decide) ?_
      refine aw_goto 119 dX12_cut_115 (by decide) ?_
      refine aw_lvsub (lv' := [(0, .ref 0), (1, .int y5), (2, .int x2)]) [1, 0, 2] rfl ?_
      exact aw_X12_cut_119 hd hrec_6 h
def wp_X12_cut_58 (rec_6 : WSX12 × Int32 × Int32 × Int32 → Prop) (rec_10 : WSX12 × Int32 × Int32 → Prop) (post : WSX12 → Prop) (σ : WSX12) (x1 : Int32) (x2 : Int32) : Prop :=
  rec_10 (σ, (x1 + 1), x2)
theorem aw_X12_cut_58 {G : aw_G} {d : Nat} (hd : 7 ≤ d) {rec_6 : WSX12 × Int32 × Int32 × Int32 → Prop} {rec_10 : WSX12 × Int32 × Int32 → Prop} {post : WSX12 → Prop} (hrec_6 : ∀ a : WSX12 × Int32 × Int32 × Int32, rec_6 a → AW G MX12_cut d 0 0 25 (aw_pv (wX12 G) post) 6 [(0, .ref 0), (1, .int a.2.1), (2, .int a.2.2.1), (3, .int a.2.2.2)] [] (wX12 G a.1)) (hrec_10 : ∀ a : WSX12 × Int32 × Int32, rec_10 a → AW G MX12_cut d 0 0 25 (aw_pv (wX12 G) post) 10 [(0, .ref 0), (1, .int a.2.1), (2, .int a.2.2)] [] (wX12 G a.1)) {σ : WSX12} {x1 : Int32} {x2 : Int32} (h : wp_X12_cut_58 rec_6 rec_10 post σ x1 x2) : AW G MX12_cut d 0 0 25 (aw_pv (wX12 G) post) 58 [(0, .ref 0), (1, .int x1), (2, .int x2)] [] (wX12 G σ) := by
  unfold wp_X12_cut_58 at h
  refine aw_iinc 1 (v := (x1 + 1)) (lv' := [(1, .int (x1 + 1)), (0, .ref 0), (2, .int x2)]) dX12_cut_58 rfl rfl (by decide) rfl ?_
  refine aw_goto 10 dX12_cut_61 (by decide) ?_
  refine aw_lvsub (lv' := [(0, .ref 0), (1, .int (x1 + 1)), (2, .int x2)]) [1, 0, 2] rfl ?_
  exact hrec_10 (σ, (x1 + 1), x2) h
def wb_X12_cut_10 (rec_6 : WSX12 × Int32 × Int32 × Int32 → Prop) (post : WSX12 → Prop) (rec_10 : WSX12 × Int32 × Int32 → Prop) (σ : WSX12) (x1 : Int32) (x2 : Int32) : Prop :=
  ((σ.1.1.1.1.2.2 ≤ x1 → wp_X12_cut_64 rec_6 post σ x1 x2) ∧ (¬ σ.1.1.1.1.2.2 ≤ x1 → wp_X12_byteAt σ x1 (fun r8 τ9 => ((r8 = (32 : Int32) → wp_X12_cut_58 rec_6 rec_10 post τ9 x1 x2) ∧ (¬ r8 = (32 : Int32) → wp_X12_byteAt τ9 x1 (fun r10 τ11 => ((r10 = (9 : Int32) → wp_X12_cut_58 rec_6 rec_10 post τ11 x1 x2) ∧ (¬ r10 = (9 : Int32) → wp_X12_byteAt τ11 x1 (fun r12 τ13 => ((r12 = (10 : Int32) → wp_X12_cut_58 rec_6 rec_10 post τ13 x1 x2) ∧ (¬ r12 = (10 : Int32) → wp_X12_byteAt τ13 x1 (fun r14 τ15 => ((¬ r14 = (13 : Int32) → wp_X12_cut_64 rec_6 post τ15 x1 x2) ∧ (r14 = (13 : Int32) → wp_X12_cut_58 rec_6 rec_10 post τ15 x1 x2))))))))))))))
def wp_X12_cut_10 (rec_6 : WSX12 × Int32 × Int32 × Int32 → Prop) (post : WSX12 → Prop) (n : Nat) (σ : WSX12) (x1 : Int32) (x2 : Int32) : Prop := aw_loop (fun r (a : WSX12 × Int32 × Int32) => wb_X12_cut_10 rec_6 post r a.1 a.2.1 a.2.2) n (σ, x1, x2)
theorem aw_X12_cut_10 {G : aw_G} {d : Nat} (hd : 7 ≤ d) {rec_6 : WSX12 × Int32 × Int32 × Int32 → Prop} {post : WSX12 → Prop} (hrec_6 : ∀ a : WSX12 × Int32 × Int32 × Int32, rec_6 a → AW G MX12_cut d 0 0 25 (aw_pv (wX12 G) post) 6 [(0, .ref 0), (1, .int a.2.1), (2, .int a.2.2.1), (3, .int a.2.2.2)] [] (wX12 G a.1)) : ∀ (n : Nat) (σ : WSX12) (x1 : Int32) (x2 : Int32), wp_X12_cut_10 rec_6 post n σ x1 x2 → AW G MX12_cut d 0 0 25 (aw_pv (wX12 G) post) 10 [(0, .ref 0), (1, .int x1), (2, .int x2)] [] (wX12 G σ) := by
  intro n
  induction n with
  | zero => intro σ x1 x2 h; exact h.elim
  | succ n ih =>
    intro σ x1 x2 h
    have hrec_10 : ∀ a : WSX12 × Int32 × Int32, aw_loop (fun r (a : WSX12 × Int32 × Int32) => wb_X12_cut_10 rec_6 post r a.1 a.2.1 a.2.2) n a → AW G MX12_cut d 0 0 25 (aw_pv (wX12 G) post) 10 [(0, .ref 0), (1, .int a.2.1), (2, .int a.2.2)] [] (wX12 G a.1) := fun a h => ih a.1 a.2.1 a.2.2 h
    have h : wb_X12_cut_10 rec_6 post (aw_loop (fun r (a : WSX12 × Int32 × Int32) => wb_X12_cut_10 rec_6 post r a.1 a.2.1 a.2.2) n) σ x1 x2 := h
    unfold wb_X12_cut_10 at h
    refine aw_iload_n 1 dX12_cut_10 rfl rfl ?_
    refine aw_aload_n 0 dX12_cut_11 rfl rfl ?_
    refine aw_getf (v := .int σ.1.1.1.1.2.2) fX12_93 0 rfl rfl dX12_cut_12 ?_
    refine aw_icmp_ge 64 dX12_cut_15 (by decide) (fun c20 => ?_) (fun c20 => ?_)
    · have h := h.1 c20
      exact aw_X12_cut_64 hd hrec_6 h
    · have h := h.2 c20
      refine aw_aload_n 0 dX12_cut_18 rfl rfl ?_
      refine aw_iload_n 1 dX12_cut_19 rfl rfl ?_
      refine aw_callVT (mc1 := 0) (ms1 := 0) (mc := 0) (ms := 0) (st := []) (q := 0) (As := [.int x1]) lX12_101 insX12_byteAt selX12_byteAt ⟨TX12, 50, rfl⟩ (by omega) (kX12_byteAt (d := 0) (by omega) h) (Nat.le_of_ble_eq_true rfl) rfl rfl rfl dX12_cut_20 rfl (fun _ _ hh => ?_)
      obtain ⟨r8, τ9, rfl, rfl, h⟩ := hh
      refine aw_stk (st' := [.int r8]) rfl ?_
      refine aw_bipush (v := (32 : Int32)) dX12_cut_23 (by decide) ?_
      refine aw_icmp_eq 58 dX12_cut_25 (by decide) (fun c19 => ?_) (fun c19 => ?_)
      · have h := h.1 c19
        exact aw_X12_cut_58 hd hrec_6 hrec_10 h
      · have h := h.2 c19
        refine aw_aload_n 0 dX12_cut_28 rfl rfl ?_
        refine aw_iload_n 1 dX12_cut_29 rfl rfl ?_
        refine aw_callVT (mc1 := 0) (ms1 := 0) (mc := 0) (ms := 0) (st := []) (q := 0) (As := [.int x1]) lX12_101 insX12_byteAt selX12_byteAt ⟨TX12, 50, rfl⟩ (by omega) (kX12_byteAt (d := 0) (by omega) h) (Nat.le_of_ble_eq_true rfl) rfl rfl rfl dX12_cut_30 rfl (fun _ _ hh => ?_)
        obtain ⟨r10, τ11, rfl, rfl, h⟩ := hh
        refine aw_stk (st' := [.int r10]) rfl ?_
        refine aw_bipush (v := (9 : Int32)) dX12_cut_33 (by decide) ?_
        refine aw_icmp_eq 58 dX12_cut_35 (by decide) (fun c18 => ?_) (fun c18 => ?_)
        · have h := h.1 c18
          exact aw_X12_cut_58 hd hrec_6 hrec_10 h
        · have h := h.2 c18
          refine aw_aload_n 0 dX12_cut_38 rfl rfl ?_
          refine aw_iload_n 1 dX12_cut_39 rfl rfl ?_
          refine aw_callVT (mc1 := 0) (ms1 := 0) (mc := 0) (ms := 0) (st := []) (q := 0) (As := [.int x1]) lX12_101 insX12_byteAt selX12_byteAt ⟨TX12, 50, rfl⟩ (by omega) (kX12_byteAt (d := 0) (by omega) h) (Nat.le_of_ble_eq_true rfl) rfl rfl rfl dX12_cut_40 rfl (fun _ _ hh => ?_)
          obtain ⟨r12, τ13, rfl, rfl, h⟩ := hh
          refine aw_stk (st' := [.int r12]) rfl ?_
          refine aw_bipush (v := (10 : Int32)) dX12_cut_43 (by decide) ?_
          refine aw_icmp_eq 58 dX12_cut_45 (by decide) (fun c17 => ?_) (fun c17 => ?_)
          · have h := h.1 c17
            exact aw_X12_cut_58 hd hrec_6 hrec_10 h
          · have h := h.2 c17
            refine aw_aload_n 0 dX12_cut_48 rfl rfl ?_
            refine aw_iload_n 1 dX12_cut_49 rfl rfl ?_
            refine aw_callVT (mc1 := 0) (ms1 := 0) (mc := 0) (ms := 0) (st := []) (q := 0) (As := [.int x1]) lX12_101 insX12_byteAt selX12_byteAt ⟨TX12, 50, rfl⟩ (by omega) (kX12_byteAt (d := 0) (by omega) h) (Nat.le_of_ble_eq_true rfl) rfl rfl rfl dX12_cut_50 rfl (fun _ _ hh => ?_)
            obtain ⟨r14, τ15, rfl, rfl, h⟩ := hh
            refine aw_stk (st' := [.int r14]) rfl ?_
            refine aw_bipush (v := (13 : Int32)) dX12_cut_53 (by decide) ?_
            refine aw_icmp_ne 64 dX12_cut_55 (by decide) (fun c16 => ?_) (fun c16 => ?_)
            · have h := h.1 c16
              exact aw_X12_cut_64 hd hrec_6 h
            · have h := h.2 c16
              exact aw_X12_cut_58 hd hrec_6 hrec_10 h
def wb_X12_cut_6  (post : WSX12 → Prop) (rec_6 : WSX12 × Int32 × Int32 × Int32 → Prop) (σ : WSX12) (x1 : Int32) (x2 : Int32) (x3 : Int32) : Prop :=
  ((x3 = 0 → post (((σ.1.1.1, (((0 : Int32), ((0 : Int32), σ.1.1.2.1.2.2)), σ.1.1.2.2)), σ.1.2), σ.2)) ∧ (¬ x3 = 0 → (∃ n21, wp_X12_cut_10 rec_6 post n21 σ x1 x2)))
def wp_X12_cut_6  (post : WSX12 → Prop) (n : Nat) (σ : WSX12) (x1 : Int32) (x2 : Int32) (x3 : Int32) : Prop := aw_loop (fun r (a : WSX12 × Int32 × Int32 × Int32) => wb_X12_cut_6  post r a.1 a.2.1 a.2.2.1 a.2.2.2) n (σ, x1, x2, x3)
theorem aw_X12_cut_6 {G : aw_G} {d : Nat} (hd : 7 ≤ d) {post : WSX12 → Prop}  : ∀ (n : Nat) (σ : WSX12) (x1 : Int32) (x2 : Int32) (x3 : Int32), wp_X12_cut_6  post n σ x1 x2 x3 → AW G MX12_cut d 0 0 25 (aw_pv (wX12 G) post) 6 [(0, .ref 0), (1, .int x1), (2, .int x2), (3, .int x3)] [] (wX12 G σ) := by
  intro n
  induction n with
  | zero => intro σ x1 x2 x3 h; exact h.elim
  | succ n ih =>
    intro σ x1 x2 x3 h
    have hrec_6 : ∀ a : WSX12 × Int32 × Int32 × Int32, aw_loop (fun r (a : WSX12 × Int32 × Int32 × Int32) => wb_X12_cut_6  post r a.1 a.2.1 a.2.2.1 a.2.2.2) n a → AW G MX12_cut d 0 0 25 (aw_pv (wX12 G) post) 6 [(0, .ref 0), (1, .int a.2.1), (2, .int a.2.2.1), (3, .int a.2.2.2)] [] (wX12 G a.1) := fun a h => ih a.1 a.2.1 a.2.2.1 a.2.2.2 h
    have h : wb_X12_cut_6  post (aw_loop (fun r (a : WSX12 × Int32 × Int32 × Int32) => wb_X12_cut_6  post r a.1 a.2.1 a.2.2.1 a.2.2.2) n) σ x1 x2 x3 := h
    unfold wb_X12_cut_6 at h
    refine aw_iload_n 3 dX12_cut_6 rfl rfl ?_
    refine aw_if_eq 126 dX12_cut_7 (by decide) (fun c22 => ?_) (fun c22 => ?_)
    · have h := h.1 c22
      refine aw_aload_n 0 dX12_cut_126 rfl rfl ?_
      refine aw_iconst (v := (0 : Int32)) dX12_cut_127 (by decide) ?_
      refine aw_putf fX12_151 0 (w' := (wX12 G (((σ.1.1.1, (((0 : Int32), σ.1.1.2.1.2), σ.1.1.2.2)), σ.1.2), σ.2))) rfl (fun _ => ⟨rfl, rfl⟩) (Nat.le_of_ble_eq_true rfl) rfl dX12_cut_128 ?_
      refine aw_aload_n 0 dX12_cut_131 rfl rfl ?_
      refine aw_iconst (v := (0 : Int32)) dX12_cut_132 (by decide) ?_
      refine aw_putf fX12_154 0 (w' := (wX12 G (((σ.1.1.1, (((0 : Int32), ((0 : Int32), σ.1.1.2.1.2.2)), σ.1.1.2.2)), σ.1.2), σ.2))) rfl (fun _ => ⟨rfl, rfl⟩) (Nat.le_of_ble_eq_true rfl) rfl dX12_cut_133 ?_
      exact aw_vret rfl dX12_cut_136 ⟨(((σ.1.1.1, (((0 : Int32), ((0 : Int32), σ.1.1.2.1.2.2)), σ.1.1.2.2)), σ.1.2), σ.2), rfl, rfl, h⟩
    · have h := h.2 c22
      refine aw_lvsub (lv' := [(0, .ref 0), (1, .int x1), (2, .int x2)]) [0, 1, 2] rfl ?_
      obtain ⟨n21, h⟩ := h
      exact aw_X12_cut_10 hd hrec_6 n21 σ x1 x2 h
def wp_X12_cut (σ : WSX12) (post : WSX12 → Prop) : Prop :=
  (∃ n23, wp_X12_cut_6  post n23 σ (0 : Int32) (0 : Int32) (1 : Int32))
theorem kX12_cut {G : aw_G} {d : Nat} (hd : 7 ≤ d) {σ : WSX12} {post : WSX12 → Prop} (h : wp_X12_cut σ post) : AC G MX12_cut d 0 0 25 [.ref 0] (wX12 G σ) (aw_pv (wX12 G) post) := by
  refine AC.of (lv := [(0, .ref 0)]) (by decide) (Nat.le_of_ble_eq_true rfl) rfl ?_
  unfold wp_X12_cut at h
  refine aw_iconst (v := (0 : Int32)) dX12_cut_0 (by decide) ?_
  refine aw_istore_n (lv' := [(1, .int (0 : Int32)), (0, .ref 0)]) dX12_cut_1 rfl (by decide) rfl ?_
  refine aw_iconst (v := (0 : Int32)) dX12_cut_2 (by decide) ?_
  refine aw_istore_n (lv' := [(2, .int (0 : Int32)), (1, .int (0 : Int32)), (0, .ref 0)]) dX12_cut_3 rfl (by decide) rfl ?_
  refine aw_iconst (v := (1 : Int32)) dX12_cut_4 (by decide) ?_
  refine aw_istore_n (lv' := [(3, .int (1 : Int32)), (2, .int (0 : Int32)), (1, .int (0 : Int32)), (0, .ref 0)]) dX12_cut_5 rfl (by decide) rfl ?_
  refine aw_lvsub (lv' := [(0, .ref 0), (1, .int (0 : Int32)), (2, .int (0 : Int32)), (3, .int (1 : Int32))]) [3, 2, 1, 0] rfl ?_
  obtain ⟨n23, h⟩ := h
  exact aw_X12_cut_6 hd  n23 σ (0 : Int32) (0 : Int32) (1 : Int32) h
def wp_X12_node (σ : WSX12) (a1 : Int32) (a2 : Int32) (post : Int32 → WSX12 → Prop) : Prop :=
  (vp_in σ.1.1.2.1.2.2 9000 ∧ ∀ y1 : Nat → Int32, y1 = upd σ.1.1.2.2.1 (σ.1.1.2.1.2.2).toNatClampNeg a1 → (vp_in σ.1.1.2.1.2.2 9000 ∧ ∀ y2 : Nat → Int32, y2 = upd σ.1.1.2.2.2.1 (σ.1.1.2.1.2.2).toNatClampNeg a2 → (vp_in σ.1.1.2.1.2.2 9000 ∧ ∀ y3 : Nat → Int32, y3 = upd σ.1.1.2.2.2.2 (σ.1.1.2.1.2.2).toNatClampNeg ((-1) : Int32) → (vp_in σ.1.1.2.1.2.2 9000 ∧ ∀ y4 : Nat → Int32, y4 = upd σ.1.2.1.1.1 (σ.1.1.2.1.2.2).toNatClampNeg ((-1) : Int32) → (vp_in σ.1.1.2.1.2.2 9000 ∧ ∀ y5 : Nat → Int32, y5 = upd σ.1.2.1.1.2.1 (σ.1.1.2.1.2.2).toNatClampNeg (vp_nar .boolean (0 : Int32)) → (∀ y6 : Int32, y6 = (σ.1.1.2.1.2.2 + (1 : Int32)) → post (y6 - (1 : Int32)) (((σ.1.1.1, ((σ.1.1.2.1.1, (σ.1.1.2.1.2.1, y6)), (y1, (y2, y3)))), (((y4, (y5, σ.1.2.1.1.2.2)), σ.1.2.1.2), σ.1.2.2)), σ.2)))))))
theorem kX12_node {G : aw_G} {d : Nat} (hd : 0 ≤ d) {σ : WSX12} {a1 : Int32} {a2 : Int32} {post : Int32 → WSX12 → Prop} (h : wp_X12_node σ a1 a2 post) : AC G MX12_node d 0 0 25 [.ref 0, .int a1, .int a2] (wX12 G σ) (aw_pi (wX12 G) post) := by
  refine AC.of (lv := [(0, .ref 0), (1, .int a1), (2, .int a2)]) (by decide) (Nat.le_of_ble_eq_true rfl) rfl ?_
  unfold wp_X12_node at h
  refine aw_aload_n 0 dX12_node_0 rfl rfl ?_
  refine aw_getf (v := .ref 5) fX12_22 0 rfl rfl dX12_node_1 ?_
  refine aw_aload_n 0 dX12_node_4 rfl rfl ?_
  refine aw_getf (v := .int σ.1.1.2.1.2.2) fX12_158 0 rfl rfl dX12_node_5 ?_
  refine aw_iload_n 1 dX12_node_8 rfl rfl ?_
  refine aw_iast 5 (n := 9000) (f := σ.1.1.2.2.1) (w' := fun y1 => (wX12 G (((σ.1.1.1, (σ.1.1.2.1, (y1, σ.1.1.2.2.2))), σ.1.2), σ.2))) rfl h.1 (fun _ => rfl) dX12_node_9 (fun y1 ey1 => ?_)
  have h := h.2 y1 ey1
  refine aw_aload_n 0 dX12_node_10 rfl rfl ?_
  refine aw_getf (v := .ref 6) fX12_25 0 rfl rfl dX12_node_11 ?_
  refine aw_aload_n 0 dX12_node_14 rfl rfl ?_
  refine aw_getf (v := .int σ.1.1.2.1.2.2) fX12_158 0 rfl rfl dX12_node_15 ?_
  refine aw_iload_n 2 dX12_node_18 rfl rfl ?_
  refine aw_iast 6 (n := 9000) (f := σ.1.1.2.2.2.1) (w' := fun y2 => (wX12 G (((σ.1.1.1, (σ.1.1.2.1, (y1, (y2, σ.1.1.2.2.2.2)))), σ.1.2), σ.2))) rfl h.1 (fun _ => rfl) dX12_node_19 (fun y2 ey2 => ?_)
  have h := h.2 y2 ey2
  refine aw_aload_n 0 dX12_node_20 rfl rfl ?_
  refine aw_getf (v := .ref 7) fX12_28 0 rfl rfl dX12_node_21 ?_
  refine aw_aload_n 0 dX12_node_24 rfl rfl ?_
  refine aw_getf (v := .int σ.1.1.2.1.2.2) fX12_158 0 rfl rfl dX12_node_25 ?_
  refine aw_iconst (v := ((-1) : Int32)) dX12_node_28 (by decide) ?_
  refine aw_iast 7 (n := 9000) (f := σ.1.1.2.2.2.2) (w' := fun y3 => (wX12 G (((σ.1.1.1, (σ.1.1.2.1, (y1, (y2, y3)))), σ.1.2), σ.2))) rfl h.1 (fun _ => rfl) dX12_node_29 (fun y3 ey3 => ?_)
  have h := h.2 y3 ey3
  refine aw_aload_n 0 dX12_node_30 rfl rfl ?_
  refine aw_getf (v := .ref 8) fX12_31 0 rfl rfl dX12_node_31 ?_
  refine aw_aload_n 0 dX12_node_34 rfl rfl ?_
  refine aw_getf (v := .int σ.1.1.2.1.2.2) fX12_158 0 rfl rfl dX12_node_35 ?_
  refine aw_iconst (v := ((-1) : Int32)) dX12_node_38 (by decide) ?_
  refine aw_iast 8 (n := 9000) (f := σ.1.2.1.1.1) (w' := fun y4 => (wX12 G (((σ.1.1.1, (σ.1.1.2.1, (y1, (y2, y3)))), (((y4, σ.1.2.1.1.2), σ.1.2.1.2), σ.1.2.2)), σ.2))) rfl h.1 (fun _ => rfl) dX12_node_39 (fun y4 ey4 => ?_)
  have h := h.2 y4 ey4
  refine aw_aload_n 0 dX12_node_40 rfl rfl ?_
  refine aw_getf (v := .ref 9) fX12_34 0 rfl rfl dX12_node_41 ?_
  refine aw_aload_n 0 dX12_node_44 rfl rfl ?_
  refine aw_getf (v := .int σ.1.1.2.1.2.2) fX12_158 0 rfl rfl dX12_node_45 ?_
  refine aw_iconst (v := (0 : Int32)) dX12_node_48 (by decide) ?_
  refine aw_zast 9 (n := 9000) (f := σ.1.2.1.1.2.1) (w' := fun y5 => (wX12 G (((σ.1.1.1, (σ.1.1.2.1, (y1, (y2, y3)))), (((y4, (y5, σ.1.2.1.1.2.2)), σ.1.2.1.2), σ.1.2.2)), σ.2))) rfl h.1 (fun _ => rfl) dX12_node_49 (fun y5 ey5 => ?_)
  have h := h.2 y5 ey5
  refine aw_aload_n 0 dX12_node_50 rfl rfl ?_
  refine aw_dup dX12_node_51 rfl ?_
  refine aw_getf (v := .int σ.1.1.2.1.2.2) fX12_158 0 rfl rfl dX12_node_52 ?_
  refine aw_iconst (v := (1 : Int32)) dX12_node_55 (by decide) ?_
  refine aw_iadd dX12_node_56 ?_
  refine aw_topi (fun y6 ey6 => ?_)
  have h := h y6 ey6
  refine aw_putf fX12_158 0 (w' := (wX12 G (((σ.1.1.1, ((σ.1.1.2.1.1, (σ.1.1.2.1.2.1, y6)), (y1, (y2, y3)))), (((y4, (y5, σ.1.2.1.1.2.2)), σ.1.2.1.2), σ.1.2.2)), σ.2))) rfl (fun _ => ⟨rfl, rfl⟩) (Nat.le_of_ble_eq_true rfl) rfl dX12_node_57 ?_
  refine aw_aload_n 0 dX12_node_60 rfl rfl ?_
  refine aw_getf (v := .int y6) fX12_158 0 rfl rfl dX12_node_61 ?_
  refine aw_iconst (v := (1 : Int32)) dX12_node_64 (by decide) ?_
  refine aw_isub dX12_node_65 ?_
  exact aw_iret rfl dX12_node_66 ⟨_, (((σ.1.1.1, ((σ.1.1.2.1.1, (σ.1.1.2.1.2.1, y6)), (y1, (y2, y3)))), (((y4, (y5, σ.1.2.1.1.2.2)), σ.1.2.1.2), σ.1.2.2)), σ.2), rfl, rfl, h⟩
def wb_X12_add_25  (post : WSX12 → Prop) (rec_25 : WSX12 × Int32 × Int32 → Prop) (σ : WSX12) (x2 : Int32) (x3 : Int32) : Prop :=
  (vp_in x3 9000 ∧ (((σ.1.2.1.1.1 (x3).toNatClampNeg) = ((-1) : Int32) → (vp_in x3 9000 ∧ ∀ y2 : Nat → Int32, y2 = upd σ.1.2.1.1.1 (x3).toNatClampNeg x2 → post ((σ.1.1, (((y2, σ.1.2.1.1.2), σ.1.2.1.2), σ.1.2.2)), σ.2))) ∧ (¬ (σ.1.2.1.1.1 (x3).toNatClampNeg) = ((-1) : Int32) → (vp_in x3 9000 ∧ (∀ y3 : Int32, y3 = (σ.1.2.1.1.1 (x3).toNatClampNeg) → rec_25 (σ, x2, y3))))))
def wp_X12_add_25  (post : WSX12 → Prop) (n : Nat) (σ : WSX12) (x2 : Int32) (x3 : Int32) : Prop := aw_loop (fun r (a : WSX12 × Int32 × Int32) => wb_X12_add_25  post r a.1 a.2.1 a.2.2) n (σ, x2, x3)
theorem aw_X12_add_25 {G : aw_G} {d : Nat} (hd : 0 ≤ d) {post : WSX12 → Prop}  : ∀ (n : Nat) (σ : WSX12) (x2 : Int32) (x3 : Int32), wp_X12_add_25  post n σ x2 x3 → AW G MX12_add d 0 0 25 (aw_pv (wX12 G) post) 25 [(0, .ref 0), (2, .int x2), (3, .int x3)] [] (wX12 G σ) := by
  intro n
  induction n with
  | zero => intro σ x2 x3 h; exact h.elim
  | succ n ih =>
    intro σ x2 x3 h
    have hrec_25 : ∀ a : WSX12 × Int32 × Int32, aw_loop (fun r (a : WSX12 × Int32 × Int32) => wb_X12_add_25  post r a.1 a.2.1 a.2.2) n a → AW G MX12_add d 0 0 25 (aw_pv (wX12 G) post) 25 [(0, .ref 0), (2, .int a.2.1), (3, .int a.2.2)] [] (wX12 G a.1) := fun a h => ih a.1 a.2.1 a.2.2 h
    have h : wb_X12_add_25  post (aw_loop (fun r (a : WSX12 × Int32 × Int32) => wb_X12_add_25  post r a.1 a.2.1 a.2.2) n) σ x2 x3 := h
    unfold wb_X12_add_25 at h
    refine aw_aload_n 0 dX12_add_25 rfl rfl ?_
    refine aw_getf (v := .ref 8) fX12_31 0 rfl rfl dX12_add_26 ?_
    refine aw_iload_n 2 dX12_add_29 rfl rfl ?_
    refine aw_iald 8 (n := 9000) (f := σ.1.2.1.1.1) rfl h.1 dX12_add_30 ?_
    have h := h.2
    refine aw_iconst (v := ((-1) : Int32)) dX12_add_31 (by decide) ?_
    refine aw_icmp_eq 45 dX12_add_32 (by decide) (fun c4 => ?_) (fun c4 => ?_)
    · have h := h.1 c4
      refine aw_aload_n 0 dX12_add_45 rfl rfl ?_
      refine aw_getf (v := .ref 8) fX12_31 0 rfl rfl dX12_add_46 ?_
      refine aw_iload_n 2 dX12_add_49 rfl rfl ?_
      refine aw_iload_n 1 dX12_add_50 rfl rfl ?_
      refine aw_iast 8 (n := 9000) (f := σ.1.2.1.1.1) (w' := fun y2 => (wX12 G ((σ.1.1, (((y2, σ.1.2.1.1.2), σ.1.2.1.2), σ.1.2.2)), σ.2))) rfl h.1 (fun _ => rfl) dX12_add_51 (fun y2 ey2 => ?_)
      have h := h.2 y2 ey2
      exact aw_vret rfl dX12_add_52 ⟨((σ.1.1, (((y2, σ.1.2.1.1.2), σ.1.2.1.2), σ.1.2.2)), σ.2), rfl, rfl, h⟩
    · have h := h.2 c4
      refine aw_aload_n 0 dX12_add_35 rfl rfl ?_
      refine aw_getf (v := .ref 8) fX12_31 0 rfl rfl dX12_add_36 ?_
      refine aw_iload_n 2 dX12_add_39 rfl rfl ?_
      refine aw_iald 8 (n := 9000) (f := σ.1.2.1.1.1) rfl h.1 dX12_add_40 ?_
      have h := h.2
      refine aw_topi (fun y3 ey3 => ?_)
      have h := h y3 ey3
      refine aw_istore_n (lv' := [(3, .int y3), (0, .ref 0), (2, .int x2)]) dX12_add_41 rfl (by decide) rfl ?_
      refine aw_goto 25 dX12_add_42 (by decide) ?_
      refine aw_lvsub (lv' := [(0, .ref 0), (2, .int x2), (3, .int y3)]) [1, 2, 0] rfl ?_
      exact hrec_25 (σ, x2, y3) h
def wp_X12_add (σ : WSX12) (a1 : Int32) (a2 : Int32) (post : WSX12 → Prop) : Prop :=
  (vp_in a1 9000 ∧ ((¬ (σ.1.1.2.2.2.2 (a1).toNatClampNeg) = ((-1) : Int32) → (vp_in a1 9000 ∧ (∀ y1 : Int32, y1 = (σ.1.1.2.2.2.2 (a1).toNatClampNeg) → (∃ n5, wp_X12_add_25  post n5 σ a2 y1)))) ∧ ((σ.1.1.2.2.2.2 (a1).toNatClampNeg) = ((-1) : Int32) → (vp_in a1 9000 ∧ ∀ y6 : Nat → Int32, y6 = upd σ.1.1.2.2.2.2 (a1).toNatClampNeg a2 → post (((σ.1.1.1, (σ.1.1.2.1, (σ.1.1.2.2.1, (σ.1.1.2.2.2.1, y6)))), σ.1.2), σ.2)))))
theorem kX12_add {G : aw_G} {d : Nat} (hd : 0 ≤ d) {σ : WSX12} {a1 : Int32} {a2 : Int32} {post : WSX12 → Prop} (h : wp_X12_add σ a1 a2 post) : AC G MX12_add d 0 0 25 [.ref 0, .int a1, .int a2] (wX12 G σ) (aw_pv (wX12 G) post) := by
  refine AC.of (lv := [(0, .ref 0), (1, .int a1), (2, .int a2)]) (by decide) (Nat.le_of_ble_eq_true rfl) rfl ?_
  unfold wp_X12_add at h
  refine aw_aload_n 0 dX12_add_0 rfl rfl ?_
  refine aw_getf (v := .ref 7) fX12_28 0 rfl rfl dX12_add_1 ?_
  refine aw_iload_n 1 dX12_add_4 rfl rfl ?_
  refine aw_iald 7 (n := 9000) (f := σ.1.1.2.2.2.2) rfl h.1 dX12_add_5 ?_
  have h := h.2
  refine aw_iconst (v := ((-1) : Int32)) dX12_add_6 (by decide) ?_
  refine aw_icmp_ne 18 dX12_add_7 (by decide) (fun c7 => ?_) (fun c7 => ?_)
  · have h := h.1 c7
    refine aw_aload_n 0 dX12_add_18 rfl rfl ?_
    refine aw_getf (v := .ref 7) fX12_28 0 rfl rfl dX12_add_19 ?_
    refine aw_iload_n 1 dX12_add_22 rfl rfl ?_
    refine aw_iald 7 (n := 9000) (f := σ.1.1.2.2.2.2) rfl h.1 dX12_add_23 ?_
    have h := h.2
    refine aw_topi (fun y1 ey1 => ?_)
    have h := h y1 ey1
    refine aw_istore_n (lv' := [(3, .int y1), (0, .ref 0), (1, .int a1), (2, .int a2)]) dX12_add_24 rfl (by decide) rfl ?_
    refine aw_lvsub (lv' := [(0, .ref 0), (2, .int a2), (3, .int y1)]) [1, 3, 0] rfl ?_
    obtain ⟨n5, h⟩ := h
    exact aw_X12_add_25 hd  n5 σ a2 y1 h
  · have h := h.2 c7
    refine aw_aload_n 0 dX12_add_10 rfl rfl ?_
    refine aw_getf (v := .ref 7) fX12_28 0 rfl rfl dX12_add_11 ?_
    refine aw_iload_n 1 dX12_add_14 rfl rfl ?_
    refine aw_iload_n 2 dX12_add_15 rfl rfl ?_
    refine aw_iast 7 (n := 9000) (f := σ.1.1.2.2.2.2) (w' := fun y6 => (wX12 G (((σ.1.1.1, (σ.1.1.2.1, (σ.1.1.2.2.1, (σ.1.1.2.2.2.1, y6)))), σ.1.2), σ.2))) rfl h.1 (fun _ => rfl) dX12_add_16 (fun y6 ey6 => ?_)
    have h := h.2 y6 ey6
    exact aw_vret rfl dX12_add_17 ⟨(((σ.1.1.1, (σ.1.1.2.1, (σ.1.1.2.2.1, (σ.1.1.2.2.2.1, y6)))), σ.1.2), σ.2), rfl, rfl, h⟩
def wp_X12_take_20  (post : Int32 → WSX12 → Prop) (σ : WSX12) : Prop :=
  post σ.1.1.2.1.1 (((σ.1.1.1, ((σ.1.1.2.1.1, ((1 : Int32), σ.1.1.2.1.2.2)), σ.1.1.2.2)), σ.1.2), σ.2)
theorem aw_X12_take_20 {G : aw_G} {d : Nat} (hd : 0 ≤ d) {post : Int32 → WSX12 → Prop}  {σ : WSX12} (h : wp_X12_take_20  post σ) : AW G MX12_take d 0 0 25 (aw_pi (wX12 G) post) 20 [(0, .ref 0)] [] (wX12 G σ) := by
  unfold wp_X12_take_20 at h
  refine aw_aload_n 0 dX12_take_20 rfl rfl ?_
  refine aw_iconst (v := (1 : Int32)) dX12_take_21 (by decide) ?_
  refine aw_putf fX12_154 0 (w' := (wX12 G (((σ.1.1.1, ((σ.1.1.2.1.1, ((1 : Int32), σ.1.1.2.1.2.2)), σ.1.1.2.2)), σ.1.2), σ.2))) rfl (fun _ => ⟨rfl, rfl⟩) (Nat.le_of_ble_eq_true rfl) rfl dX12_take_22 ?_
  refine aw_aload_n 0 dX12_take_25 rfl rfl ?_
  refine aw_getf (v := .int σ.1.1.2.1.1) fX12_151 0 rfl rfl dX12_take_26 ?_
  exact aw_iret rfl dX12_take_29 ⟨_, (((σ.1.1.1, ((σ.1.1.2.1.1, ((1 : Int32), σ.1.1.2.1.2.2)), σ.1.1.2.2)), σ.1.2), σ.2), rfl, rfl, h⟩
def wp_X12_take (σ : WSX12) (a1 : Int32) (post : Int32 → WSX12 → Prop) : Prop :=
  ((¬ σ.1.1.2.1.2.1 = 0 → wp_X12_take_20  post σ) ∧ (σ.1.1.2.1.2.1 = 0 → (vp_in σ.1.1.2.1.1 3002 ∧ (((σ.1.1.1.2.1 (σ.1.1.2.1.1).toNatClampNeg) = a1 → (∀ y1 : Int32, y1 = (σ.1.1.2.1.1 + (1 : Int32)) → post (y1 - (1 : Int32)) (((σ.1.1.1, ((y1, σ.1.1.2.1.2), σ.1.1.2.2)), σ.1.2), σ.2))) ∧ (¬ (σ.1.1.1.2.1 (σ.1.1.2.1.1).toNatClampNeg) = a1 → wp_X12_take_20  post σ)))))
theorem kX12_take {G : aw_G} {d : Nat} (hd : 0 ≤ d) {σ : WSX12} {a1 : Int32} {post : Int32 → WSX12 → Prop} (h : wp_X12_take σ a1 post) : AC G MX12_take d 0 0 25 [.ref 0, .int a1] (wX12 G σ) (aw_pi (wX12 G) post) := by
  refine AC.of (lv := [(0, .ref 0), (1, .int a1)]) (by decide) (Nat.le_of_ble_eq_true rfl) rfl ?_
  unfold wp_X12_take at h
  refine aw_aload_n 0 dX12_take_0 rfl rfl ?_
  refine aw_getf (v := .int σ.1.1.2.1.2.1) fX12_154 0 rfl rfl dX12_take_1 ?_
  refine aw_if_ne 20 dX12_take_4 (by decide) (fun c3 => ?_) (fun c3 => ?_)
  · have h := h.1 c3
    refine aw_lvsub (lv' := [(0, .ref 0)]) [0] rfl ?_
    exact aw_X12_take_20 hd  h
  · have h := h.2 c3
    refine aw_aload_n 0 dX12_take_7 rfl rfl ?_
    refine aw_getf (v := .ref 2) fX12_13 0 rfl rfl dX12_take_8 ?_
    refine aw_aload_n 0 dX12_take_11 rfl rfl ?_
    refine aw_getf (v := .int σ.1.1.2.1.1) fX12_151 0 rfl rfl dX12_take_12 ?_
    refine aw_iald 2 (n := 3002) (f := σ.1.1.1.2.1) rfl h.1 dX12_take_15 ?_
    have h := h.2
    refine aw_iload_n 1 dX12_take_16 rfl rfl ?_
    refine aw_icmp_eq 30 dX12_take_17 (by decide) (fun c2 => ?_) (fun c2 => ?_)
    · have h := h.1 c2
      refine aw_aload_n 0 dX12_take_30 rfl rfl ?_
      refine aw_dup dX12_take_31 rfl ?_
      refine aw_getf (v := .int σ.1.1.2.1.1) fX12_151 0 rfl rfl dX12_take_32 ?_
      refine aw_iconst (v := (1 : Int32)) dX12_take_35 (by decide) ?_
      refine aw_iadd dX12_take_36 ?_
      refine aw_topi (fun y1 ey1 => ?_)
      have h := h y1 ey1
      refine aw_putf fX12_151 0 (w' := (wX12 G (((σ.1.1.1, ((y1, σ.1.1.2.1.2), σ.1.1.2.2)), σ.1.2), σ.2))) rfl (fun _ => ⟨rfl, rfl⟩) (Nat.le_of_ble_eq_true rfl) rfl dX12_take_37 ?_
      refine aw_aload_n 0 dX12_take_40 rfl rfl ?_
      refine aw_getf (v := .int y1) fX12_151 0 rfl rfl dX12_take_41 ?_
      refine aw_iconst (v := (1 : Int32)) dX12_take_44 (by decide) ?_
      refine aw_isub dX12_take_45 ?_
      exact aw_iret rfl dX12_take_46 ⟨_, (((σ.1.1.1, ((y1, σ.1.1.2.1.2), σ.1.1.2.2)), σ.1.2), σ.2), rfl, rfl, h⟩
    · have h := h.2 c2
      refine aw_lvsub (lv' := [(0, .ref 0)]) [0] rfl ?_
      exact aw_X12_take_20 hd  h
def wp_X12_rank (a0 : Int32) (post : Int32 → Unit → Prop) : Prop :=
  ((¬ a0 = (124 : Int32) → ((¬ a0 = (94 : Int32) → ((¬ a0 = (38 : Int32) → ((a0 = (201 : Int32) → post (3 : Int32) ()) ∧ (¬ a0 = (201 : Int32) → ((a0 = (60 : Int32) → post (3 : Int32) ()) ∧ (¬ a0 = (60 : Int32) → ((¬ a0 = (200 : Int32) → ((a0 = (202 : Int32) → post (4 : Int32) ()) ∧ (¬ a0 = (202 : Int32) → ((¬ a0 = (203 : Int32) → ((a0 = (43 : Int32) → post (5 : Int32) ()) ∧ (¬ a0 = (43 : Int32) → ((¬ a0 = (45 : Int32) → ((a0 = (42 : Int32) → post (6 : Int32) ()) ∧ (¬ a0 = (42 : Int32) → ((a0 = (47 : Int32) → post (6 : Int32) ()) ∧ (¬ a0 = (47 : Int32) → ((¬ a0 = (37 : Int32) → post ((-1) : Int32) ()) ∧ (a0 = (37 : Int32) → post (6 : Int32) ()))))))) ∧ (a0 = (45 : Int32) → post (5 : Int32) ()))))) ∧ (a0 = (203 : Int32) → post (4 : Int32) ()))))) ∧ (a0 = (200 : Int32) → post (3 : Int32) ()))))))) ∧ (a0 = (38 : Int32) → post (2 : Int32) ()))) ∧ (a0 = (94 : Int32) → post (1 : Int32) ()))) ∧ (a0 = (124 : Int32) → post (0 : Int32) ()))
theorem kX12_rank {G : aw_G} {d : Nat} (hd : 0 ≤ d) {a0 : Int32} {post : Int32 → Unit → Prop} (h : wp_X12_rank a0 post) : AC G MX12_rank d 0 0 0 [.int a0] [] (aw_pi (fun _ : Unit => []) post) := by
  refine AC.of (lv := [(0, .int a0)]) (by decide) (Nat.le_of_ble_eq_true rfl) rfl ?_
  unfold wp_X12_rank at h
  refine aw_iload_n 0 dX12_rank_0 rfl rfl ?_
  refine aw_bipush (v := (124 : Int32)) dX12_rank_1 (by decide) ?_
  refine aw_icmp_ne 10 dX12_rank_3 (by decide) (fun c13 => ?_) (fun c13 => ?_)
  · have h := h.1 c13
    refine aw_iload_n 0 dX12_rank_10 rfl rfl ?_
    refine aw_bipush (v := (94 : Int32)) dX12_rank_11 (by decide) ?_
    refine aw_icmp_ne 20 dX12_rank_13 (by decide) (fun c12 => ?_) (fun c12 => ?_)
    · have h := h.1 c12
      refine aw_iload_n 0 dX12_rank_20 rfl rfl ?_
      refine aw_bipush (v := (38 : Int32)) dX12_rank_21 (by decide) ?_
      refine aw_icmp_ne 30 dX12_rank_23 (by decide) (fun c11 => ?_) (fun c11 => ?_)
      · have h := h.1 c11
        refine aw_iload_n 0 dX12_rank_30 rfl rfl ?_
        refine aw_sipush (v := (201 : Int32)) dX12_rank_31 (by decide) ?_
        refine aw_icmp_eq 50 dX12_rank_34 (by decide) (fun c10 => ?_) (fun c10 => ?_)
        · have h := h.1 c10
          refine aw_iconst (v := (3 : Int32)) dX12_rank_50 (by decide) ?_
          refine aw_goto 112 dX12_rank_51 (by decide) ?_
          exact aw_iret rfl dX12_rank_112 ⟨_, (), rfl, rfl, h⟩
        · have h := h.2 c10
          refine aw_iload_n 0 dX12_rank_37 rfl rfl ?_
          refine aw_bipush (v := (60 : Int32)) dX12_rank_38 (by decide) ?_
          refine aw_icmp_eq 50 dX12_rank_40 (by decide) (fun c9 => ?_) (fun c9 => ?_)
          · have h := h.1 c9
            refine aw_iconst (v := (3 : Int32)) dX12_rank_50 (by decide) ?_
            refine aw_goto 112 dX12_rank_51 (by decide) ?_
            exact aw_iret rfl dX12_rank_112 ⟨_, (), rfl, rfl, h⟩
          · have h := h.2 c9
            refine aw_iload_n 0 dX12_rank_43 rfl rfl ?_
            refine aw_sipush (v := (200 : Int32)) dX12_rank_44 (by decide) ?_
            refine aw_icmp_ne 54 dX12_rank_47 (by decide) (fun c8 => ?_) (fun c8 => ?_)
            · have h := h.1 c8
              refine aw_iload_n 0 dX12_rank_54 rfl rfl ?_
              refine aw_sipush (v := (202 : Int32)) dX12_rank_55 (by decide) ?_
              refine aw_icmp_eq 68 dX12_rank_58 (by decide) (fun c7 => ?_) (fun c7 => ?_)
              · have h := h.1 c7
                refine aw_iconst (v := (4 : Int32)) dX12_rank_68 (by decide) ?_
                refine aw_goto 112 dX12_rank_69 (by decide) ?_
                exact aw_iret rfl dX12_rank_112 ⟨_, (), rfl, rfl, h⟩
              · have h := h.2 c7
                refine aw_iload_n 0 dX12_rank_61 rfl rfl ?_
                refine aw_sipush (v := (203 : Int32)) dX12_rank_62 (by decide) ?_
                refine aw_icmp_ne 72 dX12_rank_65 (by decide) (fun c6 => ?_) (fun c6 => ?_)
                · have h := h.1 c6
                  refine aw_iload_n 0 dX12_rank_72 rfl rfl ?_
                  refine aw_bipush (v := (43 : Int32)) dX12_rank_73 (by decide) ?_
                  refine aw_icmp_eq 84 dX12_rank_75 (by decide) (fun c5 => ?_) (fun c5 => ?_)
                  · have h := h.1 c5
                    refine aw_iconst (v := (5 : Int32)) dX12_rank_84 (by decide) ?_
                    refine aw_goto 112 dX12_rank_85 (by decide) ?_
                    exact aw_iret rfl dX12_rank_112 ⟨_, (), rfl, rfl, h⟩
                  · have h := h.2 c5
                    refine aw_iload_n 0 dX12_rank_78 rfl rfl ?_
                    refine aw_bipush (v := (45 : Int32)) dX12_rank_79 (by decide) ?_
                    refine aw_icmp_ne 88 dX12_rank_81 (by decide) (fun c4 => ?_) (fun c4 => ?_)
                    · have h := h.1 c4
                      refine aw_iload_n 0 dX12_rank_88 rfl rfl ?_
                      refine aw_bipush (v := (42 : Int32)) dX12_rank_89 (by decide) ?_
                      refine aw_icmp_eq 106 dX12_rank_91 (by decide) (fun c3 => ?_) (fun c3 => ?_)
                      · have h := h.1 c3
                        refine aw_bipush (v := (6 : Int32)) dX12_rank_106 (by decide) ?_
                        refine aw_goto 112 dX12_rank_108 (by decide) ?_
                        exact aw_iret rfl dX12_rank_112 ⟨_, (), rfl, rfl, h⟩
                      · have h := h.2 c3
                        refine aw_iload_n 0 dX12_rank_94 rfl rfl ?_
                        refine aw_bipush (v := (47 : Int32)) dX12_rank_95 (by decide) ?_
                        refine aw_icmp_eq 106 dX12_rank_97 (by decide) (fun c2 => ?_) (fun c2 => ?_)
                        · have h := h.1 c2
                          refine aw_bipush (v := (6 : Int32)) dX12_rank_106 (by decide) ?_
                          refine aw_goto 112 dX12_rank_108 (by decide) ?_
                          exact aw_iret rfl dX12_rank_112 ⟨_, (), rfl, rfl, h⟩
                        · have h := h.2 c2
                          refine aw_iload_n 0 dX12_rank_100 rfl rfl ?_
                          refine aw_bipush (v := (37 : Int32)) dX12_rank_101 (by decide) ?_
                          refine aw_icmp_ne 111 dX12_rank_103 (by decide) (fun c1 => ?_) (fun c1 => ?_)
                          · have h := h.1 c1
                            refine aw_iconst (v := ((-1) : Int32)) dX12_rank_111 (by decide) ?_
                            exact aw_iret rfl dX12_rank_112 ⟨_, (), rfl, rfl, h⟩
                          · have h := h.2 c1
                            refine aw_bipush (v := (6 : Int32)) dX12_rank_106 (by decide) ?_
                            refine aw_goto 112 dX12_rank_108 (by decide) ?_
                            exact aw_iret rfl dX12_rank_112 ⟨_, (), rfl, rfl, h⟩
                    · have h := h.2 c4
                      refine aw_iconst (v := (5 : Int32)) dX12_rank_84 (by decide) ?_
                      refine aw_goto 112 dX12_rank_85 (by decide) ?_
                      exact aw_iret rfl dX12_rank_112 ⟨_, (), rfl, rfl, h⟩
                · have h := h.2 c6
                  refine aw_iconst (v := (4 : Int32)) dX12_rank_68 (by decide) ?_
                  refine aw_goto 112 dX12_rank_69 (by decide) ?_
                  exact aw_iret rfl dX12_rank_112 ⟨_, (), rfl, rfl, h⟩
            · have h := h.2 c8
              refine aw_iconst (v := (3 : Int32)) dX12_rank_50 (by decide) ?_
              refine aw_goto 112 dX12_rank_51 (by decide) ?_
              exact aw_iret rfl dX12_rank_112 ⟨_, (), rfl, rfl, h⟩
      · have h := h.2 c11
        refine aw_iconst (v := (2 : Int32)) dX12_rank_26 (by decide) ?_
        refine aw_goto 112 dX12_rank_27 (by decide) ?_
        exact aw_iret rfl dX12_rank_112 ⟨_, (), rfl, rfl, h⟩
    · have h := h.2 c12
      refine aw_iconst (v := (1 : Int32)) dX12_rank_16 (by decide) ?_
      refine aw_goto 112 dX12_rank_17 (by decide) ?_
      exact aw_iret rfl dX12_rank_112 ⟨_, (), rfl, rfl, h⟩
  · have h := h.2 c13
    refine aw_iconst (v := (0 : Int32)) dX12_rank_6 (by decide) ?_
    refine aw_goto 112 dX12_rank_7 (by decide) ?_
    exact aw_iret rfl dX12_rank_112 ⟨_, (), rfl, rfl, h⟩
def Mg_st (k : Nat) : aw_M := match k with
  | 0 => MX12_statement
  | 1 => MX12_block
  | 2 => MX12_expr
  | 3 => MX12_level
  | _ => MX12_unary
def wp_X12_statement_186 (rc : Nat → WSX12 → List Int32 → (Int32 → WSX12 → Prop) → Prop)  (post : Int32 → WSX12 → Prop) (σ : WSX12) (x1 : Int32) (x2 : Int32) (x3 : Int32) : Prop :=
  (∀ y4 : Int32, y4 = (σ.1.1.2.1.1 + (1 : Int32)) → wp_X12_take (((σ.1.1.1, ((y4, σ.1.1.2.1.2), σ.1.1.2.2)), σ.1.2), σ.2) (40 : Int32) (fun r5 τ6 => rc 2 τ6 [x1] (fun r7 τ8 => wp_X12_add τ8 x3 r7 (fun τ10 => wp_X12_take τ10 (41 : Int32) (fun r11 τ12 => rc 1 τ12 [x1] (fun r13 τ14 => wp_X12_add τ14 x3 r13 (fun τ16 => ((¬ x2 = (7 : Int32) → post x3 τ16) ∧ (x2 = (7 : Int32) → ((¬ τ16.1.1.2.1.2.1 = 0 → post x3 τ16) ∧ (τ16.1.1.2.1.2.1 = 0 → (vp_in τ16.1.1.2.1.1 3002 ∧ ((¬ (τ16.1.1.1.2.1 (τ16.1.1.2.1.1).toNatClampNeg) = (8 : Int32) → post x3 τ16) ∧ ((τ16.1.1.1.2.1 (τ16.1.1.2.1.1).toNatClampNeg) = (8 : Int32) → (∀ y17 : Int32, y17 = (τ16.1.1.2.1.1 + (1 : Int32)) → rc 1 (((τ16.1.1.1, ((y17, τ16.1.1.2.1.2), τ16.1.1.2.2)), τ16.1.2), τ16.2) [x1] (fun r18 τ19 => wp_X12_add τ19 x3 r18 (fun τ21 => post x3 τ21)))))))))))))))))
theorem aw_X12_statement_186 {G : aw_G} {d : Nat} (hd : 1 ≤ d) {dg : Nat} (hdg : dg + 1 ≤ d) {rc : Nat → WSX12 → List Int32 → (Int32 → WSX12 → Prop) → Prop} (hrc : ∀ (k : Nat) (σ : WSX12) (xs : List Int32) (po : Int32 → WSX12 → Prop), rc k σ xs po → AC G (Mg_st k) dg 0 0 25 (.ref 0 :: xs.map .int) (wX12 G σ) (aw_pi (wX12 G) po)) {post : Int32 → WSX12 → Prop}  {σ : WSX12} {x1 : Int32} {x2 : Int32} {x3 : Int32} (h : wp_X12_statement_186 rc  post σ x1 x2 x3) : AW G MX12_statement d 0 0 25 (aw_pi (wX12 G) post) 186 [(0, .ref 0), (1, .int x1), (2, .int x2), (3, .int x3)] [] (wX12 G σ) := by
  unfold wp_X12_statement_186 at h
  refine aw_aload_n 0 dX12_statement_186 rfl rfl ?_
  refine aw_dup dX12_statement_187 rfl ?_
  refine aw_getf (v := .int σ.1.1.2.1.1) fX12_151 0 rfl rfl dX12_statement_188 ?_
  refine aw_iconst (v := (1 : Int32)) dX12_statement_191 (by decide) ?_
  refine aw_iadd dX12_statement_192 ?_
  refine aw_topi (fun y4 ey4 => ?_)
  have h := h y4 ey4
  refine aw_putf fX12_151 0 (w' := (wX12 G (((σ.1.1.1, ((y4, σ.1.1.2.1.2), σ.1.1.2.2)), σ.1.2), σ.2))) rfl (fun _ => ⟨rfl, rfl⟩) (Nat.le_of_ble_eq_true rfl) rfl dX12_statement_193 ?_
  refine aw_aload_n 0 dX12_statement_196 rfl rfl ?_
  refine aw_bipush (v := (40 : Int32)) dX12_statement_197 (by decide) ?_
  refine aw_callVT (mc1 := 0) (ms1 := 0) (mc := 0) (ms := 0) (st := []) (q := 0) (As := [.int (40 : Int32)]) lX12_168 insX12_take selX12_take ⟨TX12, 50, rfl⟩ (by omega) (kX12_take (d := 0) (by omega) h) (Nat.le_of_ble_eq_true rfl) rfl rfl rfl dX12_statement_199 rfl (fun _ _ hh => ?_)
  obtain ⟨r5, τ6, rfl, rfl, h⟩ := hh
  refine aw_stk (st' := [.int r5]) rfl ?_
  refine aw_pop dX12_statement_202 rfl ?_
  refine aw_aload_n 0 dX12_statement_203 rfl rfl ?_
  refine aw_iload_n 3 dX12_statement_204 rfl rfl ?_
  refine aw_aload_n 0 dX12_statement_205 rfl rfl ?_
  refine aw_iload_n 1 dX12_statement_206 rfl rfl ?_
  refine aw_callVT (mc1 := 0) (ms1 := 0) (mc := 0) (ms := 0) (st := [.int x3, .ref 0]) (q := 0) (As := [.int x1]) lX12_174 insX12_expr selX12_expr ⟨TX12, 50, rfl⟩ (by omega) (hrc 2 _ [x1] _ h) (Nat.le_of_ble_eq_true rfl) rfl rfl rfl dX12_statement_207 rfl (fun _ _ hh => ?_)
  obtain ⟨r7, τ8, rfl, rfl, h⟩ := hh
  refine aw_stk (st' := [.int r7, .int x3, .ref 0]) rfl ?_
  refine aw_callVT (mc1 := 0) (ms1 := 0) (mc := 0) (ms := 0) (st := []) (q := 0) (As := [.int x3, .int r7]) lX12_164 insX12_add selX12_add ⟨TX12, 50, rfl⟩ (by omega) (kX12_add (d := 0) (by omega) h) (Nat.le_of_ble_eq_true rfl) rfl rfl rfl dX12_statement_210 rfl (fun _ _ hh => ?_)
  obtain ⟨τ10, rfl, rfl, h⟩ := hh
  refine aw_stk (st' := []) rfl ?_
  refine aw_aload_n 0 dX12_statement_213 rfl rfl ?_
  refine aw_bipush (v := (41 : Int32)) dX12_statement_214 (by decide) ?_
  refine aw_callVT (mc1 := 0) (ms1 := 0) (mc := 0) (ms := 0) (st := []) (q := 0) (As := [.int (41 : Int32)]) lX12_168 insX12_take selX12_take ⟨TX12, 50, rfl⟩ (by omega) (kX12_take (d := 0) (by omega) h) (Nat.le_of_ble_eq_true rfl) rfl rfl rfl dX12_statement_216 rfl (fun _ _ hh => ?_)
  obtain ⟨r11, τ12, rfl, rfl, h⟩ := hh
  refine aw_stk (st' := [.int r11]) rfl ?_
  refine aw_pop dX12_statement_219 rfl ?_
  refine aw_aload_n 0 dX12_statement_220 rfl rfl ?_
  refine aw_iload_n 3 dX12_statement_221 rfl rfl ?_
  refine aw_aload_n 0 dX12_statement_222 rfl rfl ?_
  refine aw_iload_n 1 dX12_statement_223 rfl rfl ?_
  refine aw_callVT (mc1 := 0) (ms1 := 0) (mc := 0) (ms := 0) (st := [.int x3, .ref 0]) (q := 0) (As := [.int x1]) lX12_177 insX12_block selX12_block ⟨TX12, 50, rfl⟩ (by omega) (hrc 1 _ [x1] _ h) (Nat.le_of_ble_eq_true rfl) rfl rfl rfl dX12_statement_224 rfl (fun _ _ hh => ?_)
  obtain ⟨r13, τ14, rfl, rfl, h⟩ := hh
  refine aw_stk (st' := [.int r13, .int x3, .ref 0]) rfl ?_
  refine aw_callVT (mc1 := 0) (ms1 := 0) (mc := 0) (ms := 0) (st := []) (q := 0) (As := [.int x3, .int r13]) lX12_164 insX12_add selX12_add ⟨TX12, 50, rfl⟩ (by omega) (kX12_add (d := 0) (by omega) h) (Nat.le_of_ble_eq_true rfl) rfl rfl rfl dX12_statement_227 rfl (fun _ _ hh => ?_)
  obtain ⟨τ16, rfl, rfl, h⟩ := hh
  refine aw_stk (st' := []) rfl ?_
  refine aw_iload_n 2 dX12_statement_230 rfl rfl ?_
  refine aw_bipush (v := (7 : Int32)) dX12_statement_231 (by decide) ?_
  refine aw_icmp_ne 285 dX12_statement_233 (by decide) (fun c24 => ?_) (fun c24 => ?_)
  · have h := h.1 c24
    refine aw_iload_n 3 dX12_statement_285 rfl rfl ?_
    exact aw_iret rfl dX12_statement_286 ⟨_, τ16, rfl, rfl, h⟩
  · have h := h.2 c24
    refine aw_aload_n 0 dX12_statement_236 rfl rfl ?_
    refine aw_getf (v := .int τ16.1.1.2.1.2.1) fX12_154 0 rfl rfl dX12_statement_237 ?_
    refine aw_if_ne 285 dX12_statement_240 (by decide) (fun c23 => ?_) (fun c23 => ?_)
    · have h := h.1 c23
      refine aw_iload_n 3 dX12_statement_285 rfl rfl ?_
      exact aw_iret rfl dX12_statement_286 ⟨_, τ16, rfl, rfl, h⟩
    · have h := h.2 c23
      refine aw_aload_n 0 dX12_statement_243 rfl rfl ?_
      refine aw_getf (v := .ref 2) fX12_13 0 rfl rfl dX12_statement_244 ?_
      refine aw_aload_n 0 dX12_statement_247 rfl rfl ?_
      refine aw_getf (v := .int τ16.1.1.2.1.1) fX12_151 0 rfl rfl dX12_statement_248 ?_
      refine aw_iald 2 (n := 3002) (f := τ16.1.1.1.2.1) rfl h.1 dX12_statement_251 ?_
      have h := h.2
      refine aw_bipush (v := (8 : Int32)) dX12_statement_252 (by decide) ?_
      refine aw_icmp_ne 285 dX12_statement_254 (by decide) (fun c22 => ?_) (fun c22 => ?_)
      · have h := h.1 c22
        refine aw_iload_n 3 dX12_statement_285 rfl rfl ?_
        exact aw_iret rfl dX12_statement_286 ⟨_, τ16, rfl, rfl, h⟩
      · have h := h.2 c22
        refine aw_aload_n 0 dX12_statement_257 rfl rfl ?_
        refine aw_dup dX12_statement_258 rfl ?_
        refine aw_getf (v := .int τ16.1.1.2.1.1) fX12_151 0 rfl rfl dX12_statement_259 ?_
        refine aw_iconst (v := (1 : Int32)) dX12_statement_262 (by decide) ?_
        refine aw_iadd dX12_statement_263 ?_
        refine aw_topi (fun y17 ey17 => ?_)
        have h := h y17 ey17
        refine aw_putf fX12_151 0 (w' := (wX12 G (((τ16.1.1.1, ((y17, τ16.1.1.2.1.2), τ16.1.1.2.2)), τ16.1.2), τ16.2))) rfl (fun _ => ⟨rfl, rfl⟩) (Nat.le_of_ble_eq_true rfl) rfl dX12_statement_264 ?_
        refine aw_aload_n 0 dX12_statement_267 rfl rfl ?_
        refine aw_iload_n 3 dX12_statement_268 rfl rfl ?_
        refine aw_aload_n 0 dX12_statement_269 rfl rfl ?_
        refine aw_iload_n 1 dX12_statement_270 rfl rfl ?_
        refine aw_callVT (mc1 := 0) (ms1 := 0) (mc := 0) (ms := 0) (st := [.int x3, .ref 0]) (q := 0) (As := [.int x1]) lX12_177 insX12_block selX12_block ⟨TX12, 50, rfl⟩ (by omega) (hrc 1 _ [x1] _ h) (Nat.le_of_ble_eq_true rfl) rfl rfl rfl dX12_statement_271 rfl (fun _ _ hh => ?_)
        obtain ⟨r18, τ19, rfl, rfl, h⟩ := hh
        refine aw_stk (st' := [.int r18, .int x3, .ref 0]) rfl ?_
        refine aw_callVT (mc1 := 0) (ms1 := 0) (mc := 0) (ms := 0) (st := []) (q := 0) (As := [.int x3, .int r18]) lX12_164 insX12_add selX12_add ⟨TX12, 50, rfl⟩ (by omega) (kX12_add (d := 0) (by omega) h) (Nat.le_of_ble_eq_true rfl) rfl rfl rfl dX12_statement_274 rfl (fun _ _ hh => ?_)
        obtain ⟨τ21, rfl, rfl, h⟩ := hh
        refine aw_stk (st' := []) rfl ?_
        refine aw_goto 285 dX12_statement_277 (by decide) ?_
        refine aw_iload_n 3 dX12_statement_285 rfl rfl ?_
        exact aw_iret rfl dX12_statement_286 ⟨_, τ21, rfl, rfl, h⟩
def wp_X12_statement_111 (rc : Nat → WSX12 → List Int32 → (Int32 → WSX12 → Prop) → Prop)  (post : Int32 → WSX12 → Prop) (σ : WSX12) (x1 : Int32) (x3 : Int32) : Prop :=
  wp_X12_take σ (61 : Int32) (fun r36 τ37 => rc 2 τ37 [x1] (fun r38 τ39 => wp_X12_add τ39 x3 r38 (fun τ41 => wp_X12_take τ41 (59 : Int32) (fun r42 τ43 => post x3 τ43))))
theorem aw_X12_statement_111 {G : aw_G} {d : Nat} (hd : 1 ≤ d) {dg : Nat} (hdg : dg + 1 ≤ d) {rc : Nat → WSX12 → List Int32 → (Int32 → WSX12 → Prop) → Prop} (hrc : ∀ (k : Nat) (σ : WSX12) (xs : List Int32) (po : Int32 → WSX12 → Prop), rc k σ xs po → AC G (Mg_st k) dg 0 0 25 (.ref 0 :: xs.map .int) (wX12 G σ) (aw_pi (wX12 G) po)) {post : Int32 → WSX12 → Prop}  {σ : WSX12} {x1 : Int32} {x3 : Int32} (h : wp_X12_statement_111 rc  post σ x1 x3) : AW G MX12_statement d 0 0 25 (aw_pi (wX12 G) post) 111 [(0, .ref 0), (1, .int x1), (3, .int x3)] [] (wX12 G σ) := by
  unfold wp_X12_statement_111 at h
  refine aw_aload_n 0 dX12_statement_111 rfl rfl ?_
  refine aw_bipush (v := (61 : Int32)) dX12_statement_112 (by decide) ?_
  refine aw_callVT (mc1 := 0) (ms1 := 0) (mc := 0) (ms := 0) (st := []) (q := 0) (As := [.int (61 : Int32)]) lX12_168 insX12_take selX12_take ⟨TX12, 50, rfl⟩ (by omega) (kX12_take (d := 0) (by omega) h) (Nat.le_of_ble_eq_true rfl) rfl rfl rfl dX12_statement_114 rfl (fun _ _ hh => ?_)
  obtain ⟨r36, τ37, rfl, rfl, h⟩ := hh
  refine aw_stk (st' := [.int r36]) rfl ?_
  refine aw_pop dX12_statement_117 rfl ?_
  refine aw_aload_n 0 dX12_statement_118 rfl rfl ?_
  refine aw_iload_n 2 dX12_statement_119 rfl rfl ?_
  refine aw_aload_n 0 dX12_statement_120 rfl rfl ?_
  refine aw_iload_n 1 dX12_statement_121 rfl rfl ?_
  refine aw_callVT (mc1 := 0) (ms1 := 0) (mc := 0) (ms := 0) (st := [.int x3, .ref 0]) (q := 0) (As := [.int x1]) lX12_174 insX12_expr selX12_expr ⟨TX12, 50, rfl⟩ (by omega) (hrc 2 _ [x1] _ h) (Nat.le_of_ble_eq_true rfl) rfl rfl rfl dX12_statement_122 rfl (fun _ _ hh => ?_)
  obtain ⟨r38, τ39, rfl, rfl, h⟩ := hh
  refine aw_stk (st' := [.int r38, .int x3, .ref 0]) rfl ?_
  refine aw_callVT (mc1 := 0) (ms1 := 0) (mc := 0) (ms := 0) (st := []) (q := 0) (As := [.int x3, .int r38]) lX12_164 insX12_add selX12_add ⟨TX12, 50, rfl⟩ (by omega) (kX12_add (d := 0) (by omega) h) (Nat.le_of_ble_eq_true rfl) rfl rfl rfl dX12_statement_125 rfl (fun _ _ hh => ?_)
  obtain ⟨τ41, rfl, rfl, h⟩ := hh
  refine aw_stk (st' := []) rfl ?_
  refine aw_aload_n 0 dX12_statement_128 rfl rfl ?_
  refine aw_bipush (v := (59 : Int32)) dX12_statement_129 (by decide) ?_
  refine aw_callVT (mc1 := 0) (ms1 := 0) (mc := 0) (ms := 0) (st := []) (q := 0) (As := [.int (59 : Int32)]) lX12_168 insX12_take selX12_take ⟨TX12, 50, rfl⟩ (by omega) (kX12_take (d := 0) (by omega) h) (Nat.le_of_ble_eq_true rfl) rfl rfl rfl dX12_statement_131 rfl (fun _ _ hh => ?_)
  obtain ⟨r42, τ43, rfl, rfl, h⟩ := hh
  refine aw_stk (st' := [.int r42]) rfl ?_
  refine aw_pop dX12_statement_134 rfl ?_
  refine aw_goto 285 dX12_statement_135 (by decide) ?_
  refine aw_iload_n 2 dX12_statement_285 rfl rfl ?_
  exact aw_iret rfl dX12_statement_286 ⟨_, τ43, rfl, rfl, h⟩
def wp_X12_statement_23 (rc : Nat → WSX12 → List Int32 → (Int32 → WSX12 → Prop) → Prop)  (post : Int32 → WSX12 → Prop) (σ : WSX12) (x1 : Int32) (x2 : Int32) (s0 : Int32) : Prop :=
  wp_X12_node σ s0 σ.1.1.2.1.1 (fun r2 τ3 => ((¬ x2 = (1 : Int32) → ((¬ x2 = (6 : Int32) → ((x2 = (7 : Int32) → wp_X12_statement_186 rc  post τ3 x1 x2 r2) ∧ (¬ x2 = (7 : Int32) → ((¬ x2 = (9 : Int32) → post r2 (((τ3.1.1.1, ((τ3.1.1.2.1.1, ((1 : Int32), τ3.1.1.2.1.2.2)), τ3.1.1.2.2)), τ3.1.2), τ3.2)) ∧ (x2 = (9 : Int32) → wp_X12_statement_186 rc  post τ3 x1 x2 r2))))) ∧ (x2 = (6 : Int32) → (∀ y27 : Int32, y27 = (τ3.1.1.2.1.1 + (1 : Int32)) → rc 2 (((τ3.1.1.1, ((y27, τ3.1.1.2.1.2), τ3.1.1.2.2)), τ3.1.2), τ3.2) [x1] (fun r28 τ29 => wp_X12_add τ29 r2 r28 (fun τ31 => wp_X12_take τ31 (59 : Int32) (fun r32 τ33 => post r2 τ33))))))) ∧ (x2 = (1 : Int32) → (∀ y35 : Int32, y35 = (τ3.1.1.2.1.1 + (1 : Int32)) → (vp_in y35 3002 ∧ ((¬ (τ3.1.1.1.2.1 (y35).toNatClampNeg) = (91 : Int32) → wp_X12_statement_111 rc  post (((τ3.1.1.1, ((y35, τ3.1.1.2.1.2), τ3.1.1.2.2)), τ3.1.2), τ3.2) x1 r2) ∧ ((τ3.1.1.1.2.1 (y35).toNatClampNeg) = (91 : Int32) → (vp_in r2 9000 ∧ ∀ y44 : Nat → Int32, y44 = upd τ3.1.1.2.2.1 (r2).toNatClampNeg (301 : Int32) → wp_X12_node (((τ3.1.1.1, ((y35, τ3.1.1.2.1.2), (y44, τ3.1.1.2.2.2))), τ3.1.2), τ3.2) (91 : Int32) y35 (fun r45 τ46 => wp_X12_add τ46 r2 r45 (fun τ48 => (∀ y49 : Int32, y49 = (τ48.1.1.2.1.1 + (1 : Int32)) → rc 2 (((τ48.1.1.1, ((y49, τ48.1.1.2.1.2), τ48.1.1.2.2)), τ48.1.2), τ48.2) [x1] (fun r50 τ51 => wp_X12_add τ51 r2 r50 (fun τ53 => wp_X12_take τ53 (93 : Int32) (fun r54 τ55 => wp_X12_statement_111 rc  post τ55 x1 r2))))))))))))))
theorem aw_X12_statement_23 {G : aw_G} {d : Nat} (hd : 1 ≤ d) {dg : Nat} (hdg : dg + 1 ≤ d) {rc : Nat → WSX12 → List Int32 → (Int32 → WSX12 → Prop) → Prop} (hrc : ∀ (k : Nat) (σ : WSX12) (xs : List Int32) (po : Int32 → WSX12 → Prop), rc k σ xs po → AC G (Mg_st k) dg 0 0 25 (.ref 0 :: xs.map .int) (wX12 G σ) (aw_pi (wX12 G) po)) {post : Int32 → WSX12 → Prop}  {σ : WSX12} {x1 : Int32} {x2 : Int32} {s0 : Int32} (h : wp_X12_statement_23 rc  post σ x1 x2 s0) : AW G MX12_statement d 0 0 25 (aw_pi (wX12 G) post) 23 [(0, .ref 0), (1, .int x1), (2, .int x2)] [.int s0, .ref 0] (wX12 G σ) := by
  unfold wp_X12_statement_23 at h
  refine aw_aload_n 0 dX12_statement_23 rfl rfl ?_
  refine aw_getf (v := .int σ.1.1.2.1.1) fX12_151 0 rfl rfl dX12_statement_24 ?_
  refine aw_callVT (mc1 := 0) (ms1 := 0) (mc := 0) (ms := 0) (st := []) (q := 0) (As := [.int s0, .int σ.1.1.2.1.1]) lX12_161 insX12_node selX12_node ⟨TX12, 50, rfl⟩ (by omega) (kX12_node (d := 0) (by omega) h) (Nat.le_of_ble_eq_true rfl) rfl rfl rfl dX12_statement_27 rfl (fun _ _ hh => ?_)
  obtain ⟨r2, τ3, rfl, rfl, h⟩ := hh
  refine aw_stk (st' := [.int r2]) rfl ?_
  refine aw_istore_n (lv' := [(3, .int r2), (0, .ref 0), (1, .int x1), (2, .int x2)]) dX12_statement_30 rfl (by decide) rfl ?_
  refine aw_iload_n 3 dX12_statement_31 rfl rfl ?_
  refine aw_iconst (v := (1 : Int32)) dX12_statement_32 (by decide) ?_
  refine aw_icmp_ne 138 dX12_statement_33 (by decide) (fun c57 => ?_) (fun c57 => ?_)
  · have h := h.1 c57
    refine aw_iload_n 3 dX12_statement_138 rfl rfl ?_
    refine aw_bipush (v := (6 : Int32)) dX12_statement_139 (by decide) ?_
    refine aw_icmp_ne 174 dX12_statement_141 (by decide) (fun c34 => ?_) (fun c34 => ?_)
    · have h := h.1 c34
      refine aw_iload_n 3 dX12_statement_174 rfl rfl ?_
      refine aw_bipush (v := (7 : Int32)) dX12_statement_175 (by decide) ?_
      refine aw_icmp_eq 186 dX12_statement_177 (by decide) (fun c26 => ?_) (fun c26 => ?_)
      · have h := h.1 c26
        refine aw_lvsub (lv' := [(0, .ref 0), (1, .int x1), (2, .int x2), (3, .int r2)]) [1, 2, 3, 0] rfl ?_
        exact aw_X12_statement_186 hd hdg hrc  h
      · have h := h.2 c26
        refine aw_iload_n 3 dX12_statement_180 rfl rfl ?_
        refine aw_bipush (v := (9 : Int32)) dX12_statement_181 (by decide) ?_
        refine aw_icmp_ne 280 dX12_statement_183 (by decide) (fun c25 => ?_) (fun c25 => ?_)
        · have h := h.1 c25
          refine aw_aload_n 1 dX12_statement_280 rfl rfl ?_
          refine aw_iconst (v := (1 : Int32)) dX12_statement_281 (by decide) ?_
          refine aw_putf fX12_154 0 (w' := (wX12 G (((τ3.1.1.1, ((τ3.1.1.2.1.1, ((1 : Int32), τ3.1.1.2.1.2.2)), τ3.1.1.2.2)), τ3.1.2), τ3.2))) rfl (fun _ => ⟨rfl, rfl⟩) (Nat.le_of_ble_eq_true rfl) rfl dX12_statement_282 ?_
          refine aw_iload_n 0 dX12_statement_285 rfl rfl ?_
          exact aw_iret rfl dX12_statement_286 ⟨_, (((τ3.1.1.1, ((τ3.1.1.2.1.1, ((1 : Int32), τ3.1.1.2.1.2.2)), τ3.1.1.2.2)), τ3.1.2), τ3.2), rfl, rfl, h⟩
        · have h := h.2 c25
          refine aw_lvsub (lv' := [(0, .ref 0), (1, .int x1), (2, .int x2), (3, .int r2)]) [1, 2, 3, 0] rfl ?_
          exact aw_X12_statement_186 hd hdg hrc  h
    · have h := h.2 c34
      refine aw_aload_n 1 dX12_statement_144 rfl rfl ?_
      refine aw_dup dX12_statement_145 rfl ?_
      refine aw_getf (v := .int τ3.1.1.2.1.1) fX12_151 0 rfl rfl dX12_statement_146 ?_
      refine aw_iconst (v := (1 : Int32)) dX12_statement_149 (by decide) ?_
      refine aw_iadd dX12_statement_150 ?_
      refine aw_topi (fun y27 ey27 => ?_)
      have h := h y27 ey27
      refine aw_putf fX12_151 0 (w' := (wX12 G (((τ3.1.1.1, ((y27, τ3.1.1.2.1.2), τ3.1.1.2.2)), τ3.1.2), τ3.2))) rfl (fun _ => ⟨rfl, rfl⟩) (Nat.le_of_ble_eq_true rfl) rfl dX12_statement_151 ?_
      refine aw_aload_n 1 dX12_statement_154 rfl rfl ?_
      refine aw_iload_n 0 dX12_statement_155 rfl rfl ?_
      refine aw_aload_n 1 dX12_statement_156 rfl rfl ?_
      refine aw_iload_n 2 dX12_statement_157 rfl rfl ?_
      refine aw_callVT (mc1 := 0) (ms1 := 0) (mc := 0) (ms := 0) (st := [.int r2, .ref 0]) (q := 0) (As := [.int x1]) lX12_174 insX12_expr selX12_expr ⟨TX12, 50, rfl⟩ (by omega) (hrc 2 _ [x1] _ h) (Nat.le_of_ble_eq_true rfl) rfl rfl rfl dX12_statement_158 rfl (fun _ _ hh => ?_)
      obtain ⟨r28, τ29, rfl, rfl, h⟩ := hh
      refine aw_stk (st' := [.int r28, .int r2, .ref 0]) rfl ?_
      refine aw_callVT (mc1 := 0) (ms1 := 0) (mc := 0) (ms := 0) (st := []) (q := 0) (As := [.int r2, .int r28]) lX12_164 insX12_add selX12_add ⟨TX12, 50, rfl⟩ (by omega) (kX12_add (d := 0) (by omega) h) (Nat.le_of_ble_eq_true rfl) rfl rfl rfl dX12_statement_161 rfl (fun _ _ hh => ?_)
      obtain ⟨τ31, rfl, rfl, h⟩ := hh
      refine aw_stk (st' := []) rfl ?_
      refine aw_aload_n 1 dX12_statement_164 rfl rfl ?_
      refine aw_bipush (v := (59 : Int32)) dX12_statement_165 (by decide) ?_
      refine aw_callVT (mc1 := 0) (ms1 := 0) (mc := 0) (ms := 0) (st := []) (q := 0) (As := [.int (59 : Int32)]) lX12_168 insX12_take selX12_take ⟨TX12, 50, rfl⟩ (by omega) (kX12_take (d := 0) (by omega) h) (Nat.le_of_ble_eq_true rfl) rfl rfl rfl dX12_statement_167 rfl (fun _ _ hh => ?_)
      obtain ⟨r32, τ33, rfl, rfl, h⟩ := hh
      refine aw_stk (st' := [.int r32]) rfl ?_
      refine aw_pop dX12_statement_170 rfl ?_
      refine aw_goto 285 dX12_statement_171 (by decide) ?_
      refine aw_iload_n 0 dX12_statement_285 rfl rfl ?_
      exact aw_iret rfl dX12_statement_286 ⟨_, τ33, rfl, rfl, h⟩
  · have h := h.2 c57
    refine aw_aload_n 1 dX12_statement_36 rfl rfl ?_
    refine aw_dup dX12_statement_37 rfl ?_
    refine aw_getf (v := .int τ3.1.1.2.1.1) fX12_151 0 rfl rfl dX12_statement_38 ?_
    refine aw_iconst (v := (1 : Int32)) dX12_statement_41 (by decide) ?_
    refine aw_iadd dX12_statement_42 ?_
    refine aw_topi (fun y35 ey35 => ?_)
    have h := h y35 ey35
    refine aw_putf fX12_151 0 (w' := (wX12 G (((τ3.1.1.1, ((y35, τ3.1.1.2.1.2), τ3.1.1.2.2)), τ3.1.2), τ3.2))) rfl (fun _ => ⟨rfl, rfl⟩) (Nat.le_of_ble_eq_true rfl) rfl dX12_statement_43 ?_
    refine aw_aload_n 1 dX12_statement_46 rfl rfl ?_
    refine aw_getf (v := .ref 2) fX12_13 0 rfl rfl dX12_statement_47 ?_
    refine aw_aload_n 1 dX12_statement_50 rfl rfl ?_
    refine aw_getf (v := .int y35) fX12_151 0 rfl rfl dX12_statement_51 ?_
    refine aw_iald 2 (n := 3002) (f := τ3.1.1.1.2.1) rfl h.1 dX12_statement_54 ?_
    have h := h.2
    refine aw_bipush (v := (91 : Int32)) dX12_statement_55 (by decide) ?_
    refine aw_icmp_ne 111 dX12_statement_57 (by decide) (fun c56 => ?_) (fun c56 => ?_)
    · have h := h.1 c56
      refine aw_lvsub (lv' := [(0, .ref 0), (1, .int x1), (3, .int r2)]) [1, 2, 0] rfl ?_
      exact aw_X12_statement_111 hd hdg hrc  h
    · have h := h.2 c56
      refine aw_aload_n 1 dX12_statement_60 rfl rfl ?_
      refine aw_getf (v := .ref 5) fX12_22 0 rfl rfl dX12_statement_61 ?_
      refine aw_iload_n 0 dX12_statement_64 rfl rfl ?_
      refine aw_sipush (v := (301 : Int32)) dX12_statement_65 (by decide) ?_
      refine aw_iast 5 (n := 9000) (f := τ3.1.1.2.2.1) (w' := fun y44 => (wX12 G (((τ3.1.1.1, ((y35, τ3.1.1.2.1.2), (y44, τ3.1.1.2.2.2))), τ3.1.2), τ3.2))) rfl h.1 (fun _ => rfl) dX12_statement_68 (fun y44 ey44 => ?_)
      have h := h.2 y44 ey44
      refine aw_aload_n 1 dX12_statement_69 rfl rfl ?_
      refine aw_iload_n 0 dX12_statement_70 rfl rfl ?_
      refine aw_aload_n 1 dX12_statement_71 rfl rfl ?_
      refine aw_bipush (v := (91 : Int32)) dX12_statement_72 (by decide) ?_
      refine aw_aload_n 1 dX12_statement_74 rfl rfl ?_
      refine aw_getf (v := .int y35) fX12_151 0 rfl rfl dX12_statement_75 ?_
      refine aw_callVT (mc1 := 0) (ms1 := 0) (mc := 0) (ms := 0) (st := [.int r2, .ref 0]) (q := 0) (As := [.int (91 : Int32), .int y35]) lX12_161 insX12_node selX12_node ⟨TX12, 50, rfl⟩ (by omega) (kX12_node (d := 0) (by omega) h) (Nat.le_of_ble_eq_true rfl) rfl rfl rfl dX12_statement_78 rfl (fun _ _ hh => ?_)
      obtain ⟨r45, τ46, rfl, rfl, h⟩ := hh
      refine aw_stk (st' := [.int r45, .int r2, .ref 0]) rfl ?_
      refine aw_callVT (mc1 := 0) (ms1 := 0) (mc := 0) (ms := 0) (st := []) (q := 0) (As := [.int r2, .int r45]) lX12_164 insX12_add selX12_add ⟨TX12, 50, rfl⟩ (by omega) (kX12_add (d := 0) (by omega) h) (Nat.le_of_ble_eq_true rfl) rfl rfl rfl dX12_statement_81 rfl (fun _ _ hh => ?_)
      obtain ⟨τ48, rfl, rfl, h⟩ := hh
      refine aw_stk (st' := []) rfl ?_
      refine aw_aload_n 1 dX12_statement_84 rfl rfl ?_
      refine aw_dup dX12_statement_85 rfl ?_
      refine aw_getf (v := .int τ48.1.1.2.1.1) fX12_151 0 rfl rfl dX12_statement_86 ?_
      refine aw_iconst (v := (1 : Int32)) dX12_statement_89 (by decide) ?_
      refine aw_iadd dX12_statement_90 ?_
      refine aw_topi (fun y49 ey49 => ?_)
      have h := h y49 ey49
      refine aw_putf fX12_151 0 (w' := (wX12 G (((τ48.1.1.1, ((y49, τ48.1.1.2.1.2), τ48.1.1.2.2)), τ48.1.2), τ48.2))) rfl (fun _ => ⟨rfl, rfl⟩) (Nat.le_of_ble_eq_true rfl) rfl dX12_statement_91 ?_
      refine aw_aload_n 1 dX12_statement_94 rfl rfl ?_
      refine aw_iload_n 0 dX12_statement_95 rfl rfl ?_
      refine aw_aload_n 1 dX12_statement_96 rfl rfl ?_
      refine aw_iload_n 2 dX12_statement_97 rfl rfl ?_
      refine aw_callVT (mc1 := 0) (ms1 := 0) (mc := 0) (ms := 0) (st := [.int r2, .ref 0]) (q := 0) (As := [.int x1]) lX12_174 insX12_expr selX12_expr ⟨TX12, 50, rfl⟩ (by omega) (hrc 2 _ [x1] _ h) (Nat.le_of_ble_eq_true rfl) rfl rfl rfl dX12_statement_98 rfl (fun _ _ hh => ?_)
      obtain ⟨r50, τ51, rfl, rfl, h⟩ := hh
      refine aw_stk (st' := [.int r50, .int r2, .ref 0]) rfl ?_
      refine aw_callVT (mc1 := 0) (ms1 := 0) (mc := 0) (ms := 0) (st := []) (q := 0) (As := [.int r2, .int r50]) lX12_164 insX12_add selX12_add ⟨TX12, 50, rfl⟩ (by omega) (kX12_add (d := 0) (by omega) h) (Nat.le_of_ble_eq_true rfl) rfl rfl rfl dX12_statement_101 rfl (fun _ _ hh => ?_)
      obtain ⟨τ53, rfl, rfl, h⟩ := hh
      refine aw_stk (st' := []) rfl ?_
      refine aw_aload_n 1 dX12_statement_104 rfl rfl ?_
      refine aw_bipush (v := (93 : Int32)) dX12_statement_105 (by decide) ?_
      refine aw_callVT (mc1 := 0) (ms1 := 0) (mc := 0) (ms := 0) (st := []) (q := 0) (As := [.int (93 : Int32)]) lX12_168 insX12_take selX12_take ⟨TX12, 50, rfl⟩ (by omega) (kX12_take (d := 0) (by omega) h) (Nat.le_of_ble_eq_true rfl) rfl rfl rfl dX12_statement_107 rfl (fun _ _ hh => ?_)
      obtain ⟨r54, τ55, rfl, rfl, h⟩ := hh
      refine aw_stk (st' := [.int r54]) rfl ?_
      refine aw_pop dX12_statement_110 rfl ?_
      refine aw_lvsub (lv' := [(0, .ref 0), (1, .int x1), (3, .int r2)]) [1, 2, 0] rfl ?_
      exact aw_X12_statement_111 hd hdg hrc  h
def wp_X12_statement (rc : Nat → WSX12 → List Int32 → (Int32 → WSX12 → Prop) → Prop) (σ : WSX12) (a1 : Int32) (post : Int32 → WSX12 → Prop) : Prop :=
  (vp_in σ.1.1.2.1.1 3002 ∧ (∀ y1 : Int32, y1 = (σ.1.1.1.2.1 (σ.1.1.2.1.1).toNatClampNeg) → ((¬ y1 = (1 : Int32) → wp_X12_statement_23 rc  post σ a1 y1 y1) ∧ (y1 = (1 : Int32) → wp_X12_statement_23 rc  post σ a1 y1 (300 : Int32)))))
theorem kX12_statement {G : aw_G} {d : Nat} (hd : 1 ≤ d) {dg : Nat} (hdg : dg + 1 ≤ d) {rc : Nat → WSX12 → List Int32 → (Int32 → WSX12 → Prop) → Prop} (hrc : ∀ (k : Nat) (σ : WSX12) (xs : List Int32) (po : Int32 → WSX12 → Prop), rc k σ xs po → AC G (Mg_st k) dg 0 0 25 (.ref 0 :: xs.map .int) (wX12 G σ) (aw_pi (wX12 G) po)) {σ : WSX12} {a1 : Int32} {post : Int32 → WSX12 → Prop} (h : wp_X12_statement rc σ a1 post) : AC G MX12_statement d 0 0 25 [.ref 0, .int a1] (wX12 G σ) (aw_pi (wX12 G) post) := by
  refine AC.of (lv := [(0, .ref 0), (1, .int a1)]) (by decide) (Nat.le_of_ble_eq_true rfl) rfl ?_
  unfold wp_X12_statement at h
  refine aw_aload_n 0 dX12_statement_0 rfl rfl ?_
  refine aw_getf (v := .ref 2) fX12_13 0 rfl rfl dX12_statement_1 ?_
  refine aw_aload_n 0 dX12_statement_4 rfl rfl ?_
  refine aw_getf (v := .int σ.1.1.2.1.1) fX12_151 0 rfl rfl dX12_statement_5 ?_
  refine aw_iald 2 (n := 3002) (f := σ.1.1.1.2.1) rfl h.1 dX12_statement_8 ?_
  have h := h.2
  refine aw_topi (fun y1 ey1 => ?_)
  have h := h y1 ey1
  refine aw_istore_n (lv' := [(2, .int y1), (0, .ref 0), (1, .int a1)]) dX12_statement_9 rfl (by decide) rfl ?_
  refine aw_aload_n 1 dX12_statement_10 rfl rfl ?_
  refine aw_iload_n 0 dX12_statement_11 rfl rfl ?_
  refine aw_iconst (v := (1 : Int32)) dX12_statement_12 (by decide) ?_
  refine aw_icmp_ne 22 dX12_statement_13 (by decide) (fun c58 => ?_) (fun c58 => ?_)
  · have h := h.1 c58
    refine aw_iload_n 0 dX12_statement_22 rfl rfl ?_
    refine aw_lvsub (lv' := [(0, .ref 0), (1, .int a1), (2, .int y1)]) [1, 2, 0] rfl ?_
    exact aw_X12_statement_23 hd hdg hrc  h
  · have h := h.2 c58
    refine aw_sipush (v := (300 : Int32)) dX12_statement_16 (by decide) ?_
    refine aw_goto 23 dX12_statement_19 (by decide) ?_
    refine aw_lvsub (lv' := [(0, .ref 0), (1, .int a1), (2, .int y1)]) [1, 2, 0] rfl ?_
    exact aw_X12_statement_23 hd hdg hrc  h
def wp_X12_block_72 (rc : Nat → WSX12 → List Int32 → (Int32 → WSX12 → Prop) → Prop)  (post : Int32 → WSX12 → Prop) (σ : WSX12) (x2 : Int32) : Prop :=
  wp_X12_take σ (125 : Int32) (fun r5 τ6 => post x2 τ6)
theorem aw_X12_block_72 {G : aw_G} {d : Nat} (hd : 1 ≤ d) {dg : Nat} (hdg : dg + 1 ≤ d) {rc : Nat → WSX12 → List Int32 → (Int32 → WSX12 → Prop) → Prop} (hrc : ∀ (k : Nat) (σ : WSX12) (xs : List Int32) (po : Int32 → WSX12 → Prop), rc k σ xs po → AC G (Mg_st k) dg 0 0 25 (.ref 0 :: xs.map .int) (wX12 G σ) (aw_pi (wX12 G) po)) {post : Int32 → WSX12 → Prop}  {σ : WSX12} {x2 : Int32} (h : wp_X12_block_72 rc  post σ x2) : AW G MX12_block d 0 0 25 (aw_pi (wX12 G) post) 72 [(0, .ref 0), (2, .int x2)] [] (wX12 G σ) := by
  unfold wp_X12_block_72 at h
  refine aw_aload_n 0 dX12_block_72 rfl rfl ?_
  refine aw_bipush (v := (125 : Int32)) dX12_block_73 (by decide) ?_
  refine aw_callVT (mc1 := 0) (ms1 := 0) (mc := 0) (ms := 0) (st := []) (q := 0) (As := [.int (125 : Int32)]) lX12_168 insX12_take selX12_take ⟨TX12, 50, rfl⟩ (by omega) (kX12_take (d := 0) (by omega) h) (Nat.le_of_ble_eq_true rfl) rfl rfl rfl dX12_block_75 rfl (fun _ _ hh => ?_)
  obtain ⟨r5, τ6, rfl, rfl, h⟩ := hh
  refine aw_stk (st' := [.int r5]) rfl ?_
  refine aw_pop dX12_block_78 rfl ?_
  refine aw_iload_n 1 dX12_block_79 rfl rfl ?_
  exact aw_iret rfl dX12_block_80 ⟨_, τ6, rfl, rfl, h⟩
def wb_X12_block_36 (rc : Nat → WSX12 → List Int32 → (Int32 → WSX12 → Prop) → Prop)  (post : Int32 → WSX12 → Prop) (rec_36 : WSX12 × Int32 × Int32 → Prop) (σ : WSX12) (x1 : Int32) (x2 : Int32) : Prop :=
  ((¬ σ.1.1.2.1.2.1 = 0 → wp_X12_block_72 rc  post σ x2) ∧ (σ.1.1.2.1.2.1 = 0 → (vp_in σ.1.1.2.1.1 3002 ∧ (((σ.1.1.1.2.1 (σ.1.1.2.1.1).toNatClampNeg) = (125 : Int32) → wp_X12_block_72 rc  post σ x2) ∧ (¬ (σ.1.1.1.2.1 (σ.1.1.2.1.1).toNatClampNeg) = (125 : Int32) → rc 0 σ [(x1 + (1 : Int32))] (fun r7 τ8 => wp_X12_add τ8 x2 r7 (fun τ10 => rec_36 (τ10, x1, x2))))))))
def wp_X12_block_36 (rc : Nat → WSX12 → List Int32 → (Int32 → WSX12 → Prop) → Prop)  (post : Int32 → WSX12 → Prop) (n : Nat) (σ : WSX12) (x1 : Int32) (x2 : Int32) : Prop := aw_loop (fun r (a : WSX12 × Int32 × Int32) => wb_X12_block_36 rc  post r a.1 a.2.1 a.2.2) n (σ, x1, x2)
theorem aw_X12_block_36 {G : aw_G} {d : Nat} (hd : 1 ≤ d) {dg : Nat} (hdg : dg + 1 ≤ d) {rc : Nat → WSX12 → List Int32 → (Int32 → WSX12 → Prop) → Prop} (hrc : ∀ (k : Nat) (σ : WSX12) (xs : List Int32) (po : Int32 → WSX12 → Prop), rc k σ xs po → AC G (Mg_st k) dg 0 0 25 (.ref 0 :: xs.map .int) (wX12 G σ) (aw_pi (wX12 G) po)) {post : Int32 → WSX12 → Prop}  : ∀ (n : Nat) (σ : WSX12) (x1 : Int32) (x2 : Int32), wp_X12_block_36 rc  post n σ x1 x2 → AW G MX12_block d 0 0 25 (aw_pi (wX12 G) post) 36 [(0, .ref 0), (1, .int x1), (2, .int x2)] [] (wX12 G σ) := by
  intro n
  induction n with
  | zero => intro σ x1 x2 h; exact h.elim
  | succ n ih =>
    intro σ x1 x2 h
    have hrec_36 : ∀ a : WSX12 × Int32 × Int32, aw_loop (fun r (a : WSX12 × Int32 × Int32) => wb_X12_block_36 rc  post r a.1 a.2.1 a.2.2) n a → AW G MX12_block d 0 0 25 (aw_pi (wX12 G) post) 36 [(0, .ref 0), (1, .int a.2.1), (2, .int a.2.2)] [] (wX12 G a.1) := fun a h => ih a.1 a.2.1 a.2.2 h
    have h : wb_X12_block_36 rc  post (aw_loop (fun r (a : WSX12 × Int32 × Int32) => wb_X12_block_36 rc  post r a.1 a.2.1 a.2.2) n) σ x1 x2 := h
    unfold wb_X12_block_36 at h
    refine aw_aload_n 0 dX12_block_36 rfl rfl ?_
    refine aw_getf (v := .int σ.1.1.2.1.2.1) fX12_154 0 rfl rfl dX12_block_37 ?_
    refine aw_if_ne 72 dX12_block_40 (by decide) (fun c12 => ?_) (fun c12 => ?_)
    · have h := h.1 c12
      refine aw_lvsub (lv' := [(0, .ref 0), (2, .int x2)]) [0, 2] rfl ?_
      exact aw_X12_block_72 hd hdg hrc  h
    · have h := h.2 c12
      refine aw_aload_n 0 dX12_block_43 rfl rfl ?_
      refine aw_getf (v := .ref 2) fX12_13 0 rfl rfl dX12_block_44 ?_
      refine aw_aload_n 0 dX12_block_47 rfl rfl ?_
      refine aw_getf (v := .int σ.1.1.2.1.1) fX12_151 0 rfl rfl dX12_block_48 ?_
      refine aw_iald 2 (n := 3002) (f := σ.1.1.1.2.1) rfl h.1 dX12_block_51 ?_
      have h := h.2
      refine aw_bipush (v := (125 : Int32)) dX12_block_52 (by decide) ?_
      refine aw_icmp_eq 72 dX12_block_54 (by decide) (fun c11 => ?_) (fun c11 => ?_)
      · have h := h.1 c11
        refine aw_lvsub (lv' := [(0, .ref 0), (2, .int x2)]) [0, 2] rfl ?_
        exact aw_X12_block_72 hd hdg hrc  h
      · have h := h.2 c11
        refine aw_aload_n 0 dX12_block_57 rfl rfl ?_
        refine aw_iload_n 2 dX12_block_58 rfl rfl ?_
        refine aw_aload_n 0 dX12_block_59 rfl rfl ?_
        refine aw_iload_n 1 dX12_block_60 rfl rfl ?_
        refine aw_iconst (v := (1 : Int32)) dX12_block_61 (by decide) ?_
        refine aw_iadd dX12_block_62 ?_
        refine aw_callVT (mc1 := 0) (ms1 := 0) (mc := 0) (ms := 0) (st := [.int x2, .ref 0]) (q := 0) (As := [.int (x1 + (1 : Int32))]) lX12_171 insX12_statement selX12_statement ⟨TX12, 50, rfl⟩ (by omega) (hrc 0 _ [(x1 + (1 : Int32))] _ h) (Nat.le_of_ble_eq_true rfl) rfl rfl rfl dX12_block_63 rfl (fun _ _ hh => ?_)
        obtain ⟨r7, τ8, rfl, rfl, h⟩ := hh
        refine aw_stk (st' := [.int r7, .int x2, .ref 0]) rfl ?_
        refine aw_callVT (mc1 := 0) (ms1 := 0) (mc := 0) (ms := 0) (st := []) (q := 0) (As := [.int x2, .int r7]) lX12_164 insX12_add selX12_add ⟨TX12, 50, rfl⟩ (by omega) (kX12_add (d := 0) (by omega) h) (Nat.le_of_ble_eq_true rfl) rfl rfl rfl dX12_block_66 rfl (fun _ _ hh => ?_)
        obtain ⟨τ10, rfl, rfl, h⟩ := hh
        refine aw_stk (st' := []) rfl ?_
        refine aw_goto 36 dX12_block_69 (by decide) ?_
        exact hrec_36 (τ10, x1, x2) h
def wp_X12_block_19 (rc : Nat → WSX12 → List Int32 → (Int32 → WSX12 → Prop) → Prop)  (post : Int32 → WSX12 → Prop) (σ : WSX12) (x1 : Int32) (s0 : Int32) : Prop :=
  (aw_bz s0 ∧ wp_X12_take (((σ.1.1.1, ((σ.1.1.2.1.1, (s0, σ.1.1.2.1.2.2)), σ.1.1.2.2)), σ.1.2), σ.2) (123 : Int32) (fun r1 τ2 => wp_X12_node τ2 (302 : Int32) r1 (fun r3 τ4 => (∃ n13, wp_X12_block_36 rc  post n13 τ4 x1 r3))))
theorem aw_X12_block_19 {G : aw_G} {d : Nat} (hd : 1 ≤ d) {dg : Nat} (hdg : dg + 1 ≤ d) {rc : Nat → WSX12 → List Int32 → (Int32 → WSX12 → Prop) → Prop} (hrc : ∀ (k : Nat) (σ : WSX12) (xs : List Int32) (po : Int32 → WSX12 → Prop), rc k σ xs po → AC G (Mg_st k) dg 0 0 25 (.ref 0 :: xs.map .int) (wX12 G σ) (aw_pi (wX12 G) po)) {post : Int32 → WSX12 → Prop}  {σ : WSX12} {x1 : Int32} {s0 : Int32} (h : wp_X12_block_19 rc  post σ x1 s0) : AW G MX12_block d 0 0 25 (aw_pi (wX12 G) post) 19 [(0, .ref 0), (1, .int x1)] [.int s0, .ref 0] (wX12 G σ) := by
  unfold wp_X12_block_19 at h
  refine aw_putf fX12_154 0 (w' := (wX12 G (((σ.1.1.1, ((σ.1.1.2.1.1, (s0, σ.1.1.2.1.2.2)), σ.1.1.2.2)), σ.1.2), σ.2))) rfl (fun _ => h.1) (Nat.le_of_ble_eq_true rfl) rfl dX12_block_19 ?_
  have h := h.2
  refine aw_aload_n 0 dX12_block_22 rfl rfl ?_
  refine aw_sipush (v := (302 : Int32)) dX12_block_23 (by decide) ?_
  refine aw_aload_n 0 dX12_block_26 rfl rfl ?_
  refine aw_bipush (v := (123 : Int32)) dX12_block_27 (by decide) ?_
  refine aw_callVT (mc1 := 0) (ms1 := 0) (mc := 0) (ms := 0) (st := [.int (302 : Int32), .ref 0]) (q := 0) (As := [.int (123 : Int32)]) lX12_168 insX12_take selX12_take ⟨TX12, 50, rfl⟩ (by omega) (kX12_take (d := 0) (by omega) h) (Nat.le_of_ble_eq_true rfl) rfl rfl rfl dX12_block_29 rfl (fun _ _ hh => ?_)
  obtain ⟨r1, τ2, rfl, rfl, h⟩ := hh
  refine aw_stk (st' := [.int r1, .int (302 : Int32), .ref 0]) rfl ?_
  refine aw_callVT (mc1 := 0) (ms1 := 0) (mc := 0) (ms := 0) (st := []) (q := 0) (As := [.int (302 : Int32), .int r1]) lX12_161 insX12_node selX12_node ⟨TX12, 50, rfl⟩ (by omega) (kX12_node (d := 0) (by omega) h) (Nat.le_of_ble_eq_true rfl) rfl rfl rfl dX12_block_32 rfl (fun _ _ hh => ?_)
  obtain ⟨r3, τ4, rfl, rfl, h⟩ := hh
  refine aw_stk (st' := [.int r3]) rfl ?_
  refine aw_istore_n (lv' := [(2, .int r3), (0, .ref 0), (1, .int x1)]) dX12_block_35 rfl (by decide) rfl ?_
  refine aw_lvsub (lv' := [(0, .ref 0), (1, .int x1), (2, .int r3)]) [1, 2, 0] rfl ?_
  obtain ⟨n13, h⟩ := h
  exact aw_X12_block_36 hd hdg hrc  n13 τ4 x1 r3 h
def wp_X12_block_14 (rc : Nat → WSX12 → List Int32 → (Int32 → WSX12 → Prop) → Prop)  (post : Int32 → WSX12 → Prop) (σ : WSX12) (x1 : Int32) : Prop :=
  wp_X12_block_19 rc  post σ x1 (1 : Int32)
theorem aw_X12_block_14 {G : aw_G} {d : Nat} (hd : 1 ≤ d) {dg : Nat} (hdg : dg + 1 ≤ d) {rc : Nat → WSX12 → List Int32 → (Int32 → WSX12 → Prop) → Prop} (hrc : ∀ (k : Nat) (σ : WSX12) (xs : List Int32) (po : Int32 → WSX12 → Prop), rc k σ xs po → AC G (Mg_st k) dg 0 0 25 (.ref 0 :: xs.map .int) (wX12 G σ) (aw_pi (wX12 G) po)) {post : Int32 → WSX12 → Prop}  {σ : WSX12} {x1 : Int32} (h : wp_X12_block_14 rc  post σ x1) : AW G MX12_block d 0 0 25 (aw_pi (wX12 G) post) 14 [(0, .ref 0), (1, .int x1)] [.ref 0] (wX12 G σ) := by
  unfold wp_X12_block_14 at h
  refine aw_iconst (v := (1 : Int32)) dX12_block_14 (by decide) ?_
  refine aw_goto 19 dX12_block_15 (by decide) ?_
  exact aw_X12_block_19 hd hdg hrc  h
def wp_X12_block (rc : Nat → WSX12 → List Int32 → (Int32 → WSX12 → Prop) → Prop) (σ : WSX12) (a1 : Int32) (post : Int32 → WSX12 → Prop) : Prop :=
  ((¬ σ.1.1.2.1.2.1 = 0 → wp_X12_block_14 rc  post σ a1) ∧ (σ.1.1.2.1.2.1 = 0 → ((a1 ≤ (30 : Int32) → wp_X12_block_19 rc  post σ a1 (0 : Int32)) ∧ (¬ a1 ≤ (30 : Int32) → wp_X12_block_14 rc  post σ a1))))
theorem kX12_block {G : aw_G} {d : Nat} (hd : 1 ≤ d) {dg : Nat} (hdg : dg + 1 ≤ d) {rc : Nat → WSX12 → List Int32 → (Int32 → WSX12 → Prop) → Prop} (hrc : ∀ (k : Nat) (σ : WSX12) (xs : List Int32) (po : Int32 → WSX12 → Prop), rc k σ xs po → AC G (Mg_st k) dg 0 0 25 (.ref 0 :: xs.map .int) (wX12 G σ) (aw_pi (wX12 G) po)) {σ : WSX12} {a1 : Int32} {post : Int32 → WSX12 → Prop} (h : wp_X12_block rc σ a1 post) : AC G MX12_block d 0 0 25 [.ref 0, .int a1] (wX12 G σ) (aw_pi (wX12 G) post) := by
  refine AC.of (lv := [(0, .ref 0), (1, .int a1)]) (by decide) (Nat.le_of_ble_eq_true rfl) rfl ?_
  unfold wp_X12_block at h
  refine aw_aload_n 0 dX12_block_0 rfl rfl ?_
  refine aw_aload_n 0 dX12_block_1 rfl rfl ?_
  refine aw_getf (v := .int σ.1.1.2.1.2.1) fX12_154 0 rfl rfl dX12_block_2 ?_
  refine aw_if_ne 14 dX12_block_5 (by decide) (fun c15 => ?_) (fun c15 => ?_)
  · have h := h.1 c15
    exact aw_X12_block_14 hd hdg hrc  h
  · have h := h.2 c15
    refine aw_iload_n 1 dX12_block_8 rfl rfl ?_
    refine aw_bipush (v := (30 : Int32)) dX12_block_9 (by decide) ?_
    refine aw_icmp_le 18 dX12_block_11 (by decide) (fun c14 => ?_) (fun c14 => ?_)
    · have h := h.1 c14
      refine aw_iconst (v := (0 : Int32)) dX12_block_18 (by decide) ?_
      exact aw_X12_block_19 hd hdg hrc  h
    · have h := h.2 c14
      exact aw_X12_block_14 hd hdg hrc  h
def wp_X12_expr_19 (rc : Nat → WSX12 → List Int32 → (Int32 → WSX12 → Prop) → Prop)  (post : Int32 → WSX12 → Prop) (σ : WSX12) (x1 : Int32) (s0 : Int32) : Prop :=
  (aw_bz s0 ∧ rc 3 (((σ.1.1.1, ((σ.1.1.2.1.1, (s0, σ.1.1.2.1.2.2)), σ.1.1.2.2)), σ.1.2), σ.2) [(0 : Int32), (x1 + (1 : Int32))] (fun r1 τ2 => post r1 τ2))
theorem aw_X12_expr_19 {G : aw_G} {d : Nat} (hd : 0 ≤ d) {dg : Nat} (hdg : dg + 1 ≤ d) {rc : Nat → WSX12 → List Int32 → (Int32 → WSX12 → Prop) → Prop} (hrc : ∀ (k : Nat) (σ : WSX12) (xs : List Int32) (po : Int32 → WSX12 → Prop), rc k σ xs po → AC G (Mg_st k) dg 0 0 25 (.ref 0 :: xs.map .int) (wX12 G σ) (aw_pi (wX12 G) po)) {post : Int32 → WSX12 → Prop}  {σ : WSX12} {x1 : Int32} {s0 : Int32} (h : wp_X12_expr_19 rc  post σ x1 s0) : AW G MX12_expr d 0 0 25 (aw_pi (wX12 G) post) 19 [(0, .ref 0), (1, .int x1)] [.int s0, .ref 0] (wX12 G σ) := by
  unfold wp_X12_expr_19 at h
  refine aw_putf fX12_154 0 (w' := (wX12 G (((σ.1.1.1, ((σ.1.1.2.1.1, (s0, σ.1.1.2.1.2.2)), σ.1.1.2.2)), σ.1.2), σ.2))) rfl (fun _ => h.1) (Nat.le_of_ble_eq_true rfl) rfl dX12_expr_19 ?_
  have h := h.2
  refine aw_aload_n 0 dX12_expr_22 rfl rfl ?_
  refine aw_iconst (v := (0 : Int32)) dX12_expr_23 (by decide) ?_
  refine aw_iload_n 1 dX12_expr_24 rfl rfl ?_
  refine aw_iconst (v := (1 : Int32)) dX12_expr_25 (by decide) ?_
  refine aw_iadd dX12_expr_26 ?_
  refine aw_callVT (mc1 := 0) (ms1 := 0) (mc := 0) (ms := 0) (st := []) (q := 0) (As := [.int (0 : Int32), .int (x1 + (1 : Int32))]) lX12_180 insX12_level selX12_level ⟨TX12, 50, rfl⟩ (by omega) (hrc 3 _ [(0 : Int32), (x1 + (1 : Int32))] _ h) (Nat.le_of_ble_eq_true rfl) rfl rfl rfl dX12_expr_27 rfl (fun _ _ hh => ?_)
  obtain ⟨r1, τ2, rfl, rfl, h⟩ := hh
  refine aw_stk (st' := [.int r1]) rfl ?_
  exact aw_iret rfl dX12_expr_30 ⟨_, τ2, rfl, rfl, h⟩
def wp_X12_expr_14 (rc : Nat → WSX12 → List Int32 → (Int32 → WSX12 → Prop) → Prop)  (post : Int32 → WSX12 → Prop) (σ : WSX12) (x1 : Int32) : Prop :=
  wp_X12_expr_19 rc  post σ x1 (1 : Int32)
theorem aw_X12_expr_14 {G : aw_G} {d : Nat} (hd : 0 ≤ d) {dg : Nat} (hdg : dg + 1 ≤ d) {rc : Nat → WSX12 → List Int32 → (Int32 → WSX12 → Prop) → Prop} (hrc : ∀ (k : Nat) (σ : WSX12) (xs : List Int32) (po : Int32 → WSX12 → Prop), rc k σ xs po → AC G (Mg_st k) dg 0 0 25 (.ref 0 :: xs.map .int) (wX12 G σ) (aw_pi (wX12 G) po)) {post : Int32 → WSX12 → Prop}  {σ : WSX12} {x1 : Int32} (h : wp_X12_expr_14 rc  post σ x1) : AW G MX12_expr d 0 0 25 (aw_pi (wX12 G) post) 14 [(0, .ref 0), (1, .int x1)] [.ref 0] (wX12 G σ) := by
  unfold wp_X12_expr_14 at h
  refine aw_iconst (v := (1 : Int32)) dX12_expr_14 (by decide) ?_
  refine aw_goto 19 dX12_expr_15 (by decide) ?_
  exact aw_X12_expr_19 hd hdg hrc  h
def wp_X12_expr (rc : Nat → WSX12 → List Int32 → (Int32 → WSX12 → Prop) → Prop) (σ : WSX12) (a1 : Int32) (post : Int32 → WSX12 → Prop) : Prop :=
  ((¬ σ.1.1.2.1.2.1 = 0 → wp_X12_expr_14 rc  post σ a1) ∧ (σ.1.1.2.1.2.1 = 0 → ((a1 ≤ (30 : Int32) → wp_X12_expr_19 rc  post σ a1 (0 : Int32)) ∧ (¬ a1 ≤ (30 : Int32) → wp_X12_expr_14 rc  post σ a1))))
theorem kX12_expr {G : aw_G} {d : Nat} (hd : 0 ≤ d) {dg : Nat} (hdg : dg + 1 ≤ d) {rc : Nat → WSX12 → List Int32 → (Int32 → WSX12 → Prop) → Prop} (hrc : ∀ (k : Nat) (σ : WSX12) (xs : List Int32) (po : Int32 → WSX12 → Prop), rc k σ xs po → AC G (Mg_st k) dg 0 0 25 (.ref 0 :: xs.map .int) (wX12 G σ) (aw_pi (wX12 G) po)) {σ : WSX12} {a1 : Int32} {post : Int32 → WSX12 → Prop} (h : wp_X12_expr rc σ a1 post) : AC G MX12_expr d 0 0 25 [.ref 0, .int a1] (wX12 G σ) (aw_pi (wX12 G) post) := by
  refine AC.of (lv := [(0, .ref 0), (1, .int a1)]) (by decide) (Nat.le_of_ble_eq_true rfl) rfl ?_
  unfold wp_X12_expr at h
  refine aw_aload_n 0 dX12_expr_0 rfl rfl ?_
  refine aw_aload_n 0 dX12_expr_1 rfl rfl ?_
  refine aw_getf (v := .int σ.1.1.2.1.2.1) fX12_154 0 rfl rfl dX12_expr_2 ?_
  refine aw_if_ne 14 dX12_expr_5 (by decide) (fun c4 => ?_) (fun c4 => ?_)
  · have h := h.1 c4
    exact aw_X12_expr_14 hd hdg hrc  h
  · have h := h.2 c4
    refine aw_iload_n 1 dX12_expr_8 rfl rfl ?_
    refine aw_bipush (v := (30 : Int32)) dX12_expr_9 (by decide) ?_
    refine aw_icmp_le 18 dX12_expr_11 (by decide) (fun c3 => ?_) (fun c3 => ?_)
    · have h := h.1 c3
      refine aw_iconst (v := (0 : Int32)) dX12_expr_18 (by decide) ?_
      exact aw_X12_expr_19 hd hdg hrc  h
    · have h := h.2 c3
      exact aw_X12_expr_14 hd hdg hrc  h
def wb_X12_level_41 (rc : Nat → WSX12 → List Int32 → (Int32 → WSX12 → Prop) → Prop)  (post : Int32 → WSX12 → Prop) (rec_41 : WSX12 × Int32 × Int32 × Int32 → Prop) (σ : WSX12) (x1 : Int32) (x2 : Int32) (x3 : Int32) : Prop :=
  ((¬ σ.1.1.2.1.2.1 = 0 → post x3 σ) ∧ (σ.1.1.2.1.2.1 = 0 → (vp_in σ.1.1.2.1.1 3002 ∧ wp_X12_rank (σ.1.1.1.2.1 (σ.1.1.2.1.1).toNatClampNeg) (fun r3 τ4 => ((¬ r3 = x1 → post x3 σ) ∧ (r3 = x1 → (vp_in σ.1.1.2.1.1 3002 ∧ wp_X12_node σ (σ.1.1.1.2.1 (σ.1.1.2.1.1).toNatClampNeg) σ.1.1.2.1.1 (fun r5 τ6 => (∀ y7 : Int32, y7 = (τ6.1.1.2.1.1 + (1 : Int32)) → wp_X12_add (((τ6.1.1.1, ((y7, τ6.1.1.2.1.2), τ6.1.1.2.2)), τ6.1.2), τ6.2) r5 x3 (fun τ9 => rc 3 τ9 [(x1 + (1 : Int32)), x2] (fun r10 τ11 => wp_X12_add τ11 r5 r10 (fun τ13 => rec_41 (τ13, x1, x2, r5)))))))))))))
def wp_X12_level_41 (rc : Nat → WSX12 → List Int32 → (Int32 → WSX12 → Prop) → Prop)  (post : Int32 → WSX12 → Prop) (n : Nat) (σ : WSX12) (x1 : Int32) (x2 : Int32) (x3 : Int32) : Prop := aw_loop (fun r (a : WSX12 × Int32 × Int32 × Int32) => wb_X12_level_41 rc  post r a.1 a.2.1 a.2.2.1 a.2.2.2) n (σ, x1, x2, x3)
theorem aw_X12_level_41 {G : aw_G} {d : Nat} (hd : 1 ≤ d) {dg : Nat} (hdg : dg + 1 ≤ d) {rc : Nat → WSX12 → List Int32 → (Int32 → WSX12 → Prop) → Prop} (hrc : ∀ (k : Nat) (σ : WSX12) (xs : List Int32) (po : Int32 → WSX12 → Prop), rc k σ xs po → AC G (Mg_st k) dg 0 0 25 (.ref 0 :: xs.map .int) (wX12 G σ) (aw_pi (wX12 G) po)) {post : Int32 → WSX12 → Prop}  : ∀ (n : Nat) (σ : WSX12) (x1 : Int32) (x2 : Int32) (x3 : Int32), wp_X12_level_41 rc  post n σ x1 x2 x3 → AW G MX12_level d 0 0 25 (aw_pi (wX12 G) post) 41 [(0, .ref 0), (1, .int x1), (2, .int x2), (3, .int x3)] [] (wX12 G σ) := by
  intro n
  induction n with
  | zero => intro σ x1 x2 x3 h; exact h.elim
  | succ n ih =>
    intro σ x1 x2 x3 h
    have hrec_41 : ∀ a : WSX12 × Int32 × Int32 × Int32, aw_loop (fun r (a : WSX12 × Int32 × Int32 × Int32) => wb_X12_level_41 rc  post r a.1 a.2.1 a.2.2.1 a.2.2.2) n a → AW G MX12_level d 0 0 25 (aw_pi (wX12 G) post) 41 [(0, .ref 0), (1, .int a.2.1), (2, .int a.2.2.1), (3, .int a.2.2.2)] [] (wX12 G a.1) := fun a h => ih a.1 a.2.1 a.2.2.1 a.2.2.2 h
    have h : wb_X12_level_41 rc  post (aw_loop (fun r (a : WSX12 × Int32 × Int32 × Int32) => wb_X12_level_41 rc  post r a.1 a.2.1 a.2.2.1 a.2.2.2) n) σ x1 x2 x3 := h
    unfold wb_X12_level_41 at h
    refine aw_aload_n 0 dX12_level_41 rfl rfl ?_
    refine aw_getf (v := .int σ.1.1.2.1.2.1) fX12_154 0 rfl rfl dX12_level_42 ?_
    refine aw_if_ne 120 dX12_level_45 (by decide) (fun c15 => ?_) (fun c15 => ?_)
    · have h := h.1 c15
      refine aw_iload_n 3 dX12_level_120 rfl rfl ?_
      exact aw_iret rfl dX12_level_121 ⟨_, σ, rfl, rfl, h⟩
    · have h := h.2 c15
      refine aw_aload_n 0 dX12_level_48 rfl rfl ?_
      refine aw_getf (v := .ref 2) fX12_13 0 rfl rfl dX12_level_49 ?_
      refine aw_aload_n 0 dX12_level_52 rfl rfl ?_
      refine aw_getf (v := .int σ.1.1.2.1.1) fX12_151 0 rfl rfl dX12_level_53 ?_
      refine aw_iald 2 (n := 3002) (f := σ.1.1.1.2.1) rfl h.1 dX12_level_56 ?_
      have h := h.2
      refine aw_callST (st := []) (As := [.int (σ.1.1.1.2.1 (σ.1.1.2.1.1).toNatClampNeg)]) lX12_186 sttX12_rank (by omega) (kX12_rank (d := 0) (by omega) h) rfl rfl rfl dX12_level_57 rfl (fun _ _ hh => ?_)
      obtain ⟨r3, τ4, rfl, rfl, h⟩ := hh
      refine ⟨rfl, (fun x hx => by cases hx; rfl), ?_⟩
      refine aw_stk (st' := [.int r3]) rfl ?_
      refine aw_iload_n 1 dX12_level_60 rfl rfl ?_
      refine aw_icmp_ne 120 dX12_level_61 (by decide) (fun c14 => ?_) (fun c14 => ?_)
      · have h := h.1 c14
        refine aw_iload_n 3 dX12_level_120 rfl rfl ?_
        exact aw_iret rfl dX12_level_121 ⟨_, σ, rfl, rfl, h⟩
      · have h := h.2 c14
        refine aw_aload_n 0 dX12_level_64 rfl rfl ?_
        refine aw_aload_n 0 dX12_level_65 rfl rfl ?_
        refine aw_getf (v := .ref 2) fX12_13 0 rfl rfl dX12_level_66 ?_
        refine aw_aload_n 0 dX12_level_69 rfl rfl ?_
        refine aw_getf (v := .int σ.1.1.2.1.1) fX12_151 0 rfl rfl dX12_level_70 ?_
        refine aw_iald 2 (n := 3002) (f := σ.1.1.1.2.1) rfl h.1 dX12_level_73 ?_
        have h := h.2
        refine aw_aload_n 0 dX12_level_74 rfl rfl ?_
        refine aw_getf (v := .int σ.1.1.2.1.1) fX12_151 0 rfl rfl dX12_level_75 ?_
        refine aw_callVT (mc1 := 0) (ms1 := 0) (mc := 0) (ms := 0) (st := []) (q := 0) (As := [.int (σ.1.1.1.2.1 (σ.1.1.2.1.1).toNatClampNeg), .int σ.1.1.2.1.1]) lX12_161 insX12_node selX12_node ⟨TX12, 50, rfl⟩ (by omega) (kX12_node (d := 0) (by omega) h) (Nat.le_of_ble_eq_true rfl) rfl rfl rfl dX12_level_78 rfl (fun _ _ hh => ?_)
        obtain ⟨r5, τ6, rfl, rfl, h⟩ := hh
        refine aw_stk (st' := [.int r5]) rfl ?_
        refine aw_istore (lv' := [(4, .int r5), (0, .ref 0), (1, .int x1), (2, .int x2), (3, .int x3)]) dX12_level_81 (by decide) rfl ?_
        refine aw_aload_n 1 dX12_level_83 rfl rfl ?_
        refine aw_dup dX12_level_84 rfl ?_
        refine aw_getf (v := .int τ6.1.1.2.1.1) fX12_151 0 rfl rfl dX12_level_85 ?_
        refine aw_iconst (v := (1 : Int32)) dX12_level_88 (by decide) ?_
        refine aw_iadd dX12_level_89 ?_
        refine aw_topi (fun y7 ey7 => ?_)
        have h := h y7 ey7
        refine aw_putf fX12_151 0 (w' := (wX12 G (((τ6.1.1.1, ((y7, τ6.1.1.2.1.2), τ6.1.1.2.2)), τ6.1.2), τ6.2))) rfl (fun _ => ⟨rfl, rfl⟩) (Nat.le_of_ble_eq_true rfl) rfl dX12_level_90 ?_
        refine aw_aload_n 1 dX12_level_93 rfl rfl ?_
        refine aw_iload 0 dX12_level_94 rfl ?_
        refine aw_iload_n 4 dX12_level_96 rfl rfl ?_
        refine aw_callVT (mc1 := 0) (ms1 := 0) (mc := 0) (ms := 0) (st := []) (q := 0) (As := [.int r5, .int x3]) lX12_164 insX12_add selX12_add ⟨TX12, 50, rfl⟩ (by omega) (kX12_add (d := 0) (by omega) h) (Nat.le_of_ble_eq_true rfl) rfl rfl rfl dX12_level_97 rfl (fun _ _ hh => ?_)
        obtain ⟨τ9, rfl, rfl, h⟩ := hh
        refine aw_stk (st' := []) rfl ?_
        refine aw_aload_n 1 dX12_level_100 rfl rfl ?_
        refine aw_iload 0 dX12_level_101 rfl ?_
        refine aw_aload_n 1 dX12_level_103 rfl rfl ?_
        refine aw_iload_n 2 dX12_level_104 rfl rfl ?_
        refine aw_iconst (v := (1 : Int32)) dX12_level_105 (by decide) ?_
        refine aw_iadd dX12_level_106 ?_
        refine aw_iload_n 3 dX12_level_107 rfl rfl ?_
        refine aw_callVT (mc1 := 0) (ms1 := 0) (mc := 0) (ms := 0) (st := [.int r5, .ref 0]) (q := 0) (As := [.int (x1 + (1 : Int32)), .int x2]) lX12_180 insX12_level selX12_level ⟨TX12, 50, rfl⟩ (by omega) (hrc 3 _ [(x1 + (1 : Int32)), x2] _ h) (Nat.le_of_ble_eq_true rfl) rfl rfl rfl dX12_level_108 rfl (fun _ _ hh => ?_)
        obtain ⟨r10, τ11, rfl, rfl, h⟩ := hh
        refine aw_stk (st' := [.int r10, .int r5, .ref 0]) rfl ?_
        refine aw_callVT (mc1 := 0) (ms1 := 0) (mc := 0) (ms := 0) (st := []) (q := 0) (As := [.int r5, .int r10]) lX12_164 insX12_add selX12_add ⟨TX12, 50, rfl⟩ (by omega) (kX12_add (d := 0) (by omega) h) (Nat.le_of_ble_eq_true rfl) rfl rfl rfl dX12_level_111 rfl (fun _ _ hh => ?_)
        obtain ⟨τ13, rfl, rfl, h⟩ := hh
        refine aw_stk (st' := []) rfl ?_
        refine aw_iload 0 dX12_level_114 rfl ?_
        refine aw_istore_n (lv' := [(3, .int r5), (4, .int r5), (0, .ref 0), (1, .int x1), (2, .int x2)]) dX12_level_116 rfl (by decide) rfl ?_
        refine aw_goto 41 dX12_level_117 (by decide) ?_
        refine aw_lvsub (lv' := [(0, .ref 0), (1, .int x1), (2, .int x2), (3, .int r5)]) [2, 3, 4, 0] rfl ?_
        exact hrec_41 (τ13, x1, x2, r5) h
def wp_X12_level_40 (rc : Nat → WSX12 → List Int32 → (Int32 → WSX12 → Prop) → Prop)  (post : Int32 → WSX12 → Prop) (σ : WSX12) (x1 : Int32) (x2 : Int32) (s0 : Int32) : Prop :=
  (∃ n16, wp_X12_level_41 rc  post n16 σ x1 x2 s0)
theorem aw_X12_level_40 {G : aw_G} {d : Nat} (hd : 1 ≤ d) {dg : Nat} (hdg : dg + 1 ≤ d) {rc : Nat → WSX12 → List Int32 → (Int32 → WSX12 → Prop) → Prop} (hrc : ∀ (k : Nat) (σ : WSX12) (xs : List Int32) (po : Int32 → WSX12 → Prop), rc k σ xs po → AC G (Mg_st k) dg 0 0 25 (.ref 0 :: xs.map .int) (wX12 G σ) (aw_pi (wX12 G) po)) {post : Int32 → WSX12 → Prop}  {σ : WSX12} {x1 : Int32} {x2 : Int32} {s0 : Int32} (h : wp_X12_level_40 rc  post σ x1 x2 s0) : AW G MX12_level d 0 0 25 (aw_pi (wX12 G) post) 40 [(0, .ref 0), (1, .int x1), (2, .int x2)] [.int s0] (wX12 G σ) := by
  unfold wp_X12_level_40 at h
  refine aw_istore_n (lv' := [(3, .int s0), (0, .ref 0), (1, .int x1), (2, .int x2)]) dX12_level_40 rfl (by decide) rfl ?_
  refine aw_lvsub (lv' := [(0, .ref 0), (1, .int x1), (2, .int x2), (3, .int s0)]) [1, 2, 3, 0] rfl ?_
  obtain ⟨n16, h⟩ := h
  exact aw_X12_level_41 hd hdg hrc  n16 σ x1 x2 s0 h
def wp_X12_level (rc : Nat → WSX12 → List Int32 → (Int32 → WSX12 → Prop) → Prop) (σ : WSX12) (a1 : Int32) (a2 : Int32) (post : Int32 → WSX12 → Prop) : Prop :=
  ((¬ a1 = (7 : Int32) → ((σ.1.1.2.1.2.1 = 0 → rc 3 σ [(a1 + (1 : Int32)), a2] (fun r1 τ2 => wp_X12_level_40 rc  post τ2 a1 a2 r1)) ∧ (¬ σ.1.1.2.1.2.1 = 0 → wp_X12_node σ (11 : Int32) σ.1.1.2.1.1 (fun r17 τ18 => wp_X12_level_40 rc  post τ18 a1 a2 r17)))) ∧ (a1 = (7 : Int32) → rc 4 σ [a2] (fun r20 τ21 => post r20 τ21)))
theorem kX12_level {G : aw_G} {d : Nat} (hd : 1 ≤ d) {dg : Nat} (hdg : dg + 1 ≤ d) {rc : Nat → WSX12 → List Int32 → (Int32 → WSX12 → Prop) → Prop} (hrc : ∀ (k : Nat) (σ : WSX12) (xs : List Int32) (po : Int32 → WSX12 → Prop), rc k σ xs po → AC G (Mg_st k) dg 0 0 25 (.ref 0 :: xs.map .int) (wX12 G σ) (aw_pi (wX12 G) po)) {σ : WSX12} {a1 : Int32} {a2 : Int32} {post : Int32 → WSX12 → Prop} (h : wp_X12_level rc σ a1 a2 post) : AC G MX12_level d 0 0 25 [.ref 0, .int a1, .int a2] (wX12 G σ) (aw_pi (wX12 G) post) := by
  refine AC.of (lv := [(0, .ref 0), (1, .int a1), (2, .int a2)]) (by decide) (Nat.le_of_ble_eq_true rfl) rfl ?_
  unfold wp_X12_level at h
  refine aw_iload_n 1 dX12_level_0 rfl rfl ?_
  refine aw_bipush (v := (7 : Int32)) dX12_level_1 (by decide) ?_
  refine aw_icmp_ne 12 dX12_level_3 (by decide) (fun c22 => ?_) (fun c22 => ?_)
  · have h := h.1 c22
    refine aw_aload_n 0 dX12_level_12 rfl rfl ?_
    refine aw_getf (v := .int σ.1.1.2.1.2.1) fX12_154 0 rfl rfl dX12_level_13 ?_
    refine aw_if_eq 32 dX12_level_16 (by decide) (fun c19 => ?_) (fun c19 => ?_)
    · have h := h.1 c19
      refine aw_aload_n 0 dX12_level_32 rfl rfl ?_
      refine aw_iload_n 1 dX12_level_33 rfl rfl ?_
      refine aw_iconst (v := (1 : Int32)) dX12_level_34 (by decide) ?_
      refine aw_iadd dX12_level_35 ?_
      refine aw_iload_n 2 dX12_level_36 rfl rfl ?_
      refine aw_callVT (mc1 := 0) (ms1 := 0) (mc := 0) (ms := 0) (st := []) (q := 0) (As := [.int (a1 + (1 : Int32)), .int a2]) lX12_180 insX12_level selX12_level ⟨TX12, 50, rfl⟩ (by omega) (hrc 3 _ [(a1 + (1 : Int32)), a2] _ h) (Nat.le_of_ble_eq_true rfl) rfl rfl rfl dX12_level_37 rfl (fun _ _ hh => ?_)
      obtain ⟨r1, τ2, rfl, rfl, h⟩ := hh
      refine aw_stk (st' := [.int r1]) rfl ?_
      exact aw_X12_level_40 hd hdg hrc  h
    · have h := h.2 c19
      refine aw_aload_n 0 dX12_level_19 rfl rfl ?_
      refine aw_bipush (v := (11 : Int32)) dX12_level_20 (by decide) ?_
      refine aw_aload_n 0 dX12_level_22 rfl rfl ?_
      refine aw_getf (v := .int σ.1.1.2.1.1) fX12_151 0 rfl rfl dX12_level_23 ?_
      refine aw_callVT (mc1 := 0) (ms1 := 0) (mc := 0) (ms := 0) (st := []) (q := 0) (As := [.int (11 : Int32), .int σ.1.1.2.1.1]) lX12_161 insX12_node selX12_node ⟨TX12, 50, rfl⟩ (by omega) (kX12_node (d := 0) (by omega) h) (Nat.le_of_ble_eq_true rfl) rfl rfl rfl dX12_level_26 rfl (fun _ _ hh => ?_)
      obtain ⟨r17, τ18, rfl, rfl, h⟩ := hh
      refine aw_stk (st' := [.int r17]) rfl ?_
      refine aw_goto 40 dX12_level_29 (by decide) ?_
      exact aw_X12_level_40 hd hdg hrc  h
  · have h := h.2 c22
    refine aw_aload_n 0 dX12_level_6 rfl rfl ?_
    refine aw_iload_n 2 dX12_level_7 rfl rfl ?_
    refine aw_callVT (mc1 := 0) (ms1 := 0) (mc := 0) (ms := 0) (st := []) (q := 0) (As := [.int a2]) lX12_183 insX12_unary selX12_unary ⟨TX12, 50, rfl⟩ (by omega) (hrc 4 _ [a2] _ h) (Nat.le_of_ble_eq_true rfl) rfl rfl rfl dX12_level_8 rfl (fun _ _ hh => ?_)
    obtain ⟨r20, τ21, rfl, rfl, h⟩ := hh
    refine aw_stk (st' := [.int r20]) rfl ?_
    exact aw_iret rfl dX12_level_11 ⟨_, τ21, rfl, rfl, h⟩
def wp_X12_unary_90 (rc : Nat → WSX12 → List Int32 → (Int32 → WSX12 → Prop) → Prop)  (post : Int32 → WSX12 → Prop) (σ : WSX12) (x1 : Int32) (x3 : Int32) : Prop :=
  (∀ y4 : Int32, y4 = (σ.1.1.2.1.1 + (1 : Int32)) → rc 4 (((σ.1.1.1, ((y4, σ.1.1.2.1.2), σ.1.1.2.2)), σ.1.2), σ.2) [(x1 + (1 : Int32))] (fun r5 τ6 => wp_X12_add τ6 x3 r5 (fun τ8 => post x3 τ8)))
theorem aw_X12_unary_90 {G : aw_G} {d : Nat} (hd : 1 ≤ d) {dg : Nat} (hdg : dg + 1 ≤ d) {rc : Nat → WSX12 → List Int32 → (Int32 → WSX12 → Prop) → Prop} (hrc : ∀ (k : Nat) (σ : WSX12) (xs : List Int32) (po : Int32 → WSX12 → Prop), rc k σ xs po → AC G (Mg_st k) dg 0 0 25 (.ref 0 :: xs.map .int) (wX12 G σ) (aw_pi (wX12 G) po)) {post : Int32 → WSX12 → Prop}  {σ : WSX12} {x1 : Int32} {x3 : Int32} (h : wp_X12_unary_90 rc  post σ x1 x3) : AW G MX12_unary d 0 0 25 (aw_pi (wX12 G) post) 90 [(0, .ref 0), (1, .int x1), (3, .int x3)] [] (wX12 G σ) := by
  unfold wp_X12_unary_90 at h
  refine aw_aload_n 0 dX12_unary_90 rfl rfl ?_
  refine aw_dup dX12_unary_91 rfl ?_
  refine aw_getf (v := .int σ.1.1.2.1.1) fX12_151 0 rfl rfl dX12_unary_92 ?_
  refine aw_iconst (v := (1 : Int32)) dX12_unary_95 (by decide) ?_
  refine aw_iadd dX12_unary_96 ?_
  refine aw_topi (fun y4 ey4 => ?_)
  have h := h y4 ey4
  refine aw_putf fX12_151 0 (w' := (wX12 G (((σ.1.1.1, ((y4, σ.1.1.2.1.2), σ.1.1.2.2)), σ.1.2), σ.2))) rfl (fun _ => ⟨rfl, rfl⟩) (Nat.le_of_ble_eq_true rfl) rfl dX12_unary_97 ?_
  refine aw_aload_n 0 dX12_unary_100 rfl rfl ?_
  refine aw_iload_n 2 dX12_unary_101 rfl rfl ?_
  refine aw_aload_n 0 dX12_unary_102 rfl rfl ?_
  refine aw_iload_n 1 dX12_unary_103 rfl rfl ?_
  refine aw_iconst (v := (1 : Int32)) dX12_unary_104 (by decide) ?_
  refine aw_iadd dX12_unary_105 ?_
  refine aw_callVT (mc1 := 0) (ms1 := 0) (mc := 0) (ms := 0) (st := [.int x3, .ref 0]) (q := 0) (As := [.int (x1 + (1 : Int32))]) lX12_183 insX12_unary selX12_unary ⟨TX12, 50, rfl⟩ (by omega) (hrc 4 _ [(x1 + (1 : Int32))] _ h) (Nat.le_of_ble_eq_true rfl) rfl rfl rfl dX12_unary_106 rfl (fun _ _ hh => ?_)
  obtain ⟨r5, τ6, rfl, rfl, h⟩ := hh
  refine aw_stk (st' := [.int r5, .int x3, .ref 0]) rfl ?_
  refine aw_callVT (mc1 := 0) (ms1 := 0) (mc := 0) (ms := 0) (st := []) (q := 0) (As := [.int x3, .int r5]) lX12_164 insX12_add selX12_add ⟨TX12, 50, rfl⟩ (by omega) (kX12_add (d := 0) (by omega) h) (Nat.le_of_ble_eq_true rfl) rfl rfl rfl dX12_unary_109 rfl (fun _ _ hh => ?_)
  obtain ⟨τ8, rfl, rfl, h⟩ := hh
  refine aw_stk (st' := []) rfl ?_
  refine aw_goto 257 dX12_unary_112 (by decide) ?_
  refine aw_iload_n 2 dX12_unary_257 rfl rfl ?_
  exact aw_iret rfl dX12_unary_258 ⟨_, τ8, rfl, rfl, h⟩
def wp_X12_unary_64 (rc : Nat → WSX12 → List Int32 → (Int32 → WSX12 → Prop) → Prop)  (post : Int32 → WSX12 → Prop) (σ : WSX12) (x1 : Int32) (x2 : Int32) (s0 : Int32) : Prop :=
  wp_X12_node σ s0 σ.1.1.2.1.1 (fun r2 τ3 => ((x2 = (45 : Int32) → wp_X12_unary_90 rc  post τ3 x1 r2) ∧ (¬ x2 = (45 : Int32) → ((x2 = (126 : Int32) → wp_X12_unary_90 rc  post τ3 x1 r2) ∧ (¬ x2 = (126 : Int32) → ((¬ x2 = (33 : Int32) → ((¬ x2 = (2 : Int32) → ((¬ x2 = (1 : Int32) → ((¬ x2 = (40 : Int32) → post r2 (((τ3.1.1.1, ((τ3.1.1.2.1.1, ((1 : Int32), τ3.1.1.2.1.2.2)), τ3.1.1.2.2)), τ3.1.2), τ3.2)) ∧ (x2 = (40 : Int32) → (∀ y9 : Int32, y9 = (τ3.1.1.2.1.1 + (1 : Int32)) → rc 2 (((τ3.1.1.1, ((y9, τ3.1.1.2.1.2), τ3.1.1.2.2)), τ3.1.2), τ3.2) [(x1 + (1 : Int32))] (fun r10 τ11 => wp_X12_take τ11 (41 : Int32) (fun r12 τ13 => post r10 τ13)))))) ∧ (x2 = (1 : Int32) → (∀ y15 : Int32, y15 = (τ3.1.1.2.1.1 + (1 : Int32)) → (vp_in y15 3002 ∧ ((¬ (τ3.1.1.1.2.1 (y15).toNatClampNeg) = (91 : Int32) → post r2 (((τ3.1.1.1, ((y15, τ3.1.1.2.1.2), τ3.1.1.2.2)), τ3.1.2), τ3.2)) ∧ ((τ3.1.1.1.2.1 (y15).toNatClampNeg) = (91 : Int32) → (vp_in r2 9000 ∧ ∀ y16 : Nat → Int32, y16 = upd τ3.1.1.2.2.1 (r2).toNatClampNeg (303 : Int32) → wp_X12_node (((τ3.1.1.1, ((y15, τ3.1.1.2.1.2), (y16, τ3.1.1.2.2.2))), τ3.1.2), τ3.2) (91 : Int32) y15 (fun r17 τ18 => wp_X12_add τ18 r2 r17 (fun τ20 => (∀ y21 : Int32, y21 = (τ20.1.1.2.1.1 + (1 : Int32)) → rc 2 (((τ20.1.1.1, ((y21, τ20.1.1.2.1.2), τ20.1.1.2.2)), τ20.1.2), τ20.2) [(x1 + (1 : Int32))] (fun r22 τ23 => wp_X12_add τ23 r2 r22 (fun τ25 => wp_X12_take τ25 (93 : Int32) (fun r26 τ27 => post r2 τ27)))))))))))))) ∧ (x2 = (2 : Int32) → (∀ y30 : Int32, y30 = (τ3.1.1.2.1.1 + (1 : Int32)) → post r2 (((τ3.1.1.1, ((y30, τ3.1.1.2.1.2), τ3.1.1.2.2)), τ3.1.2), τ3.2))))) ∧ (x2 = (33 : Int32) → wp_X12_unary_90 rc  post τ3 x1 r2)))))))
theorem aw_X12_unary_64 {G : aw_G} {d : Nat} (hd : 1 ≤ d) {dg : Nat} (hdg : dg + 1 ≤ d) {rc : Nat → WSX12 → List Int32 → (Int32 → WSX12 → Prop) → Prop} (hrc : ∀ (k : Nat) (σ : WSX12) (xs : List Int32) (po : Int32 → WSX12 → Prop), rc k σ xs po → AC G (Mg_st k) dg 0 0 25 (.ref 0 :: xs.map .int) (wX12 G σ) (aw_pi (wX12 G) po)) {post : Int32 → WSX12 → Prop}  {σ : WSX12} {x1 : Int32} {x2 : Int32} {s0 : Int32} (h : wp_X12_unary_64 rc  post σ x1 x2 s0) : AW G MX12_unary d 0 0 25 (aw_pi (wX12 G) post) 64 [(0, .ref 0), (1, .int x1), (2, .int x2)] [.int s0, .ref 0] (wX12 G σ) := by
  unfold wp_X12_unary_64 at h
  refine aw_aload_n 0 dX12_unary_64 rfl rfl ?_
  refine aw_getf (v := .int σ.1.1.2.1.1) fX12_151 0 rfl rfl dX12_unary_65 ?_
  refine aw_callVT (mc1 := 0) (ms1 := 0) (mc := 0) (ms := 0) (st := []) (q := 0) (As := [.int s0, .int σ.1.1.2.1.1]) lX12_161 insX12_node selX12_node ⟨TX12, 50, rfl⟩ (by omega) (kX12_node (d := 0) (by omega) h) (Nat.le_of_ble_eq_true rfl) rfl rfl rfl dX12_unary_68 rfl (fun _ _ hh => ?_)
  obtain ⟨r2, τ3, rfl, rfl, h⟩ := hh
  refine aw_stk (st' := [.int r2]) rfl ?_
  refine aw_istore_n (lv' := [(3, .int r2), (0, .ref 0), (1, .int x1), (2, .int x2)]) dX12_unary_71 rfl (by decide) rfl ?_
  refine aw_iload_n 3 dX12_unary_72 rfl rfl ?_
  refine aw_bipush (v := (45 : Int32)) dX12_unary_73 (by decide) ?_
  refine aw_icmp_eq 90 dX12_unary_75 (by decide) (fun c34 => ?_) (fun c34 => ?_)
  · have h := h.1 c34
    refine aw_lvsub (lv' := [(0, .ref 0), (1, .int x1), (3, .int r2)]) [1, 2, 0] rfl ?_
    exact aw_X12_unary_90 hd hdg hrc  h
  · have h := h.2 c34
    refine aw_iload_n 3 dX12_unary_78 rfl rfl ?_
    refine aw_bipush (v := (126 : Int32)) dX12_unary_79 (by decide) ?_
    refine aw_icmp_eq 90 dX12_unary_81 (by decide) (fun c33 => ?_) (fun c33 => ?_)
    · have h := h.1 c33
      refine aw_lvsub (lv' := [(0, .ref 0), (1, .int x1), (3, .int r2)]) [1, 2, 0] rfl ?_
      exact aw_X12_unary_90 hd hdg hrc  h
    · have h := h.2 c33
      refine aw_iload_n 3 dX12_unary_84 rfl rfl ?_
      refine aw_bipush (v := (33 : Int32)) dX12_unary_85 (by decide) ?_
      refine aw_icmp_ne 115 dX12_unary_87 (by decide) (fun c32 => ?_) (fun c32 => ?_)
      · have h := h.1 c32
        refine aw_iload_n 3 dX12_unary_115 rfl rfl ?_
        refine aw_iconst (v := (2 : Int32)) dX12_unary_116 (by decide) ?_
        refine aw_icmp_ne 133 dX12_unary_117 (by decide) (fun c31 => ?_) (fun c31 => ?_)
        · have h := h.1 c31
          refine aw_iload_n 3 dX12_unary_133 rfl rfl ?_
          refine aw_iconst (v := (1 : Int32)) dX12_unary_134 (by decide) ?_
          refine aw_icmp_ne 218 dX12_unary_135 (by decide) (fun c29 => ?_) (fun c29 => ?_)
          · have h := h.1 c29
            refine aw_iload_n 3 dX12_unary_218 rfl rfl ?_
            refine aw_bipush (v := (40 : Int32)) dX12_unary_219 (by decide) ?_
            refine aw_icmp_ne 252 dX12_unary_221 (by decide) (fun c14 => ?_) (fun c14 => ?_)
            · have h := h.1 c14
              refine aw_aload_n 1 dX12_unary_252 rfl rfl ?_
              refine aw_iconst (v := (1 : Int32)) dX12_unary_253 (by decide) ?_
              refine aw_putf fX12_154 0 (w' := (wX12 G (((τ3.1.1.1, ((τ3.1.1.2.1.1, ((1 : Int32), τ3.1.1.2.1.2.2)), τ3.1.1.2.2)), τ3.1.2), τ3.2))) rfl (fun _ => ⟨rfl, rfl⟩) (Nat.le_of_ble_eq_true rfl) rfl dX12_unary_254 ?_
              refine aw_iload_n 0 dX12_unary_257 rfl rfl ?_
              exact aw_iret rfl dX12_unary_258 ⟨_, (((τ3.1.1.1, ((τ3.1.1.2.1.1, ((1 : Int32), τ3.1.1.2.1.2.2)), τ3.1.1.2.2)), τ3.1.2), τ3.2), rfl, rfl, h⟩
            · have h := h.2 c14
              refine aw_aload_n 1 dX12_unary_224 rfl rfl ?_
              refine aw_dup dX12_unary_225 rfl ?_
              refine aw_getf (v := .int τ3.1.1.2.1.1) fX12_151 0 rfl rfl dX12_unary_226 ?_
              refine aw_iconst (v := (1 : Int32)) dX12_unary_229 (by decide) ?_
              refine aw_iadd dX12_unary_230 ?_
              refine aw_topi (fun y9 ey9 => ?_)
              have h := h y9 ey9
              refine aw_putf fX12_151 0 (w' := (wX12 G (((τ3.1.1.1, ((y9, τ3.1.1.2.1.2), τ3.1.1.2.2)), τ3.1.2), τ3.2))) rfl (fun _ => ⟨rfl, rfl⟩) (Nat.le_of_ble_eq_true rfl) rfl dX12_unary_231 ?_
              refine aw_aload_n 1 dX12_unary_234 rfl rfl ?_
              refine aw_iload_n 2 dX12_unary_235 rfl rfl ?_
              refine aw_iconst (v := (1 : Int32)) dX12_unary_236 (by decide) ?_
              refine aw_iadd dX12_unary_237 ?_
              refine aw_callVT (mc1 := 0) (ms1 := 0) (mc := 0) (ms := 0) (st := []) (q := 0) (As := [.int (x1 + (1 : Int32))]) lX12_174 insX12_expr selX12_expr ⟨TX12, 50, rfl⟩ (by omega) (hrc 2 _ [(x1 + (1 : Int32))] _ h) (Nat.le_of_ble_eq_true rfl) rfl rfl rfl dX12_unary_238 rfl (fun _ _ hh => ?_)
              obtain ⟨r10, τ11, rfl, rfl, h⟩ := hh
              refine aw_stk (st' := [.int r10]) rfl ?_
              refine aw_istore_n (lv' := [(3, .int r10), (0, .ref 0), (1, .int x1), (2, .int x2)]) dX12_unary_241 rfl (by decide) rfl ?_
              refine aw_aload_n 1 dX12_unary_242 rfl rfl ?_
              refine aw_bipush (v := (41 : Int32)) dX12_unary_243 (by decide) ?_
              refine aw_callVT (mc1 := 0) (ms1 := 0) (mc := 0) (ms := 0) (st := []) (q := 0) (As := [.int (41 : Int32)]) lX12_168 insX12_take selX12_take ⟨TX12, 50, rfl⟩ (by omega) (kX12_take (d := 0) (by omega) h) (Nat.le_of_ble_eq_true rfl) rfl rfl rfl dX12_unary_245 rfl (fun _ _ hh => ?_)
              obtain ⟨r12, τ13, rfl, rfl, h⟩ := hh
              refine aw_stk (st' := [.int r12]) rfl ?_
              refine aw_pop dX12_unary_248 rfl ?_
              refine aw_goto 257 dX12_unary_249 (by decide) ?_
              refine aw_iload_n 0 dX12_unary_257 rfl rfl ?_
              exact aw_iret rfl dX12_unary_258 ⟨_, τ13, rfl, rfl, h⟩
          · have h := h.2 c29
            refine aw_aload_n 1 dX12_unary_138 rfl rfl ?_
            refine aw_dup dX12_unary_139 rfl ?_
            refine aw_getf (v := .int τ3.1.1.2.1.1) fX12_151 0 rfl rfl dX12_unary_140 ?_
            refine aw_iconst (v := (1 : Int32)) dX12_unary_143 (by decide) ?_
            refine aw_iadd dX12_unary_144 ?_
            refine aw_topi (fun y15 ey15 => ?_)
            have h := h y15 ey15
            refine aw_putf fX12_151 0 (w' := (wX12 G (((τ3.1.1.1, ((y15, τ3.1.1.2.1.2), τ3.1.1.2.2)), τ3.1.2), τ3.2))) rfl (fun _ => ⟨rfl, rfl⟩) (Nat.le_of_ble_eq_true rfl) rfl dX12_unary_145 ?_
            refine aw_aload_n 1 dX12_unary_148 rfl rfl ?_
            refine aw_getf (v := .ref 2) fX12_13 0 rfl rfl dX12_unary_149 ?_
            refine aw_aload_n 1 dX12_unary_152 rfl rfl ?_
            refine aw_getf (v := .int y15) fX12_151 0 rfl rfl dX12_unary_153 ?_
            refine aw_iald 2 (n := 3002) (f := τ3.1.1.1.2.1) rfl h.1 dX12_unary_156 ?_
            have h := h.2
            refine aw_bipush (v := (91 : Int32)) dX12_unary_157 (by decide) ?_
            refine aw_icmp_ne 257 dX12_unary_159 (by decide) (fun c28 => ?_) (fun c28 => ?_)
            · have h := h.1 c28
              refine aw_iload_n 0 dX12_unary_257 rfl rfl ?_
              exact aw_iret rfl dX12_unary_258 ⟨_, (((τ3.1.1.1, ((y15, τ3.1.1.2.1.2), τ3.1.1.2.2)), τ3.1.2), τ3.2), rfl, rfl, h⟩
            · have h := h.2 c28
              refine aw_aload_n 1 dX12_unary_162 rfl rfl ?_
              refine aw_getf (v := .ref 5) fX12_22 0 rfl rfl dX12_unary_163 ?_
              refine aw_iload_n 0 dX12_unary_166 rfl rfl ?_
              refine aw_sipush (v := (303 : Int32)) dX12_unary_167 (by decide) ?_
              refine aw_iast 5 (n := 9000) (f := τ3.1.1.2.2.1) (w' := fun y16 => (wX12 G (((τ3.1.1.1, ((y15, τ3.1.1.2.1.2), (y16, τ3.1.1.2.2.2))), τ3.1.2), τ3.2))) rfl h.1 (fun _ => rfl) dX12_unary_170 (fun y16 ey16 => ?_)
              have h := h.2 y16 ey16
              refine aw_aload_n 1 dX12_unary_171 rfl rfl ?_
              refine aw_iload_n 0 dX12_unary_172 rfl rfl ?_
              refine aw_aload_n 1 dX12_unary_173 rfl rfl ?_
              refine aw_bipush (v := (91 : Int32)) dX12_unary_174 (by decide) ?_
              refine aw_aload_n 1 dX12_unary_176 rfl rfl ?_
              refine aw_getf (v := .int y15) fX12_151 0 rfl rfl dX12_unary_177 ?_
              refine aw_callVT (mc1 := 0) (ms1 := 0) (mc := 0) (ms := 0) (st := [.int r2, .ref 0]) (q := 0) (As := [.int (91 : Int32), .int y15]) lX12_161 insX12_node selX12_node ⟨TX12, 50, rfl⟩ (by omega) (kX12_node (d := 0) (by omega) h) (Nat.le_of_ble_eq_true rfl) rfl rfl rfl dX12_unary_180 rfl (fun _ _ hh => ?_)
              obtain ⟨r17, τ18, rfl, rfl, h⟩ := hh
              refine aw_stk (st' := [.int r17, .int r2, .ref 0]) rfl ?_
              refine aw_callVT (mc1 := 0) (ms1 := 0) (mc := 0) (ms := 0) (st := []) (q := 0) (As := [.int r2, .int r17]) lX12_164 insX12_add selX12_add ⟨TX12, 50, rfl⟩ (by omega) (kX12_add (d := 0) (by omega) h) (Nat.le_of_ble_eq_true rfl) rfl rfl rfl dX12_unary_183 rfl (fun _ _ hh => ?_)
              obtain ⟨τ20, rfl, rfl, h⟩ := hh
              refine aw_stk (st' := []) rfl ?_
              refine aw_aload_n 1 dX12_unary_186 rfl rfl ?_
              refine aw_dup dX12_unary_187 rfl ?_
              refine aw_getf (v := .int τ20.1.1.2.1.1) fX12_151 0 rfl rfl dX12_unary_188 ?_
              refine aw_iconst (v := (1 : Int32)) dX12_unary_191 (by decide) ?_
              refine aw_iadd dX12_unary_192 ?_
              refine aw_topi (fun y21 ey21 => ?_)
              have h := h y21 ey21
              refine aw_putf fX12_151 0 (w' := (wX12 G (((τ20.1.1.1, ((y21, τ20.1.1.2.1.2), τ20.1.1.2.2)), τ20.1.2), τ20.2))) rfl (fun _ => ⟨rfl, rfl⟩) (Nat.le_of_ble_eq_true rfl) rfl dX12_unary_193 ?_
              refine aw_aload_n 1 dX12_unary_196 rfl rfl ?_
              refine aw_iload_n 0 dX12_unary_197 rfl rfl ?_
              refine aw_aload_n 1 dX12_unary_198 rfl rfl ?_
              refine aw_iload_n 2 dX12_unary_199 rfl rfl ?_
              refine aw_iconst (v := (1 : Int32)) dX12_unary_200 (by decide) ?_
              refine aw_iadd dX12_unary_201 ?_
              refine aw_callVT (mc1 := 0) (ms1 := 0) (mc := 0) (ms := 0) (st := [.int r2, .ref 0]) (q := 0) (As := [.int (x1 + (1 : Int32))]) lX12_174 insX12_expr selX12_expr ⟨TX12, 50, rfl⟩ (by omega) (hrc 2 _ [(x1 + (1 : Int32))] _ h) (Nat.le_of_ble_eq_true rfl) rfl rfl rfl dX12_unary_202 rfl (fun _ _ hh => ?_)
              obtain ⟨r22, τ23, rfl, rfl, h⟩ := hh
              refine aw_stk (st' := [.int r22, .int r2, .ref 0]) rfl ?_
              refine aw_callVT (mc1 := 0) (ms1 := 0) (mc := 0) (ms := 0) (st := []) (q := 0) (As := [.int r2, .int r22]) lX12_164 insX12_add selX12_add ⟨TX12, 50, rfl⟩ (by omega) (kX12_add (d := 0) (by omega) h) (Nat.le_of_ble_eq_true rfl) rfl rfl rfl dX12_unary_205 rfl (fun _ _ hh => ?_)
              obtain ⟨τ25, rfl, rfl, h⟩ := hh
              refine aw_stk (st' := []) rfl ?_
              refine aw_aload_n 1 dX12_unary_208 rfl rfl ?_
              refine aw_bipush (v := (93 : Int32)) dX12_unary_209 (by decide) ?_
              refine aw_callVT (mc1 := 0) (ms1 := 0) (mc := 0) (ms := 0) (st := []) (q := 0) (As := [.int (93 : Int32)]) lX12_168 insX12_take selX12_take ⟨TX12, 50, rfl⟩ (by omega) (kX12_take (d := 0) (by omega) h) (Nat.le_of_ble_eq_true rfl) rfl rfl rfl dX12_unary_211 rfl (fun _ _ hh => ?_)
              obtain ⟨r26, τ27, rfl, rfl, h⟩ := hh
              refine aw_stk (st' := [.int r26]) rfl ?_
              refine aw_pop dX12_unary_214 rfl ?_
              refine aw_goto 257 dX12_unary_215 (by decide) ?_
              refine aw_iload_n 0 dX12_unary_257 rfl rfl ?_
              exact aw_iret rfl dX12_unary_258 ⟨_, τ27, rfl, rfl, h⟩
        · have h := h.2 c31
          refine aw_aload_n 1 dX12_unary_120 rfl rfl ?_
          refine aw_dup dX12_unary_121 rfl ?_
          refine aw_getf (v := .int τ3.1.1.2.1.1) fX12_151 0 rfl rfl dX12_unary_122 ?_
          refine aw_iconst (v := (1 : Int32)) dX12_unary_125 (by decide) ?_
          refine aw_iadd dX12_unary_126 ?_
          refine aw_topi (fun y30 ey30 => ?_)
          have h := h y30 ey30
          refine aw_putf fX12_151 0 (w' := (wX12 G (((τ3.1.1.1, ((y30, τ3.1.1.2.1.2), τ3.1.1.2.2)), τ3.1.2), τ3.2))) rfl (fun _ => ⟨rfl, rfl⟩) (Nat.le_of_ble_eq_true rfl) rfl dX12_unary_127 ?_
          refine aw_goto 257 dX12_unary_130 (by decide) ?_
          refine aw_iload_n 0 dX12_unary_257 rfl rfl ?_
          exact aw_iret rfl dX12_unary_258 ⟨_, (((τ3.1.1.1, ((y30, τ3.1.1.2.1.2), τ3.1.1.2.2)), τ3.1.2), τ3.2), rfl, rfl, h⟩
      · have h := h.2 c32
        refine aw_lvsub (lv' := [(0, .ref 0), (1, .int x1), (3, .int r2)]) [1, 2, 0] rfl ?_
        exact aw_X12_unary_90 hd hdg hrc  h
def wp_X12_unary_19 (rc : Nat → WSX12 → List Int32 → (Int32 → WSX12 → Prop) → Prop)  (post : Int32 → WSX12 → Prop) (σ : WSX12) (x1 : Int32) (s0 : Int32) : Prop :=
  (aw_bz s0 ∧ ((s0 = 0 → (vp_in σ.1.1.2.1.1 3002 ∧ (∀ y1 : Int32, y1 = (σ.1.1.1.2.1 (σ.1.1.2.1.1).toNatClampNeg) → ((¬ y1 = (45 : Int32) → wp_X12_unary_64 rc  post (((σ.1.1.1, ((σ.1.1.2.1.1, (s0, σ.1.1.2.1.2.2)), σ.1.1.2.2)), σ.1.2), σ.2) x1 y1 y1) ∧ (y1 = (45 : Int32) → wp_X12_unary_64 rc  post (((σ.1.1.1, ((σ.1.1.2.1.1, (s0, σ.1.1.2.1.2.2)), σ.1.1.2.2)), σ.1.2), σ.2) x1 y1 (304 : Int32)))))) ∧ (¬ s0 = 0 → wp_X12_node (((σ.1.1.1, ((σ.1.1.2.1.1, (s0, σ.1.1.2.1.2.2)), σ.1.1.2.2)), σ.1.2), σ.2) (11 : Int32) σ.1.1.2.1.1 (fun r36 τ37 => post r36 τ37))))
theorem aw_X12_unary_19 {G : aw_G} {d : Nat} (hd : 1 ≤ d) {dg : Nat} (hdg : dg + 1 ≤ d) {rc : Nat → WSX12 → List Int32 → (Int32 → WSX12 → Prop) → Prop} (hrc : ∀ (k : Nat) (σ : WSX12) (xs : List Int32) (po : Int32 → WSX12 → Prop), rc k σ xs po → AC G (Mg_st k) dg 0 0 25 (.ref 0 :: xs.map .int) (wX12 G σ) (aw_pi (wX12 G) po)) {post : Int32 → WSX12 → Prop}  {σ : WSX12} {x1 : Int32} {s0 : Int32} (h : wp_X12_unary_19 rc  post σ x1 s0) : AW G MX12_unary d 0 0 25 (aw_pi (wX12 G) post) 19 [(0, .ref 0), (1, .int x1)] [.int s0, .ref 0] (wX12 G σ) := by
  unfold wp_X12_unary_19 at h
  refine aw_putf fX12_154 0 (w' := (wX12 G (((σ.1.1.1, ((σ.1.1.2.1.1, (s0, σ.1.1.2.1.2.2)), σ.1.1.2.2)), σ.1.2), σ.2))) rfl (fun _ => h.1) (Nat.le_of_ble_eq_true rfl) rfl dX12_unary_19 ?_
  have h := h.2
  refine aw_aload_n 0 dX12_unary_22 rfl rfl ?_
  refine aw_getf (v := .int s0) fX12_154 0 rfl rfl dX12_unary_23 ?_
  refine aw_if_eq 40 dX12_unary_26 (by decide) (fun c38 => ?_) (fun c38 => ?_)
  · have h := h.1 c38
    refine aw_aload_n 0 dX12_unary_40 rfl rfl ?_
    refine aw_getf (v := .ref 2) fX12_13 0 rfl rfl dX12_unary_41 ?_
    refine aw_aload_n 0 dX12_unary_44 rfl rfl ?_
    refine aw_getf (v := .int σ.1.1.2.1.1) fX12_151 0 rfl rfl dX12_unary_45 ?_
    refine aw_iald 2 (n := 3002) (f := σ.1.1.1.2.1) rfl h.1 dX12_unary_48 ?_
    have h := h.2
    refine aw_topi (fun y1 ey1 => ?_)
    have h := h y1 ey1
    refine aw_istore_n (lv' := [(2, .int y1), (0, .ref 0), (1, .int x1)]) dX12_unary_49 rfl (by decide) rfl ?_
    refine aw_aload_n 1 dX12_unary_50 rfl rfl ?_
    refine aw_iload_n 0 dX12_unary_51 rfl rfl ?_
    refine aw_bipush (v := (45 : Int32)) dX12_unary_52 (by decide) ?_
    refine aw_icmp_ne 63 dX12_unary_54 (by decide) (fun c35 => ?_) (fun c35 => ?_)
    · have h := h.1 c35
      refine aw_iload_n 0 dX12_unary_63 rfl rfl ?_
      refine aw_lvsub (lv' := [(0, .ref 0), (1, .int x1), (2, .int y1)]) [1, 2, 0] rfl ?_
      exact aw_X12_unary_64 hd hdg hrc  h
    · have h := h.2 c35
      refine aw_sipush (v := (304 : Int32)) dX12_unary_57 (by decide) ?_
      refine aw_goto 64 dX12_unary_60 (by decide) ?_
      refine aw_lvsub (lv' := [(0, .ref 0), (1, .int x1), (2, .int y1)]) [1, 2, 0] rfl ?_
      exact aw_X12_unary_64 hd hdg hrc  h
  · have h := h.2 c38
    refine aw_aload_n 0 dX12_unary_29 rfl rfl ?_
    refine aw_bipush (v := (11 : Int32)) dX12_unary_30 (by decide) ?_
    refine aw_aload_n 0 dX12_unary_32 rfl rfl ?_
    refine aw_getf (v := .int σ.1.1.2.1.1) fX12_151 0 rfl rfl dX12_unary_33 ?_
    refine aw_callVT (mc1 := 0) (ms1 := 0) (mc := 0) (ms := 0) (st := []) (q := 0) (As := [.int (11 : Int32), .int σ.1.1.2.1.1]) lX12_161 insX12_node selX12_node ⟨TX12, 50, rfl⟩ (by omega) (kX12_node (d := 0) (by omega) h) (Nat.le_of_ble_eq_true rfl) rfl rfl rfl dX12_unary_36 rfl (fun _ _ hh => ?_)
    obtain ⟨r36, τ37, rfl, rfl, h⟩ := hh
    refine aw_stk (st' := [.int r36]) rfl ?_
    exact aw_iret rfl dX12_unary_39 ⟨_, τ37, rfl, rfl, h⟩
def wp_X12_unary_14 (rc : Nat → WSX12 → List Int32 → (Int32 → WSX12 → Prop) → Prop)  (post : Int32 → WSX12 → Prop) (σ : WSX12) (x1 : Int32) : Prop :=
  wp_X12_unary_19 rc  post σ x1 (1 : Int32)
theorem aw_X12_unary_14 {G : aw_G} {d : Nat} (hd : 1 ≤ d) {dg : Nat} (hdg : dg + 1 ≤ d) {rc : Nat → WSX12 → List Int32 → (Int32 → WSX12 → Prop) → Prop} (hrc : ∀ (k : Nat) (σ : WSX12) (xs : List Int32) (po : Int32 → WSX12 → Prop), rc k σ xs po → AC G (Mg_st k) dg 0 0 25 (.ref 0 :: xs.map .int) (wX12 G σ) (aw_pi (wX12 G) po)) {post : Int32 → WSX12 → Prop}  {σ : WSX12} {x1 : Int32} (h : wp_X12_unary_14 rc  post σ x1) : AW G MX12_unary d 0 0 25 (aw_pi (wX12 G) post) 14 [(0, .ref 0), (1, .int x1)] [.ref 0] (wX12 G σ) := by
  unfold wp_X12_unary_14 at h
  refine aw_iconst (v := (1 : Int32)) dX12_unary_14 (by decide) ?_
  refine aw_goto 19 dX12_unary_15 (by decide) ?_
  exact aw_X12_unary_19 hd hdg hrc  h
def wp_X12_unary (rc : Nat → WSX12 → List Int32 → (Int32 → WSX12 → Prop) → Prop) (σ : WSX12) (a1 : Int32) (post : Int32 → WSX12 → Prop) : Prop :=
  ((¬ σ.1.1.2.1.2.1 = 0 → wp_X12_unary_14 rc  post σ a1) ∧ (σ.1.1.2.1.2.1 = 0 → ((a1 ≤ (30 : Int32) → wp_X12_unary_19 rc  post σ a1 (0 : Int32)) ∧ (¬ a1 ≤ (30 : Int32) → wp_X12_unary_14 rc  post σ a1))))
theorem kX12_unary {G : aw_G} {d : Nat} (hd : 1 ≤ d) {dg : Nat} (hdg : dg + 1 ≤ d) {rc : Nat → WSX12 → List Int32 → (Int32 → WSX12 → Prop) → Prop} (hrc : ∀ (k : Nat) (σ : WSX12) (xs : List Int32) (po : Int32 → WSX12 → Prop), rc k σ xs po → AC G (Mg_st k) dg 0 0 25 (.ref 0 :: xs.map .int) (wX12 G σ) (aw_pi (wX12 G) po)) {σ : WSX12} {a1 : Int32} {post : Int32 → WSX12 → Prop} (h : wp_X12_unary rc σ a1 post) : AC G MX12_unary d 0 0 25 [.ref 0, .int a1] (wX12 G σ) (aw_pi (wX12 G) post) := by
  refine AC.of (lv := [(0, .ref 0), (1, .int a1)]) (by decide) (Nat.le_of_ble_eq_true rfl) rfl ?_
  unfold wp_X12_unary at h
  refine aw_aload_n 0 dX12_unary_0 rfl rfl ?_
  refine aw_aload_n 0 dX12_unary_1 rfl rfl ?_
  refine aw_getf (v := .int σ.1.1.2.1.2.1) fX12_154 0 rfl rfl dX12_unary_2 ?_
  refine aw_if_ne 14 dX12_unary_5 (by decide) (fun c40 => ?_) (fun c40 => ?_)
  · have h := h.1 c40
    exact aw_X12_unary_14 hd hdg hrc  h
  · have h := h.2 c40
    refine aw_iload_n 1 dX12_unary_8 rfl rfl ?_
    refine aw_bipush (v := (30 : Int32)) dX12_unary_9 (by decide) ?_
    refine aw_icmp_le 18 dX12_unary_11 (by decide) (fun c39 => ?_) (fun c39 => ?_)
    · have h := h.1 c39
      refine aw_iconst (v := (0 : Int32)) dX12_unary_18 (by decide) ?_
      exact aw_X12_unary_19 hd hdg hrc  h
    · have h := h.2 c39
      exact aw_X12_unary_14 hd hdg hrc  h
def wg_st : Nat → Nat → WSX12 → List Int32 → (Int32 → WSX12 → Prop) → Prop
  | 0, _, _, _, _ => False
  | n + 1, k, σ, xs, po => match k, xs with
    | 0, [a0] => wp_X12_statement (wg_st n) σ a0 po
    | 1, [a0] => wp_X12_block (wg_st n) σ a0 po
    | 2, [a0] => wp_X12_expr (wg_st n) σ a0 po
    | 3, [a0, a1] => wp_X12_level (wg_st n) σ a0 a1 po
    | 4, [a0] => wp_X12_unary (wg_st n) σ a0 po
    | _, _ => False
theorem kg_st {G : aw_G} : ∀ (n k : Nat) (σ : WSX12) (xs : List Int32) (po : Int32 → WSX12 → Prop), wg_st n k σ xs po → AC G (Mg_st k) (1 + n) 0 0 25 (.ref 0 :: xs.map .int) (wX12 G σ) (aw_pi (wX12 G) po) := by
  intro n
  induction n with
  | zero => intro k σ xs po h; exact h.elim
  | succ n ih =>
    intro k σ xs po h
    unfold wg_st at h
    split at h
    · exact kX12_statement (d := 1 + (n + 1)) (by omega) (dg := 1 + n) (by omega) ih h
    · exact kX12_block (d := 1 + (n + 1)) (by omega) (dg := 1 + n) (by omega) ih h
    · exact kX12_expr (d := 1 + (n + 1)) (by omega) (dg := 1 + n) (by omega) ih h
    · exact kX12_level (d := 1 + (n + 1)) (by omega) (dg := 1 + n) (by omega) ih h
    · exact kX12_unary (d := 1 + (n + 1)) (by omega) (dg := 1 + n) (by omega) ih h
    · exact h.elim
def wb_X12_program_193  (post : Int32 → WSX12 → Prop) (rec_193 : WSX12 × Int32 → Prop) (σ : WSX12) (x1 : Int32) : Prop :=
  ((¬ σ.1.1.2.1.2.1 = 0 → post x1 σ) ∧ (σ.1.1.2.1.2.1 = 0 → (vp_in σ.1.1.2.1.1 3002 ∧ (((σ.1.1.1.2.1 (σ.1.1.2.1.1).toNatClampNeg) = (10 : Int32) → post x1 σ) ∧ (¬ (σ.1.1.1.2.1 (σ.1.1.2.1.1).toNatClampNeg) = (10 : Int32) → (∃ n5, n5 ≤ 400 ∧ wg_st n5 0 σ [(0 : Int32)] (fun r3 τ4 => wp_X12_add τ4 x1 r3 (fun τ7 => rec_193 (τ7, x1)))))))))
def wp_X12_program_193  (post : Int32 → WSX12 → Prop) (n : Nat) (σ : WSX12) (x1 : Int32) : Prop := aw_loop (fun r (a : WSX12 × Int32) => wb_X12_program_193  post r a.1 a.2) n (σ, x1)
theorem aw_X12_program_193 {G : aw_G} {d : Nat} (hd : 402 ≤ d) {post : Int32 → WSX12 → Prop}  : ∀ (n : Nat) (σ : WSX12) (x1 : Int32), wp_X12_program_193  post n σ x1 → AW G MX12_program d 0 0 25 (aw_pi (wX12 G) post) 193 [(0, .ref 0), (1, .int x1)] [] (wX12 G σ) := by
  intro n
  induction n with
  | zero => intro σ x1 h; exact h.elim
  | succ n ih =>
    intro σ x1 h
    have hrec_193 : ∀ a : WSX12 × Int32, aw_loop (fun r (a : WSX12 × Int32) => wb_X12_program_193  post r a.1 a.2) n a → AW G MX12_program d 0 0 25 (aw_pi (wX12 G) post) 193 [(0, .ref 0), (1, .int a.2)] [] (wX12 G a.1) := fun a h => ih a.1 a.2 h
    have h : wb_X12_program_193  post (aw_loop (fun r (a : WSX12 × Int32) => wb_X12_program_193  post r a.1 a.2) n) σ x1 := h
    unfold wb_X12_program_193 at h
    refine aw_aload_n 0 dX12_program_193 rfl rfl ?_
    refine aw_getf (v := .int σ.1.1.2.1.2.1) fX12_154 0 rfl rfl dX12_program_194 ?_
    refine aw_if_ne 227 dX12_program_197 (by decide) (fun c9 => ?_) (fun c9 => ?_)
    · have h := h.1 c9
      refine aw_iload_n 1 dX12_program_227 rfl rfl ?_
      exact aw_iret rfl dX12_program_228 ⟨_, σ, rfl, rfl, h⟩
    · have h := h.2 c9
      refine aw_aload_n 0 dX12_program_200 rfl rfl ?_
      refine aw_getf (v := .ref 2) fX12_13 0 rfl rfl dX12_program_201 ?_
      refine aw_aload_n 0 dX12_program_204 rfl rfl ?_
      refine aw_getf (v := .int σ.1.1.2.1.1) fX12_151 0 rfl rfl dX12_program_205 ?_
      refine aw_iald 2 (n := 3002) (f := σ.1.1.1.2.1) rfl h.1 dX12_program_208 ?_
      have h := h.2
      refine aw_bipush (v := (10 : Int32)) dX12_program_209 (by decide) ?_
      refine aw_icmp_eq 227 dX12_program_211 (by decide) (fun c8 => ?_) (fun c8 => ?_)
      · have h := h.1 c8
        refine aw_iload_n 1 dX12_program_227 rfl rfl ?_
        exact aw_iret rfl dX12_program_228 ⟨_, σ, rfl, rfl, h⟩
      · have h := h.2 c8
        refine aw_aload_n 0 dX12_program_214 rfl rfl ?_
        refine aw_iload_n 1 dX12_program_215 rfl rfl ?_
        refine aw_aload_n 0 dX12_program_216 rfl rfl ?_
        refine aw_iconst (v := (0 : Int32)) dX12_program_217 (by decide) ?_
        obtain ⟨n5, hn5, h⟩ := h
        refine aw_callVT (mc1 := 0) (ms1 := 0) (mc := 0) (ms := 0) (st := [.int x1, .ref 0]) (q := 0) (As := [.int (0 : Int32)]) lX12_171 insX12_statement selX12_statement ⟨TX12, 50, rfl⟩ (by omega) (kg_st n5 0 _ [(0 : Int32)] _ h) (Nat.le_of_ble_eq_true rfl) rfl rfl rfl dX12_program_218 rfl (fun _ _ hh => ?_)
        obtain ⟨r3, τ4, rfl, rfl, h⟩ := hh
        refine aw_stk (st' := [.int r3, .int x1, .ref 0]) rfl ?_
        refine aw_callVT (mc1 := 0) (ms1 := 0) (mc := 0) (ms := 0) (st := []) (q := 0) (As := [.int x1, .int r3]) lX12_164 insX12_add selX12_add ⟨TX12, 50, rfl⟩ (by omega) (kX12_add (d := 0) (by omega) h) (Nat.le_of_ble_eq_true rfl) rfl rfl rfl dX12_program_221 rfl (fun _ _ hh => ?_)
        obtain ⟨τ7, rfl, rfl, h⟩ := hh
        refine aw_stk (st' := []) rfl ?_
        refine aw_goto 193 dX12_program_224 (by decide) ?_
        exact hrec_193 (τ7, x1) h
def wp_X12_program_177 (rec_9 : WSX12 × Int32 → Prop) (post : Int32 → WSX12 → Prop) (σ : WSX12) (x1 : Int32) (x2 : Int32) : Prop :=
  wp_X12_take σ (59 : Int32) (fun r20 τ21 => wp_X12_add τ21 x1 x2 (fun τ23 => rec_9 (τ23, x1)))
theorem aw_X12_program_177 {G : aw_G} {d : Nat} (hd : 402 ≤ d) {rec_9 : WSX12 × Int32 → Prop} {post : Int32 → WSX12 → Prop} (hrec_9 : ∀ a : WSX12 × Int32, rec_9 a → AW G MX12_program d 0 0 25 (aw_pi (wX12 G) post) 9 [(0, .ref 0), (1, .int a.2)] [] (wX12 G a.1)) {σ : WSX12} {x1 : Int32} {x2 : Int32} (h : wp_X12_program_177 rec_9 post σ x1 x2) : AW G MX12_program d 0 0 25 (aw_pi (wX12 G) post) 177 [(0, .ref 0), (1, .int x1), (2, .int x2)] [] (wX12 G σ) := by
  unfold wp_X12_program_177 at h
  refine aw_aload_n 0 dX12_program_177 rfl rfl ?_
  refine aw_bipush (v := (59 : Int32)) dX12_program_178 (by decide) ?_
  refine aw_callVT (mc1 := 0) (ms1 := 0) (mc := 0) (ms := 0) (st := []) (q := 0) (As := [.int (59 : Int32)]) lX12_168 insX12_take selX12_take ⟨TX12, 50, rfl⟩ (by omega) (kX12_take (d := 0) (by omega) h) (Nat.le_of_ble_eq_true rfl) rfl rfl rfl dX12_program_180 rfl (fun _ _ hh => ?_)
  obtain ⟨r20, τ21, rfl, rfl, h⟩ := hh
  refine aw_stk (st' := [.int r20]) rfl ?_
  refine aw_pop dX12_program_183 rfl ?_
  refine aw_aload_n 0 dX12_program_184 rfl rfl ?_
  refine aw_iload_n 1 dX12_program_185 rfl rfl ?_
  refine aw_iload_n 2 dX12_program_186 rfl rfl ?_
  refine aw_callVT (mc1 := 0) (ms1 := 0) (mc := 0) (ms := 0) (st := []) (q := 0) (As := [.int x1, .int x2]) lX12_164 insX12_add selX12_add ⟨TX12, 50, rfl⟩ (by omega) (kX12_add (d := 0) (by omega) h) (Nat.le_of_ble_eq_true rfl) rfl rfl rfl dX12_program_187 rfl (fun _ _ hh => ?_)
  obtain ⟨τ23, rfl, rfl, h⟩ := hh
  refine aw_stk (st' := []) rfl ?_
  refine aw_goto 9 dX12_program_190 (by decide) ?_
  refine aw_lvsub (lv' := [(0, .ref 0), (1, .int x1)]) [0, 1] rfl ?_
  exact hrec_9 (τ23, x1) h
def wp_X12_program_107 (rec_9 : WSX12 × Int32 → Prop) (post : Int32 → WSX12 → Prop) (σ : WSX12) (x1 : Int32) (x2 : Int32) : Prop :=
  wp_X12_take σ (1 : Int32) (fun r14 τ15 => wp_X12_node τ15 (1 : Int32) r14 (fun r16 τ17 => wp_X12_add τ17 x2 r16 (fun τ19 => ((¬ τ19.1.1.2.1.2.1 = 0 → wp_X12_program_177 rec_9 post τ19 x1 x2) ∧ (τ19.1.1.2.1.2.1 = 0 → (vp_in τ19.1.1.2.1.1 3002 ∧ ((¬ (τ19.1.1.1.2.1 (τ19.1.1.2.1.1).toNatClampNeg) = (91 : Int32) → wp_X12_program_177 rec_9 post τ19 x1 x2) ∧ ((τ19.1.1.1.2.1 (τ19.1.1.2.1.1).toNatClampNeg) = (91 : Int32) → (∀ y24 : Int32, y24 = (τ19.1.1.2.1.1 + (1 : Int32)) → wp_X12_take (((τ19.1.1.1, ((y24, τ19.1.1.2.1.2), τ19.1.1.2.2)), τ19.1.2), τ19.2) (2 : Int32) (fun r25 τ26 => wp_X12_node τ26 (2 : Int32) r25 (fun r27 τ28 => wp_X12_add τ28 r16 r27 (fun τ30 => wp_X12_take τ30 (93 : Int32) (fun r31 τ32 => wp_X12_program_177 rec_9 post τ32 x1 x2)))))))))))))
theorem aw_X12_program_107 {G : aw_G} {d : Nat} (hd : 402 ≤ d) {rec_9 : WSX12 × Int32 → Prop} {post : Int32 → WSX12 → Prop} (hrec_9 : ∀ a : WSX12 × Int32, rec_9 a → AW G MX12_program d 0 0 25 (aw_pi (wX12 G) post) 9 [(0, .ref 0), (1, .int a.2)] [] (wX12 G a.1)) {σ : WSX12} {x1 : Int32} {x2 : Int32} (h : wp_X12_program_107 rec_9 post σ x1 x2) : AW G MX12_program d 0 0 25 (aw_pi (wX12 G) post) 107 [(0, .ref 0), (1, .int x1), (2, .int x2)] [] (wX12 G σ) := by
  unfold wp_X12_program_107 at h
  refine aw_aload_n 0 dX12_program_107 rfl rfl ?_
  refine aw_iconst (v := (1 : Int32)) dX12_program_108 (by decide) ?_
  refine aw_aload_n 0 dX12_program_109 rfl rfl ?_
  refine aw_iconst (v := (1 : Int32)) dX12_program_110 (by decide) ?_
  refine aw_callVT (mc1 := 0) (ms1 := 0) (mc := 0) (ms := 0) (st := [.int (1 : Int32), .ref 0]) (q := 0) (As := [.int (1 : Int32)]) lX12_168 insX12_take selX12_take ⟨TX12, 50, rfl⟩ (by omega) (kX12_take (d := 0) (by omega) h) (Nat.le_of_ble_eq_true rfl) rfl rfl rfl dX12_program_111 rfl (fun _ _ hh => ?_)
  obtain ⟨r14, τ15, rfl, rfl, h⟩ := hh
  refine aw_stk (st' := [.int r14, .int (1 : Int32), .ref 0]) rfl ?_
  refine aw_callVT (mc1 := 0) (ms1 := 0) (mc := 0) (ms := 0) (st := []) (q := 0) (As := [.int (1 : Int32), .int r14]) lX12_161 insX12_node selX12_node ⟨TX12, 50, rfl⟩ (by omega) (kX12_node (d := 0) (by omega) h) (Nat.le_of_ble_eq_true rfl) rfl rfl rfl dX12_program_114 rfl (fun _ _ hh => ?_)
  obtain ⟨r16, τ17, rfl, rfl, h⟩ := hh
  refine aw_stk (st' := [.int r16]) rfl ?_
  refine aw_istore_n (lv' := [(3, .int r16), (0, .ref 0), (1, .int x1), (2, .int x2)]) dX12_program_117 rfl (by decide) rfl ?_
  refine aw_aload_n 1 dX12_program_118 rfl rfl ?_
  refine aw_iload_n 3 dX12_program_119 rfl rfl ?_
  refine aw_iload_n 0 dX12_program_120 rfl rfl ?_
  refine aw_callVT (mc1 := 0) (ms1 := 0) (mc := 0) (ms := 0) (st := []) (q := 0) (As := [.int x2, .int r16]) lX12_164 insX12_add selX12_add ⟨TX12, 50, rfl⟩ (by omega) (kX12_add (d := 0) (by omega) h) (Nat.le_of_ble_eq_true rfl) rfl rfl rfl dX12_program_121 rfl (fun _ _ hh => ?_)
  obtain ⟨τ19, rfl, rfl, h⟩ := hh
  refine aw_stk (st' := []) rfl ?_
  refine aw_aload_n 1 dX12_program_124 rfl rfl ?_
  refine aw_getf (v := .int τ19.1.1.2.1.2.1) fX12_154 0 rfl rfl dX12_program_125 ?_
  refine aw_if_ne 177 dX12_program_128 (by decide) (fun c34 => ?_) (fun c34 => ?_)
  · have h := h.1 c34
    refine aw_lvsub (lv' := [(0, .ref 0), (1, .int x1), (2, .int x2)]) [1, 2, 3] rfl ?_
    exact aw_X12_program_177 hd hrec_9 h
  · have h := h.2 c34
    refine aw_aload_n 1 dX12_program_131 rfl rfl ?_
    refine aw_getf (v := .ref 2) fX12_13 0 rfl rfl dX12_program_132 ?_
    refine aw_aload_n 1 dX12_program_135 rfl rfl ?_
    refine aw_getf (v := .int τ19.1.1.2.1.1) fX12_151 0 rfl rfl dX12_program_136 ?_
    refine aw_iald 2 (n := 3002) (f := τ19.1.1.1.2.1) rfl h.1 dX12_program_139 ?_
    have h := h.2
    refine aw_bipush (v := (91 : Int32)) dX12_program_140 (by decide) ?_
    refine aw_icmp_ne 177 dX12_program_142 (by decide) (fun c33 => ?_) (fun c33 => ?_)
    · have h := h.1 c33
      refine aw_lvsub (lv' := [(0, .ref 0), (1, .int x1), (2, .int x2)]) [1, 2, 3] rfl ?_
      exact aw_X12_program_177 hd hrec_9 h
    · have h := h.2 c33
      refine aw_aload_n 1 dX12_program_145 rfl rfl ?_
      refine aw_dup dX12_program_146 rfl ?_
      refine aw_getf (v := .int τ19.1.1.2.1.1) fX12_151 0 rfl rfl dX12_program_147 ?_
      refine aw_iconst (v := (1 : Int32)) dX12_program_150 (by decide) ?_
      refine aw_iadd dX12_program_151 ?_
      refine aw_topi (fun y24 ey24 => ?_)
      have h := h y24 ey24
      refine aw_putf fX12_151 0 (w' := (wX12 G (((τ19.1.1.1, ((y24, τ19.1.1.2.1.2), τ19.1.1.2.2)), τ19.1.2), τ19.2))) rfl (fun _ => ⟨rfl, rfl⟩) (Nat.le_of_ble_eq_true rfl) rfl dX12_program_152 ?_
      refine aw_aload_n 1 dX12_program_155 rfl rfl ?_
      refine aw_iload_n 0 dX12_program_156 rfl rfl ?_
      refine aw_aload_n 1 dX12_program_157 rfl rfl ?_
      refine aw_iconst (v := (2 : Int32)) dX12_program_158 (by decide) ?_
      refine aw_aload_n 1 dX12_program_159 rfl rfl ?_
      refine aw_iconst (v := (2 : Int32)) dX12_program_160 (by decide) ?_
      refine aw_callVT (mc1 := 0) (ms1 := 0) (mc := 0) (ms := 0) (st := [.int (2 : Int32), .ref 0, .int r16, .ref 0]) (q := 0) (As := [.int (2 : Int32)]) lX12_168 insX12_take selX12_take ⟨TX12, 50, rfl⟩ (by omega) (kX12_take (d := 0) (by omega) h) (Nat.le_of_ble_eq_true rfl) rfl rfl rfl dX12_program_161 rfl (fun _ _ hh => ?_)
      obtain ⟨r25, τ26, rfl, rfl, h⟩ := hh
      refine aw_stk (st' := [.int r25, .int (2 : Int32), .ref 0, .int r16, .ref 0]) rfl ?_
      refine aw_callVT (mc1 := 0) (ms1 := 0) (mc := 0) (ms := 0) (st := [.int r16, .ref 0]) (q := 0) (As := [.int (2 : Int32), .int r25]) lX12_161 insX12_node selX12_node ⟨TX12, 50, rfl⟩ (by omega) (kX12_node (d := 0) (by omega) h) (Nat.le_of_ble_eq_true rfl) rfl rfl rfl dX12_program_164 rfl (fun _ _ hh => ?_)
      obtain ⟨r27, τ28, rfl, rfl, h⟩ := hh
      refine aw_stk (st' := [.int r27, .int r16, .ref 0]) rfl ?_
      refine aw_callVT (mc1 := 0) (ms1 := 0) (mc := 0) (ms := 0) (st := []) (q := 0) (As := [.int r16, .int r27]) lX12_164 insX12_add selX12_add ⟨TX12, 50, rfl⟩ (by omega) (kX12_add (d := 0) (by omega) h) (Nat.le_of_ble_eq_true rfl) rfl rfl rfl dX12_program_167 rfl (fun _ _ hh => ?_)
      obtain ⟨τ30, rfl, rfl, h⟩ := hh
      refine aw_stk (st' := []) rfl ?_
      refine aw_aload_n 1 dX12_program_170 rfl rfl ?_
      refine aw_bipush (v := (93 : Int32)) dX12_program_171 (by decide) ?_
      refine aw_callVT (mc1 := 0) (ms1 := 0) (mc := 0) (ms := 0) (st := []) (q := 0) (As := [.int (93 : Int32)]) lX12_168 insX12_take selX12_take ⟨TX12, 50, rfl⟩ (by omega) (kX12_take (d := 0) (by omega) h) (Nat.le_of_ble_eq_true rfl) rfl rfl rfl dX12_program_173 rfl (fun _ _ hh => ?_)
      obtain ⟨r31, τ32, rfl, rfl, h⟩ := hh
      refine aw_stk (st' := [.int r31]) rfl ?_
      refine aw_pop dX12_program_176 rfl ?_
      refine aw_lvsub (lv' := [(0, .ref 0), (1, .int x1), (2, .int x2)]) [1, 2, 3] rfl ?_
      exact aw_X12_program_177 hd hrec_9 h
def wp_X12_program_42 (rec_9 : WSX12 × Int32 → Prop) (post : Int32 → WSX12 → Prop) (σ : WSX12) (x1 : Int32) : Prop :=
  (vp_in σ.1.1.2.1.1 3002 ∧ wp_X12_node σ (σ.1.1.1.2.1 (σ.1.1.2.1.1).toNatClampNeg) σ.1.1.2.1.1 (fun r11 τ12 => (∀ y13 : Int32, y13 = (τ12.1.1.2.1.1 + (1 : Int32)) → (vp_in y13 3002 ∧ ((¬ (τ12.1.1.1.2.1 (y13).toNatClampNeg) = (5 : Int32) → wp_X12_program_107 rec_9 post (((τ12.1.1.1, ((y13, τ12.1.1.2.1.2), τ12.1.1.2.2)), τ12.1.2), τ12.2) x1 r11) ∧ ((τ12.1.1.1.2.1 (y13).toNatClampNeg) = (5 : Int32) → wp_X12_node (((τ12.1.1.1, ((y13, τ12.1.1.2.1.2), τ12.1.1.2.2)), τ12.1.2), τ12.2) (5 : Int32) y13 (fun r35 τ36 => wp_X12_add τ36 r11 r35 (fun τ38 => (∀ y39 : Int32, y39 = (τ38.1.1.2.1.1 + (1 : Int32)) → wp_X12_program_107 rec_9 post (((τ38.1.1.1, ((y39, τ38.1.1.2.1.2), τ38.1.1.2.2)), τ38.1.2), τ38.2) x1 r11)))))))))
theorem aw_X12_program_42 {G : aw_G} {d : Nat} (hd : 402 ≤ d) {rec_9 : WSX12 × Int32 → Prop} {post : Int32 → WSX12 → Prop} (hrec_9 : ∀ a : WSX12 × Int32, rec_9 a → AW G MX12_program d 0 0 25 (aw_pi (wX12 G) post) 9 [(0, .ref 0), (1, .int a.2)] [] (wX12 G a.1)) {σ : WSX12} {x1 : Int32} (h : wp_X12_program_42 rec_9 post σ x1) : AW G MX12_program d 0 0 25 (aw_pi (wX12 G) post) 42 [(0, .ref 0), (1, .int x1)] [] (wX12 G σ) := by
  unfold wp_X12_program_42 at h
  refine aw_aload_n 0 dX12_program_42 rfl rfl ?_
  refine aw_aload_n 0 dX12_program_43 rfl rfl ?_
  refine aw_getf (v := .ref 2) fX12_13 0 rfl rfl dX12_program_44 ?_
  refine aw_aload_n 0 dX12_program_47 rfl rfl ?_
  refine aw_getf (v := .int σ.1.1.2.1.1) fX12_151 0 rfl rfl dX12_program_48 ?_
  refine aw_iald 2 (n := 3002) (f := σ.1.1.1.2.1) rfl h.1 dX12_program_51 ?_
  have h := h.2
  refine aw_aload_n 0 dX12_program_52 rfl rfl ?_
  refine aw_getf (v := .int σ.1.1.2.1.1) fX12_151 0 rfl rfl dX12_program_53 ?_
  refine aw_callVT (mc1 := 0) (ms1 := 0) (mc := 0) (ms := 0) (st := []) (q := 0) (As := [.int (σ.1.1.1.2.1 (σ.1.1.2.1.1).toNatClampNeg), .int σ.1.1.2.1.1]) lX12_161 insX12_node selX12_node ⟨TX12, 50, rfl⟩ (by omega) (kX12_node (d := 0) (by omega) h) (Nat.le_of_ble_eq_true rfl) rfl rfl rfl dX12_program_56 rfl (fun _ _ hh => ?_)
  obtain ⟨r11, τ12, rfl, rfl, h⟩ := hh
  refine aw_stk (st' := [.int r11]) rfl ?_
  refine aw_istore_n (lv' := [(2, .int r11), (0, .ref 0), (1, .int x1)]) dX12_program_59 rfl (by decide) rfl ?_
  refine aw_aload_n 1 dX12_program_60 rfl rfl ?_
  refine aw_dup dX12_program_61 rfl ?_
  refine aw_getf (v := .int τ12.1.1.2.1.1) fX12_151 0 rfl rfl dX12_program_62 ?_
  refine aw_iconst (v := (1 : Int32)) dX12_program_65 (by decide) ?_
  refine aw_iadd dX12_program_66 ?_
  refine aw_topi (fun y13 ey13 => ?_)
  have h := h y13 ey13
  refine aw_putf fX12_151 0 (w' := (wX12 G (((τ12.1.1.1, ((y13, τ12.1.1.2.1.2), τ12.1.1.2.2)), τ12.1.2), τ12.2))) rfl (fun _ => ⟨rfl, rfl⟩) (Nat.le_of_ble_eq_true rfl) rfl dX12_program_67 ?_
  refine aw_aload_n 1 dX12_program_70 rfl rfl ?_
  refine aw_getf (v := .ref 2) fX12_13 0 rfl rfl dX12_program_71 ?_
  refine aw_aload_n 1 dX12_program_74 rfl rfl ?_
  refine aw_getf (v := .int y13) fX12_151 0 rfl rfl dX12_program_75 ?_
  refine aw_iald 2 (n := 3002) (f := τ12.1.1.1.2.1) rfl h.1 dX12_program_78 ?_
  have h := h.2
  refine aw_iconst (v := (5 : Int32)) dX12_program_79 (by decide) ?_
  refine aw_icmp_ne 107 dX12_program_80 (by decide) (fun c40 => ?_) (fun c40 => ?_)
  · have h := h.1 c40
    refine aw_lvsub (lv' := [(0, .ref 0), (1, .int x1), (2, .int r11)]) [1, 2, 0] rfl ?_
    exact aw_X12_program_107 hd hrec_9 h
  · have h := h.2 c40
    refine aw_aload_n 1 dX12_program_83 rfl rfl ?_
    refine aw_iload_n 0 dX12_program_84 rfl rfl ?_
    refine aw_aload_n 1 dX12_program_85 rfl rfl ?_
    refine aw_iconst (v := (5 : Int32)) dX12_program_86 (by decide) ?_
    refine aw_aload_n 1 dX12_program_87 rfl rfl ?_
    refine aw_getf (v := .int y13) fX12_151 0 rfl rfl dX12_program_88 ?_
    refine aw_callVT (mc1 := 0) (ms1 := 0) (mc := 0) (ms := 0) (st := [.int r11, .ref 0]) (q := 0) (As := [.int (5 : Int32), .int y13]) lX12_161 insX12_node selX12_node ⟨TX12, 50, rfl⟩ (by omega) (kX12_node (d := 0) (by omega) h) (Nat.le_of_ble_eq_true rfl) rfl rfl rfl dX12_program_91 rfl (fun _ _ hh => ?_)
    obtain ⟨r35, τ36, rfl, rfl, h⟩ := hh
    refine aw_stk (st' := [.int r35, .int r11, .ref 0]) rfl ?_
    refine aw_callVT (mc1 := 0) (ms1 := 0) (mc := 0) (ms := 0) (st := []) (q := 0) (As := [.int r11, .int r35]) lX12_164 insX12_add selX12_add ⟨TX12, 50, rfl⟩ (by omega) (kX12_add (d := 0) (by omega) h) (Nat.le_of_ble_eq_true rfl) rfl rfl rfl dX12_program_94 rfl (fun _ _ hh => ?_)
    obtain ⟨τ38, rfl, rfl, h⟩ := hh
    refine aw_stk (st' := []) rfl ?_
    refine aw_aload_n 1 dX12_program_97 rfl rfl ?_
    refine aw_dup dX12_program_98 rfl ?_
    refine aw_getf (v := .int τ38.1.1.2.1.1) fX12_151 0 rfl rfl dX12_program_99 ?_
    refine aw_iconst (v := (1 : Int32)) dX12_program_102 (by decide) ?_
    refine aw_iadd dX12_program_103 ?_
    refine aw_topi (fun y39 ey39 => ?_)
    have h := h y39 ey39
    refine aw_putf fX12_151 0 (w' := (wX12 G (((τ38.1.1.1, ((y39, τ38.1.1.2.1.2), τ38.1.1.2.2)), τ38.1.2), τ38.2))) rfl (fun _ => ⟨rfl, rfl⟩) (Nat.le_of_ble_eq_true rfl) rfl dX12_program_104 ?_
    refine aw_lvsub (lv' := [(0, .ref 0), (1, .int x1), (2, .int r11)]) [1, 2, 0] rfl ?_
    exact aw_X12_program_107 hd hrec_9 h
def wb_X12_program_9  (post : Int32 → WSX12 → Prop) (rec_9 : WSX12 × Int32 → Prop) (σ : WSX12) (x1 : Int32) : Prop :=
  ((¬ σ.1.1.2.1.2.1 = 0 → (∃ n10, wp_X12_program_193  post n10 σ x1)) ∧ (σ.1.1.2.1.2.1 = 0 → (vp_in σ.1.1.2.1.1 3002 ∧ (((σ.1.1.1.2.1 (σ.1.1.2.1.1).toNatClampNeg) = (3 : Int32) → wp_X12_program_42 rec_9 post σ x1) ∧ (¬ (σ.1.1.1.2.1 (σ.1.1.2.1.1).toNatClampNeg) = (3 : Int32) → (vp_in σ.1.1.2.1.1 3002 ∧ ((¬ (σ.1.1.1.2.1 (σ.1.1.2.1.1).toNatClampNeg) = (4 : Int32) → (∃ n41, wp_X12_program_193  post n41 σ x1)) ∧ ((σ.1.1.1.2.1 (σ.1.1.2.1.1).toNatClampNeg) = (4 : Int32) → wp_X12_program_42 rec_9 post σ x1))))))))
def wp_X12_program_9  (post : Int32 → WSX12 → Prop) (n : Nat) (σ : WSX12) (x1 : Int32) : Prop := aw_loop (fun r (a : WSX12 × Int32) => wb_X12_program_9  post r a.1 a.2) n (σ, x1)
theorem aw_X12_program_9 {G : aw_G} {d : Nat} (hd : 402 ≤ d) {post : Int32 → WSX12 → Prop}  : ∀ (n : Nat) (σ : WSX12) (x1 : Int32), wp_X12_program_9  post n σ x1 → AW G MX12_program d 0 0 25 (aw_pi (wX12 G) post) 9 [(0, .ref 0), (1, .int x1)] [] (wX12 G σ) := by
  intro n
  induction n with
  | zero => intro σ x1 h; exact h.elim
  | succ n ih =>
    intro σ x1 h
    have hrec_9 : ∀ a : WSX12 × Int32, aw_loop (fun r (a : WSX12 × Int32) => wb_X12_program_9  post r a.1 a.2) n a → AW G MX12_program d 0 0 25 (aw_pi (wX12 G) post) 9 [(0, .ref 0), (1, .int a.2)] [] (wX12 G a.1) := fun a h => ih a.1 a.2 h
    have h : wb_X12_program_9  post (aw_loop (fun r (a : WSX12 × Int32) => wb_X12_program_9  post r a.1 a.2) n) σ x1 := h
    unfold wb_X12_program_9 at h
    refine aw_aload_n 0 dX12_program_9 rfl rfl ?_
    refine aw_getf (v := .int σ.1.1.2.1.2.1) fX12_154 0 rfl rfl dX12_program_10 ?_
    refine aw_if_ne 193 dX12_program_13 (by decide) (fun c44 => ?_) (fun c44 => ?_)
    · have h := h.1 c44
      obtain ⟨n10, h⟩ := h
      exact aw_X12_program_193 hd  n10 σ x1 h
    · have h := h.2 c44
      refine aw_aload_n 0 dX12_program_16 rfl rfl ?_
      refine aw_getf (v := .ref 2) fX12_13 0 rfl rfl dX12_program_17 ?_
      refine aw_aload_n 0 dX12_program_20 rfl rfl ?_
      refine aw_getf (v := .int σ.1.1.2.1.1) fX12_151 0 rfl rfl dX12_program_21 ?_
      refine aw_iald 2 (n := 3002) (f := σ.1.1.1.2.1) rfl h.1 dX12_program_24 ?_
      have h := h.2
      refine aw_iconst (v := (3 : Int32)) dX12_program_25 (by decide) ?_
      refine aw_icmp_eq 42 dX12_program_26 (by decide) (fun c43 => ?_) (fun c43 => ?_)
      · have h := h.1 c43
        exact aw_X12_program_42 hd hrec_9 h
      · have h := h.2 c43
        refine aw_aload_n 0 dX12_program_29 rfl rfl ?_
        refine aw_getf (v := .ref 2) fX12_13 0 rfl rfl dX12_program_30 ?_
        refine aw_aload_n 0 dX12_program_33 rfl rfl ?_
        refine aw_getf (v := .int σ.1.1.2.1.1) fX12_151 0 rfl rfl dX12_program_34 ?_
        refine aw_iald 2 (n := 3002) (f := σ.1.1.1.2.1) rfl h.1 dX12_program_37 ?_
        have h := h.2
        refine aw_iconst (v := (4 : Int32)) dX12_program_38 (by decide) ?_
        refine aw_icmp_ne 193 dX12_program_39 (by decide) (fun c42 => ?_) (fun c42 => ?_)
        · have h := h.1 c42
          obtain ⟨n41, h⟩ := h
          exact aw_X12_program_193 hd  n41 σ x1 h
        · have h := h.2 c42
          exact aw_X12_program_42 hd hrec_9 h
def wp_X12_program (σ : WSX12) (post : Int32 → WSX12 → Prop) : Prop :=
  wp_X12_node σ (302 : Int32) (0 : Int32) (fun r1 τ2 => (∃ n45, wp_X12_program_9  post n45 τ2 r1))
theorem kX12_program {G : aw_G} {d : Nat} (hd : 402 ≤ d) {σ : WSX12} {post : Int32 → WSX12 → Prop} (h : wp_X12_program σ post) : AC G MX12_program d 0 0 25 [.ref 0] (wX12 G σ) (aw_pi (wX12 G) post) := by
  refine AC.of (lv := [(0, .ref 0)]) (by decide) (Nat.le_of_ble_eq_true rfl) rfl ?_
  unfold wp_X12_program at h
  refine aw_aload_n 0 dX12_program_0 rfl rfl ?_
  refine aw_sipush (v := (302 : Int32)) dX12_program_1 (by decide) ?_
  refine aw_iconst (v := (0 : Int32)) dX12_program_4 (by decide) ?_
  refine aw_callVT (mc1 := 0) (ms1 := 0) (mc := 0) (ms := 0) (st := []) (q := 0) (As := [.int (302 : Int32), .int (0 : Int32)]) lX12_161 insX12_node selX12_node ⟨TX12, 50, rfl⟩ (by omega) (kX12_node (d := 0) (by omega) h) (Nat.le_of_ble_eq_true rfl) rfl rfl rfl dX12_program_5 rfl (fun _ _ hh => ?_)
  obtain ⟨r1, τ2, rfl, rfl, h⟩ := hh
  refine aw_stk (st' := [.int r1]) rfl ?_
  refine aw_istore_n (lv' := [(1, .int r1), (0, .ref 0)]) dX12_program_8 rfl (by decide) rfl ?_
  refine aw_lvsub (lv' := [(0, .ref 0), (1, .int r1)]) [1, 0] rfl ?_
  obtain ⟨n45, h⟩ := h
  exact aw_X12_program_9 hd  n45 τ2 r1 h
def wp_X12_wrong (σ : WSX12) (a1 : Int32) (a2 : Int32) (post : WSX12 → Prop) : Prop :=
  ((¬ σ.2.1.2.1.1 = 0 → post σ) ∧ (σ.2.1.2.1.1 = 0 → post (σ.1, (((σ.2.1.1.1, (σ.2.1.1.2.1, (σ.2.1.1.2.2.1, a2))), ((a1, σ.2.1.2.1.2), σ.2.1.2.2)), σ.2.2))))
theorem kX12_wrong {G : aw_G} {d : Nat} (hd : 0 ≤ d) {σ : WSX12} {a1 : Int32} {a2 : Int32} {post : WSX12 → Prop} (h : wp_X12_wrong σ a1 a2 post) : AC G MX12_wrong d 0 0 25 [.ref 0, .int a1, .int a2] (wX12 G σ) (aw_pv (wX12 G) post) := by
  refine AC.of (lv := [(0, .ref 0), (1, .int a1), (2, .int a2)]) (by decide) (Nat.le_of_ble_eq_true rfl) rfl ?_
  unfold wp_X12_wrong at h
  refine aw_aload_n 0 dX12_wrong_0 rfl rfl ?_
  refine aw_getf (v := .int σ.2.1.2.1.1) fX12_189 0 rfl rfl dX12_wrong_1 ?_
  refine aw_if_ne 17 dX12_wrong_4 (by decide) (fun c1 => ?_) (fun c1 => ?_)
  · have h := h.1 c1
    exact aw_vret rfl dX12_wrong_17 ⟨σ, rfl, rfl, h⟩
  · have h := h.2 c1
    refine aw_aload_n 0 dX12_wrong_7 rfl rfl ?_
    refine aw_iload_n 1 dX12_wrong_8 rfl rfl ?_
    refine aw_putf fX12_189 0 (w' := (wX12 G (σ.1, ((σ.2.1.1, ((a1, σ.2.1.2.1.2), σ.2.1.2.2)), σ.2.2)))) rfl (fun _ => ⟨rfl, rfl⟩) (Nat.le_of_ble_eq_true rfl) rfl dX12_wrong_9 ?_
    refine aw_aload_n 0 dX12_wrong_12 rfl rfl ?_
    refine aw_iload_n 2 dX12_wrong_13 rfl rfl ?_
    refine aw_putf fX12_192 0 (w' := (wX12 G (σ.1, (((σ.2.1.1.1, (σ.2.1.1.2.1, (σ.2.1.1.2.2.1, a2))), ((a1, σ.2.1.2.1.2), σ.2.1.2.2)), σ.2.2)))) rfl (fun _ => ⟨rfl, rfl⟩) (Nat.le_of_ble_eq_true rfl) rfl dX12_wrong_14 ?_
    exact aw_vret rfl dX12_wrong_17 ⟨(σ.1, (((σ.2.1.1.1, (σ.2.1.1.2.1, (σ.2.1.1.2.2.1, a2))), ((a1, σ.2.1.2.1.2), σ.2.1.2.2)), σ.2.2)), rfl, rfl, h⟩
def wp_X12_find_100 (rec_2 : WSX12 × Int32 × Int32 → Prop) (post : Int32 → WSX12 → Prop) (σ : WSX12) (x1 : Int32) (x2 : Int32) (x3 : Int32) : Prop :=
  ((x3 = 0 → rec_2 (σ, x1, (x2 + 1))) ∧ (¬ x3 = 0 → post x2 σ))
theorem aw_X12_find_100 {G : aw_G} {d : Nat} (hd : 1 ≤ d) {rec_2 : WSX12 × Int32 × Int32 → Prop} {post : Int32 → WSX12 → Prop} (hrec_2 : ∀ a : WSX12 × Int32 × Int32, rec_2 a → AW G MX12_find d 0 0 25 (aw_pi (wX12 G) post) 2 [(0, .ref 0), (1, .int a.2.1), (2, .int a.2.2)] [] (wX12 G a.1)) {σ : WSX12} {x1 : Int32} {x2 : Int32} {x3 : Int32} (h : wp_X12_find_100 rec_2 post σ x1 x2 x3) : AW G MX12_find d 0 0 25 (aw_pi (wX12 G) post) 100 [(0, .ref 0), (1, .int x1), (2, .int x2), (3, .int x3)] [] (wX12 G σ) := by
  unfold wp_X12_find_100 at h
  refine aw_iload_n 3 dX12_find_100 rfl rfl ?_
  refine aw_if_eq 106 dX12_find_101 (by decide) (fun c1 => ?_) (fun c1 => ?_)
  · have h := h.1 c1
    refine aw_iinc 2 (v := (x2 + 1)) (lv' := [(2, .int (x2 + 1)), (0, .ref 0), (1, .int x1), (3, .int x3)]) dX12_find_106 rfl rfl (by decide) rfl ?_
    refine aw_goto 2 dX12_find_109 (by decide) ?_
    refine aw_lvsub (lv' := [(0, .ref 0), (1, .int x1), (2, .int (x2 + 1))]) [1, 2, 0] rfl ?_
    exact hrec_2 (σ, x1, (x2 + 1)) h
  · have h := h.2 c1
    refine aw_iload_n 2 dX12_find_104 rfl rfl ?_
    exact aw_iret rfl dX12_find_105 ⟨_, σ, rfl, rfl, h⟩
def wp_X12_find_93 (rec_2 : WSX12 × Int32 × Int32 → Prop) (rec_39 : WSX12 × Int32 × Int32 × Int32 × Int32 → Prop) (post : Int32 → WSX12 → Prop) (σ : WSX12) (x1 : Int32) (x2 : Int32) (x4 : Int32) (s0 : Int32) : Prop :=
  rec_39 (σ, x1, x2, s0, (x4 + 1))
theorem aw_X12_find_93 {G : aw_G} {d : Nat} (hd : 1 ≤ d) {rec_2 : WSX12 × Int32 × Int32 → Prop} {rec_39 : WSX12 × Int32 × Int32 × Int32 × Int32 → Prop} {post : Int32 → WSX12 → Prop} (hrec_2 : ∀ a : WSX12 × Int32 × Int32, rec_2 a → AW G MX12_find d 0 0 25 (aw_pi (wX12 G) post) 2 [(0, .ref 0), (1, .int a.2.1), (2, .int a.2.2)] [] (wX12 G a.1)) (hrec_39 : ∀ a : WSX12 × Int32 × Int32 × Int32 × Int32, rec_39 a → AW G MX12_find d 0 0 25 (aw_pi (wX12 G) post) 39 [(0, .ref 0), (1, .int a.2.1), (2, .int a.2.2.1), (3, .int a.2.2.2.1), (4, .int a.2.2.2.2)] [] (wX12 G a.1)) {σ : WSX12} {x1 : Int32} {x2 : Int32} {x4 : Int32} {s0 : Int32} (h : wp_X12_find_93 rec_2 rec_39 post σ x1 x2 x4 s0) : AW G MX12_find d 0 0 25 (aw_pi (wX12 G) post) 93 [(0, .ref 0), (1, .int x1), (2, .int x2), (4, .int x4)] [.int s0] (wX12 G σ) := by
  unfold wp_X12_find_93 at h
  refine aw_istore_n (lv' := [(3, .int s0), (0, .ref 0), (1, .int x1), (2, .int x2), (4, .int x4)]) dX12_find_93 rfl (by decide) rfl ?_
  refine aw_iinc 4 (v := (x4 + 1)) (lv' := [(4, .int (x4 + 1)), (3, .int s0), (0, .ref 0), (1, .int x1), (2, .int x2)]) dX12_find_94 rfl rfl (by decide) rfl ?_
  refine aw_goto 39 dX12_find_97 (by decide) ?_
  refine aw_lvsub (lv' := [(0, .ref 0), (1, .int x1), (2, .int x2), (3, .int s0), (4, .int (x4 + 1))]) [2, 3, 4, 1, 0] rfl ?_
  exact hrec_39 (σ, x1, x2, s0, (x4 + 1)) h
def wb_X12_find_39 (rec_2 : WSX12 × Int32 × Int32 → Prop) (post : Int32 → WSX12 → Prop) (rec_39 : WSX12 × Int32 × Int32 × Int32 × Int32 → Prop) (σ : WSX12) (x1 : Int32) (x2 : Int32) (x3 : Int32) (x4 : Int32) : Prop :=
  (vp_in x1 3002 ∧ (((σ.1.1.1.2.2.2 (x1).toNatClampNeg) ≤ x4 → wp_X12_find_100 rec_2 post σ x1 x2 x3) ∧ (¬ (σ.1.1.1.2.2.2 (x1).toNatClampNeg) ≤ x4 → ((x3 = 0 → wp_X12_find_100 rec_2 post σ x1 x2 x3) ∧ (¬ x3 = 0 → (vp_in x2 1500 ∧ (vp_in (σ.1.2.1.2.2.1 (x2).toNatClampNeg) 3002 ∧ wp_X12_byteAt σ ((σ.1.1.1.2.2.1 ((σ.1.2.1.2.2.1 (x2).toNatClampNeg)).toNatClampNeg) + x4) (fun r2 τ3 => (vp_in x1 3002 ∧ wp_X12_byteAt τ3 ((τ3.1.1.1.2.2.1 (x1).toNatClampNeg) + x4) (fun r4 τ5 => ((¬ r2 = r4 → wp_X12_find_93 rec_2 rec_39 post τ5 x1 x2 x4 (0 : Int32)) ∧ (r2 = r4 → wp_X12_find_93 rec_2 rec_39 post τ5 x1 x2 x4 (1 : Int32)))))))))))))
def wp_X12_find_39 (rec_2 : WSX12 × Int32 × Int32 → Prop) (post : Int32 → WSX12 → Prop) (n : Nat) (σ : WSX12) (x1 : Int32) (x2 : Int32) (x3 : Int32) (x4 : Int32) : Prop := aw_loop (fun r (a : WSX12 × Int32 × Int32 × Int32 × Int32) => wb_X12_find_39 rec_2 post r a.1 a.2.1 a.2.2.1 a.2.2.2.1 a.2.2.2.2) n (σ, x1, x2, x3, x4)
theorem aw_X12_find_39 {G : aw_G} {d : Nat} (hd : 1 ≤ d) {rec_2 : WSX12 × Int32 × Int32 → Prop} {post : Int32 → WSX12 → Prop} (hrec_2 : ∀ a : WSX12 × Int32 × Int32, rec_2 a → AW G MX12_find d 0 0 25 (aw_pi (wX12 G) post) 2 [(0, .ref 0), (1, .int a.2.1), (2, .int a.2.2)] [] (wX12 G a.1)) : ∀ (n : Nat) (σ : WSX12) (x1 : Int32) (x2 : Int32) (x3 : Int32) (x4 : Int32), wp_X12_find_39 rec_2 post n σ x1 x2 x3 x4 → AW G MX12_find d 0 0 25 (aw_pi (wX12 G) post) 39 [(0, .ref 0), (1, .int x1), (2, .int x2), (3, .int x3), (4, .int x4)] [] (wX12 G σ) := by
  intro n
  induction n with
  | zero => intro σ x1 x2 x3 x4 h; exact h.elim
  | succ n ih =>
    intro σ x1 x2 x3 x4 h
    have hrec_39 : ∀ a : WSX12 × Int32 × Int32 × Int32 × Int32, aw_loop (fun r (a : WSX12 × Int32 × Int32 × Int32 × Int32) => wb_X12_find_39 rec_2 post r a.1 a.2.1 a.2.2.1 a.2.2.2.1 a.2.2.2.2) n a → AW G MX12_find d 0 0 25 (aw_pi (wX12 G) post) 39 [(0, .ref 0), (1, .int a.2.1), (2, .int a.2.2.1), (3, .int a.2.2.2.1), (4, .int a.2.2.2.2)] [] (wX12 G a.1) := fun a h => ih a.1 a.2.1 a.2.2.1 a.2.2.2.1 a.2.2.2.2 h
    have h : wb_X12_find_39 rec_2 post (aw_loop (fun r (a : WSX12 × Int32 × Int32 × Int32 × Int32) => wb_X12_find_39 rec_2 post r a.1 a.2.1 a.2.2.1 a.2.2.2.1 a.2.2.2.2) n) σ x1 x2 x3 x4 := h
    unfold wb_X12_find_39 at h
    refine aw_iload 4 dX12_find_39 rfl ?_
    refine aw_aload_n 0 dX12_find_41 rfl rfl ?_
    refine aw_getf (v := .ref 4) fX12_19 0 rfl rfl dX12_find_42 ?_
    refine aw_iload_n 1 dX12_find_45 rfl rfl ?_
    refine aw_iald 4 (n := 3002) (f := σ.1.1.1.2.2.2) rfl h.1 dX12_find_46 ?_
    have h := h.2
    refine aw_icmp_ge 100 dX12_find_47 (by decide) (fun c8 => ?_) (fun c8 => ?_)
    · have h := h.1 c8
      refine aw_lvsub (lv' := [(0, .ref 0), (1, .int x1), (2, .int x2), (3, .int x3)]) [0, 1, 2, 3] rfl ?_
      exact aw_X12_find_100 hd hrec_2 h
    · have h := h.2 c8
      refine aw_iload_n 3 dX12_find_50 rfl rfl ?_
      refine aw_if_eq 100 dX12_find_51 (by decide) (fun c7 => ?_) (fun c7 => ?_)
      · have h := h.1 c7
        refine aw_lvsub (lv' := [(0, .ref 0), (1, .int x1), (2, .int x2), (3, .int x3)]) [0, 1, 2, 3] rfl ?_
        exact aw_X12_find_100 hd hrec_2 h
      · have h := h.2 c7
        refine aw_aload_n 0 dX12_find_54 rfl rfl ?_
        refine aw_aload_n 0 dX12_find_55 rfl rfl ?_
        refine aw_getf (v := .ref 3) fX12_16 0 rfl rfl dX12_find_56 ?_
        refine aw_aload_n 0 dX12_find_59 rfl rfl ?_
        refine aw_getf (v := .ref 11) fX12_41 0 rfl rfl dX12_find_60 ?_
        refine aw_iload_n 2 dX12_find_63 rfl rfl ?_
        refine aw_iald 11 (n := 1500) (f := σ.1.2.1.2.2.1) rfl h.1 dX12_find_64 ?_
        have h := h.2
        refine aw_iald 3 (n := 3002) (f := σ.1.1.1.2.2.1) rfl h.1 dX12_find_65 ?_
        have h := h.2
        refine aw_iload 4 dX12_find_66 rfl ?_
        refine aw_iadd dX12_find_68 ?_
        refine aw_callVT (mc1 := 0) (ms1 := 0) (mc := 0) (ms := 0) (st := []) (q := 0) (As := [.int ((σ.1.1.1.2.2.1 ((σ.1.2.1.2.2.1 (x2).toNatClampNeg)).toNatClampNeg) + x4)]) lX12_101 insX12_byteAt selX12_byteAt ⟨TX12, 50, rfl⟩ (by omega) (kX12_byteAt (d := 0) (by omega) h) (Nat.le_of_ble_eq_true rfl) rfl rfl rfl dX12_find_69 rfl (fun _ _ hh => ?_)
        obtain ⟨r2, τ3, rfl, rfl, h⟩ := hh
        refine aw_stk (st' := [.int r2]) rfl ?_
        refine aw_aload_n 0 dX12_find_72 rfl rfl ?_
        refine aw_aload_n 0 dX12_find_73 rfl rfl ?_
        refine aw_getf (v := .ref 3) fX12_16 0 rfl rfl dX12_find_74 ?_
        refine aw_iload_n 1 dX12_find_77 rfl rfl ?_
        refine aw_iald 3 (n := 3002) (f := τ3.1.1.1.2.2.1) rfl h.1 dX12_find_78 ?_
        have h := h.2
        refine aw_iload 4 dX12_find_79 rfl ?_
        refine aw_iadd dX12_find_81 ?_
        refine aw_callVT (mc1 := 0) (ms1 := 0) (mc := 0) (ms := 0) (st := [.int r2]) (q := 0) (As := [.int ((τ3.1.1.1.2.2.1 (x1).toNatClampNeg) + x4)]) lX12_101 insX12_byteAt selX12_byteAt ⟨TX12, 50, rfl⟩ (by omega) (kX12_byteAt (d := 0) (by omega) h) (Nat.le_of_ble_eq_true rfl) rfl rfl rfl dX12_find_82 rfl (fun _ _ hh => ?_)
        obtain ⟨r4, τ5, rfl, rfl, h⟩ := hh
        refine aw_stk (st' := [.int r4, .int r2]) rfl ?_
        refine aw_icmp_ne 92 dX12_find_85 (by decide) (fun c6 => ?_) (fun c6 => ?_)
        · have h := h.1 c6
          refine aw_iconst (v := (0 : Int32)) dX12_find_92 (by decide) ?_
          refine aw_lvsub (lv' := [(0, .ref 0), (1, .int x1), (2, .int x2), (4, .int x4)]) [0, 1, 2, 4] rfl ?_
          exact aw_X12_find_93 hd hrec_2 hrec_39 h
        · have h := h.2 c6
          refine aw_iconst (v := (1 : Int32)) dX12_find_88 (by decide) ?_
          refine aw_goto 93 dX12_find_89 (by decide) ?_
          refine aw_lvsub (lv' := [(0, .ref 0), (1, .int x1), (2, .int x2), (4, .int x4)]) [0, 1, 2, 4] rfl ?_
          exact aw_X12_find_93 hd hrec_2 hrec_39 h
def wp_X12_find_35 (rec_2 : WSX12 × Int32 × Int32 → Prop) (post : Int32 → WSX12 → Prop) (σ : WSX12) (x1 : Int32) (x2 : Int32) (s0 : Int32) : Prop :=
  (∃ n9, wp_X12_find_39 rec_2 post n9 σ x1 x2 s0 (0 : Int32))
theorem aw_X12_find_35 {G : aw_G} {d : Nat} (hd : 1 ≤ d) {rec_2 : WSX12 × Int32 × Int32 → Prop} {post : Int32 → WSX12 → Prop} (hrec_2 : ∀ a : WSX12 × Int32 × Int32, rec_2 a → AW G MX12_find d 0 0 25 (aw_pi (wX12 G) post) 2 [(0, .ref 0), (1, .int a.2.1), (2, .int a.2.2)] [] (wX12 G a.1)) {σ : WSX12} {x1 : Int32} {x2 : Int32} {s0 : Int32} (h : wp_X12_find_35 rec_2 post σ x1 x2 s0) : AW G MX12_find d 0 0 25 (aw_pi (wX12 G) post) 35 [(0, .ref 0), (1, .int x1), (2, .int x2)] [.int s0] (wX12 G σ) := by
  unfold wp_X12_find_35 at h
  refine aw_istore_n (lv' := [(3, .int s0), (0, .ref 0), (1, .int x1), (2, .int x2)]) dX12_find_35 rfl (by decide) rfl ?_
  refine aw_iconst (v := (0 : Int32)) dX12_find_36 (by decide) ?_
  refine aw_istore (lv' := [(4, .int (0 : Int32)), (3, .int s0), (0, .ref 0), (1, .int x1), (2, .int x2)]) dX12_find_37 (by decide) rfl ?_
  refine aw_lvsub (lv' := [(0, .ref 0), (1, .int x1), (2, .int x2), (3, .int s0), (4, .int (0 : Int32))]) [2, 3, 4, 1, 0] rfl ?_
  obtain ⟨n9, h⟩ := h
  exact aw_X12_find_39 hd hrec_2 n9 σ x1 x2 s0 (0 : Int32) h
def wb_X12_find_2  (post : Int32 → WSX12 → Prop) (rec_2 : WSX12 × Int32 × Int32 → Prop) (σ : WSX12) (x1 : Int32) (x2 : Int32) : Prop :=
  ((σ.1.2.1.2.1 ≤ x2 → post ((-1) : Int32) σ) ∧ (¬ σ.1.2.1.2.1 ≤ x2 → (vp_in x2 1500 ∧ (vp_in (σ.1.2.1.2.2.1 (x2).toNatClampNeg) 3002 ∧ (vp_in x1 3002 ∧ ((¬ (σ.1.1.1.2.2.2 ((σ.1.2.1.2.2.1 (x2).toNatClampNeg)).toNatClampNeg) = (σ.1.1.1.2.2.2 (x1).toNatClampNeg) → wp_X12_find_35 rec_2 post σ x1 x2 (0 : Int32)) ∧ ((σ.1.1.1.2.2.2 ((σ.1.2.1.2.2.1 (x2).toNatClampNeg)).toNatClampNeg) = (σ.1.1.1.2.2.2 (x1).toNatClampNeg) → wp_X12_find_35 rec_2 post σ x1 x2 (1 : Int32))))))))
def wp_X12_find_2  (post : Int32 → WSX12 → Prop) (n : Nat) (σ : WSX12) (x1 : Int32) (x2 : Int32) : Prop := aw_loop (fun r (a : WSX12 × Int32 × Int32) => wb_X12_find_2  post r a.1 a.2.1 a.2.2) n (σ, x1, x2)
theorem aw_X12_find_2 {G : aw_G} {d : Nat} (hd : 1 ≤ d) {post : Int32 → WSX12 → Prop}  : ∀ (n : Nat) (σ : WSX12) (x1 : Int32) (x2 : Int32), wp_X12_find_2  post n σ x1 x2 → AW G MX12_find d 0 0 25 (aw_pi (wX12 G) post) 2 [(0, .ref 0), (1, .int x1), (2, .int x2)] [] (wX12 G σ) := by
  intro n
  induction n with
  | zero => intro σ x1 x2 h; exact h.elim
  | succ n ih =>
    intro σ x1 x2 h
    have hrec_2 : ∀ a : WSX12 × Int32 × Int32, aw_loop (fun r (a : WSX12 × Int32 × Int32) => wb_X12_find_2  post r a.1 a.2.1 a.2.2) n a → AW G MX12_find d 0 0 25 (aw_pi (wX12 G) post) 2 [(0, .ref 0), (1, .int a.2.1), (2, .int a.2.2)] [] (wX12 G a.1) := fun a h => ih a.1 a.2.1 a.2.2 h
    have h : wb_X12_find_2  post (aw_loop (fun r (a : WSX12 × Int32 × Int32) => wb_X12_find_2  post r a.1 a.2.1 a.2.2) n) σ x1 x2 := h
    unfold wb_X12_find_2 at h
    refine aw_iload_n 2 dX12_find_2 rfl rfl ?_
    refine aw_aload_n 0 dX12_find_3 rfl rfl ?_
    refine aw_getf (v := .int σ.1.2.1.2.1) fX12_195 0 rfl rfl dX12_find_4 ?_
    refine aw_icmp_ge 112 dX12_find_7 (by decide) (fun c11 => ?_) (fun c11 => ?_)
    · have h := h.1 c11
      refine aw_iconst (v := ((-1) : Int32)) dX12_find_112 (by decide) ?_
      exact aw_iret rfl dX12_find_113 ⟨_, σ, rfl, rfl, h⟩
    · have h := h.2 c11
      refine aw_aload_n 0 dX12_find_10 rfl rfl ?_
      refine aw_getf (v := .ref 4) fX12_19 0 rfl rfl dX12_find_11 ?_
      refine aw_aload_n 0 dX12_find_14 rfl rfl ?_
      refine aw_getf (v := .ref 11) fX12_41 0 rfl rfl dX12_find_15 ?_
      refine aw_iload_n 2 dX12_find_18 rfl rfl ?_
      refine aw_iald 11 (n := 1500) (f := σ.1.2.1.2.2.1) rfl h.1 dX12_find_19 ?_
      have h := h.2
      refine aw_iald 4 (n := 3002) (f := σ.1.1.1.2.2.2) rfl h.1 dX12_find_20 ?_
      have h := h.2
      refine aw_aload_n 0 dX12_find_21 rfl rfl ?_
      refine aw_getf (v := .ref 4) fX12_19 0 rfl rfl dX12_find_22 ?_
      refine aw_iload_n 1 dX12_find_25 rfl rfl ?_
      refine aw_iald 4 (n := 3002) (f := σ.1.1.1.2.2.2) rfl h.1 dX12_find_26 ?_
      have h := h.2
      refine aw_icmp_ne 34 dX12_find_27 (by decide) (fun c10 => ?_) (fun c10 => ?_)
      · have h := h.1 c10
        refine aw_iconst (v := (0 : Int32)) dX12_find_34 (by decide) ?_
        exact aw_X12_find_35 hd hrec_2 h
      · have h := h.2 c10
        refine aw_iconst (v := (1 : Int32)) dX12_find_30 (by decide) ?_
        refine aw_goto 35 dX12_find_31 (by decide) ?_
        exact aw_X12_find_35 hd hrec_2 h
def wp_X12_find (σ : WSX12) (a1 : Int32) (post : Int32 → WSX12 → Prop) : Prop :=
  (∃ n12, wp_X12_find_2  post n12 σ a1 (0 : Int32))
theorem kX12_find {G : aw_G} {d : Nat} (hd : 1 ≤ d) {σ : WSX12} {a1 : Int32} {post : Int32 → WSX12 → Prop} (h : wp_X12_find σ a1 post) : AC G MX12_find d 0 0 25 [.ref 0, .int a1] (wX12 G σ) (aw_pi (wX12 G) post) := by
  refine AC.of (lv := [(0, .ref 0), (1, .int a1)]) (by decide) (Nat.le_of_ble_eq_true rfl) rfl ?_
  unfold wp_X12_find at h
  refine aw_iconst (v := (0 : Int32)) dX12_find_0 (by decide) ?_
  refine aw_istore_n (lv' := [(2, .int (0 : Int32)), (0, .ref 0), (1, .int a1)]) dX12_find_1 rfl (by decide) rfl ?_
  refine aw_lvsub (lv' := [(0, .ref 0), (1, .int a1), (2, .int (0 : Int32))]) [1, 2, 0] rfl ?_
  obtain ⟨n12, h⟩ := h
  exact aw_X12_find_2 hd  n12 σ a1 (0 : Int32) h
def wb_X12_number_5  (post : Int32 → WSX12 → Prop) (rec_5 : WSX12 × Int32 × Int64 × Int32 → Prop) (σ : WSX12) (x1 : Int32) (x2 : Int64) (x4 : Int32) : Prop :=
  (vp_in x1 3002 ∧ (((σ.1.1.1.2.2.2 (x1).toNatClampNeg) ≤ x4 → post (x2).toInt32 σ) ∧ (¬ (σ.1.1.1.2.2.2 (x1).toNatClampNeg) ≤ x4 → (vp_in x1 3002 ∧ wp_X12_byteAt σ ((σ.1.1.1.2.2.1 (x1).toNatClampNeg) + x4) (fun r1 τ2 => (∀ y3 : Int64, y3 = ((((10 : Int64) * x2) + (r1).toInt64) - (48 : Int64)) → rec_5 (τ2, x1, y3, (x4 + 1))))))))
def wp_X12_number_5  (post : Int32 → WSX12 → Prop) (n : Nat) (σ : WSX12) (x1 : Int32) (x2 : Int64) (x4 : Int32) : Prop := aw_loop (fun r (a : WSX12 × Int32 × Int64 × Int32) => wb_X12_number_5  post r a.1 a.2.1 a.2.2.1 a.2.2.2) n (σ, x1, x2, x4)
theorem aw_X12_number_5 {G : aw_G} {d : Nat} (hd : 1 ≤ d) {post : Int32 → WSX12 → Prop}  : ∀ (n : Nat) (σ : WSX12) (x1 : Int32) (x2 : Int64) (x4 : Int32), wp_X12_number_5  post n σ x1 x2 x4 → AW G MX12_number d 0 0 25 (aw_pi (wX12 G) post) 5 [(0, .ref 0), (1, .int x1), (2, .long x2), (4, .int x4)] [] (wX12 G σ) := by
  intro n
  induction n with
  | zero => intro σ x1 x2 x4 h; exact h.elim
  | succ n ih =>
    intro σ x1 x2 x4 h
    have hrec_5 : ∀ a : WSX12 × Int32 × Int64 × Int32, aw_loop (fun r (a : WSX12 × Int32 × Int64 × Int32) => wb_X12_number_5  post r a.1 a.2.1 a.2.2.1 a.2.2.2) n a → AW G MX12_number d 0 0 25 (aw_pi (wX12 G) post) 5 [(0, .ref 0), (1, .int a.2.1), (2, .long a.2.2.1), (4, .int a.2.2.2)] [] (wX12 G a.1) := fun a h => ih a.1 a.2.1 a.2.2.1 a.2.2.2 h
    have h : wb_X12_number_5  post (aw_loop (fun r (a : WSX12 × Int32 × Int64 × Int32) => wb_X12_number_5  post r a.1 a.2.1 a.2.2.1 a.2.2.2) n) σ x1 x2 x4 := h
    unfold wb_X12_number_5 at h
    refine aw_iload 3 dX12_number_5 rfl ?_
    refine aw_aload_n 0 dX12_number_7 rfl rfl ?_
    refine aw_getf (v := .ref 4) fX12_19 0 rfl rfl dX12_number_8 ?_
    refine aw_iload_n 1 dX12_number_11 rfl rfl ?_
    refine aw_iald 4 (n := 3002) (f := σ.1.1.1.2.2.2) rfl h.1 dX12_number_12 ?_
    have h := h.2
    refine aw_icmp_ge 47 dX12_number_13 (by decide) (fun c4 => ?_) (fun c4 => ?_)
    · have h := h.1 c4
      refine aw_lload_n 2 dX12_number_47 rfl rfl ?_
      refine aw_l2i dX12_number_48 ?_
      exact aw_iret rfl dX12_number_49 ⟨_, σ, rfl, rfl, h⟩
    · have h := h.2 c4
      refine aw_ldc2 (v := (10 : Int64)) dX12_number_16 oX12_140 ?_
      refine aw_lload_n 2 dX12_number_19 rfl rfl ?_
      refine aw_lmul dX12_number_20 ?_
      refine aw_aload_n 0 dX12_number_21 rfl rfl ?_
      refine aw_aload_n 0 dX12_number_22 rfl rfl ?_
      refine aw_getf (v := .ref 3) fX12_16 0 rfl rfl dX12_number_23 ?_
      refine aw_iload_n 1 dX12_number_26 rfl rfl ?_
      refine aw_iald 3 (n := 3002) (f := σ.1.1.1.2.2.1) rfl h.1 dX12_number_27 ?_
      have h := h.2
      refine aw_iload 3 dX12_number_28 rfl ?_
      refine aw_iadd dX12_number_30 ?_
      refine aw_callVT (mc1 := 0) (ms1 := 0) (mc := 0) (ms := 0) (st := [.long ((10 : Int64) * x2)]) (q := 0) (As := [.int ((σ.1.1.1.2.2.1 (x1).toNatClampNeg) + x4)]) lX12_101 insX12_byteAt selX12_byteAt ⟨TX12, 50, rfl⟩ (by omega) (kX12_byteAt (d := 0) (by omega) h) (Nat.le_of_ble_eq_true rfl) rfl rfl rfl dX12_number_31 rfl (fun _ _ hh => ?_)
      obtain ⟨r1, τ2, rfl, rfl, h⟩ := hh
      refine aw_stk (st' := [.int r1, .long ((10 : Int64) * x2)]) rfl ?_
      refine aw_i2l dX12_number_34 ?_
      refine aw_ladd dX12_number_35 ?_
      refine aw_ldc2 (v := (48 : Int64)) dX12_number_36 oX12_142 ?_
      refine aw_lsub dX12_number_39 ?_
      refine aw_topl (fun y3 ey3 => ?_)
      have h := h y3 ey3
      refine aw_lstore_n (lv' := [(2, .long y3), (0, .ref 0), (1, .int x1), (4, .int x4)]) dX12_number_40 rfl (by decide) rfl ?_
      refine aw_iinc 3 (v := (x4 + 1)) (lv' := [(4, .int (x4 + 1)), (2, .long y3), (0, .ref 0), (1, .int x1)]) dX12_number_41 rfl rfl (by decide) rfl ?_
      refine aw_goto 5 dX12_number_44 (by decide) ?_
      refine aw_lvsub (lv' := [(0, .ref 0), (1, .int x1), (2, .long y3), (4, .int (x4 + 1))]) [2, 3, 1, 0] rfl ?_
      exact hrec_5 (τ2, x1, y3, (x4 + 1)) h
def wp_X12_number (σ : WSX12) (a1 : Int32) (post : Int32 → WSX12 → Prop) : Prop :=
  (∃ n5, wp_X12_number_5  post n5 σ a1 (0 : Int64) (0 : Int32))
theorem kX12_number {G : aw_G} {d : Nat} (hd : 1 ≤ d) {σ : WSX12} {a1 : Int32} {post : Int32 → WSX12 → Prop} (h : wp_X12_number σ a1 post) : AC G MX12_number d 0 0 25 [.ref 0, .int a1] (wX12 G σ) (aw_pi (wX12 G) post) := by
  refine AC.of (lv := [(0, .ref 0), (1, .int a1)]) (by decide) (Nat.le_of_ble_eq_true rfl) rfl ?_
  unfold wp_X12_number at h
  refine aw_lconst (v := (0 : Int64)) dX12_number_0 (by decide) ?_
  refine aw_lstore_n (lv' := [(2, .long (0 : Int64)), (0, .ref 0), (1, .int a1)]) dX12_number_1 rfl (by decide) rfl ?_
  refine aw_iconst (v := (0 : Int32)) dX12_number_2 (by decide) ?_
  refine aw_istore (lv' := [(4, .int (0 : Int32)), (2, .long (0 : Int64)), (0, .ref 0), (1, .int a1)]) dX12_number_3 (by decide) rfl ?_
  refine aw_lvsub (lv' := [(0, .ref 0), (1, .int a1), (2, .long (0 : Int64)), (4, .int (0 : Int32))]) [2, 3, 1, 0] rfl ?_
  obtain ⟨n5, h⟩ := h
  exact aw_X12_number_5 hd  n5 σ a1 (0 : Int64) (0 : Int32) h
def wp_X12_declare_128  (post : WSX12 → Prop) (σ : WSX12) (x3 : Int32) : Prop :=
  (vp_in x3 9000 ∧ (vp_in (σ.1.1.2.2.2.2 (x3).toNatClampNeg) 9000 ∧ wp_X12_wrong σ (2 : Int32) (σ.1.1.2.2.2.1 ((σ.1.1.2.2.2.2 (x3).toNatClampNeg)).toNatClampNeg) (fun τ4 => post τ4)))
theorem aw_X12_declare_128 {G : aw_G} {d : Nat} (hd : 2 ≤ d) {post : WSX12 → Prop}  {σ : WSX12} {x3 : Int32} (h : wp_X12_declare_128  post σ x3) : AW G MX12_declare d 0 0 25 (aw_pv (wX12 G) post) 128 [(0, .ref 0), (3, .int x3)] [] (wX12 G σ) := by
  unfold wp_X12_declare_128 at h
  refine aw_aload_n 0 dX12_declare_128 rfl rfl ?_
  refine aw_iconst (v := (2 : Int32)) dX12_declare_129 (by decide) ?_
  refine aw_aload_n 0 dX12_declare_130 rfl rfl ?_
  refine aw_getf (v := .ref 6) fX12_25 0 rfl rfl dX12_declare_131 ?_
  refine aw_aload_n 0 dX12_declare_134 rfl rfl ?_
  refine aw_getf (v := .ref 7) fX12_28 0 rfl rfl dX12_declare_135 ?_
  refine aw_iload_n 1 dX12_declare_138 rfl rfl ?_
  refine aw_iald 7 (n := 9000) (f := σ.1.1.2.2.2.2) rfl h.1 dX12_declare_139 ?_
  have h := h.2
  refine aw_iald 6 (n := 9000) (f := σ.1.1.2.2.2.1) rfl h.1 dX12_declare_140 ?_
  have h := h.2
  refine aw_callVT (mc1 := 0) (ms1 := 0) (mc := 0) (ms := 0) (st := []) (q := 0) (As := [.int (2 : Int32), .int (σ.1.1.2.2.2.1 ((σ.1.1.2.2.2.2 (x3).toNatClampNeg)).toNatClampNeg)]) lX12_201 insX12_wrong selX12_wrong ⟨TX12, 50, rfl⟩ (by omega) (kX12_wrong (d := 0) (by omega) h) (Nat.le_of_ble_eq_true rfl) rfl rfl rfl dX12_declare_141 rfl (fun _ _ hh => ?_)
  obtain ⟨τ4, rfl, rfl, h⟩ := hh
  refine aw_stk (st' := []) rfl ?_
  exact aw_vret rfl dX12_declare_144 ⟨τ4, rfl, rfl, h⟩
def wp_X12_declare_314  (post : WSX12 → Prop) (σ : WSX12) (x5 : Int32) : Prop :=
  (∀ y10 : Int32, y10 = (σ.1.2.2.2.1.1 + x5) → (∀ y11 : Int32, y11 = (σ.1.2.1.2.1 + (1 : Int32)) → post ((σ.1.1, ((σ.1.2.1.1, (y11, σ.1.2.1.2.2)), (σ.1.2.2.1, ((y10, σ.1.2.2.2.1.2), σ.1.2.2.2.2)))), σ.2)))
theorem aw_X12_declare_314 {G : aw_G} {d : Nat} (hd : 2 ≤ d) {post : WSX12 → Prop}  {σ : WSX12} {x5 : Int32} (h : wp_X12_declare_314  post σ x5) : AW G MX12_declare d 0 0 25 (aw_pv (wX12 G) post) 314 [(0, .ref 0), (5, .int x5)] [] (wX12 G σ) := by
  unfold wp_X12_declare_314 at h
  refine aw_aload_n 0 dX12_declare_314 rfl rfl ?_
  refine aw_dup dX12_declare_315 rfl ?_
  refine aw_getf (v := .int σ.1.2.2.2.1.1) fX12_207 0 rfl rfl dX12_declare_316 ?_
  refine aw_iload 1 dX12_declare_319 rfl ?_
  refine aw_iadd dX12_declare_321 ?_
  refine aw_topi (fun y10 ey10 => ?_)
  have h := h y10 ey10
  refine aw_putf fX12_207 0 (w' := (wX12 G ((σ.1.1, (σ.1.2.1, (σ.1.2.2.1, ((y10, σ.1.2.2.2.1.2), σ.1.2.2.2.2)))), σ.2))) rfl (fun _ => ⟨rfl, rfl⟩) (Nat.le_of_ble_eq_true rfl) rfl dX12_declare_322 ?_
  refine aw_aload_n 0 dX12_declare_325 rfl rfl ?_
  refine aw_dup dX12_declare_326 rfl ?_
  refine aw_getf (v := .int σ.1.2.1.2.1) fX12_195 0 rfl rfl dX12_declare_327 ?_
  refine aw_iconst (v := (1 : Int32)) dX12_declare_330 (by decide) ?_
  refine aw_iadd dX12_declare_331 ?_
  refine aw_topi (fun y11 ey11 => ?_)
  have h := h y11 ey11
  refine aw_putf fX12_195 0 (w' := (wX12 G ((σ.1.1, ((σ.1.2.1.1, (y11, σ.1.2.1.2.2)), (σ.1.2.2.1, ((y10, σ.1.2.2.2.1.2), σ.1.2.2.2.2)))), σ.2))) rfl (fun _ => ⟨rfl, rfl⟩) (Nat.le_of_ble_eq_true rfl) rfl dX12_declare_332 ?_
  exact aw_vret rfl dX12_declare_335 ⟨((σ.1.1, ((σ.1.2.1.1, (y11, σ.1.2.1.2.2)), (σ.1.2.2.1, ((y10, σ.1.2.2.2.1.2), σ.1.2.2.2.2)))), σ.2), rfl, rfl, h⟩
def wp_X12_declare_304 (rec_247 : WSX12 × Int32 × Int32 × Int32 × Int32 → Prop) (post : WSX12 → Prop) (σ : WSX12) (x1 : Int32) (x2 : Int32) (x5 : Int32) (x6 : Int32) (s0 : Int32) (s1 : Int32) : Prop :=
  (∀ y14 : Int32, y14 = (s1 + s0) → rec_247 (((σ.1.1, (σ.1.2.1, (σ.1.2.2.1, (σ.1.2.2.2.1, (y14, σ.1.2.2.2.2.2))))), σ.2), x1, x2, x5, (x6 + 1)))
theorem aw_X12_declare_304 {G : aw_G} {d : Nat} (hd : 2 ≤ d) {rec_247 : WSX12 × Int32 × Int32 × Int32 × Int32 → Prop} {post : WSX12 → Prop} (hrec_247 : ∀ a : WSX12 × Int32 × Int32 × Int32 × Int32, rec_247 a → AW G MX12_declare d 0 0 25 (aw_pv (wX12 G) post) 247 [(0, .ref 0), (1, .int a.2.1), (2, .int a.2.2.1), (5, .int a.2.2.2.1), (6, .int a.2.2.2.2)] [] (wX12 G a.1)) {σ : WSX12} {x1 : Int32} {x2 : Int32} {x5 : Int32} {x6 : Int32} {s0 : Int32} {s1 : Int32} (h : wp_X12_declare_304 rec_247 post σ x1 x2 x5 x6 s0 s1) : AW G MX12_declare d 0 0 25 (aw_pv (wX12 G) post) 304 [(0, .ref 0), (1, .int x1), (2, .int x2), (5, .int x5), (6, .int x6)] [.int s0, .int s1, .ref 0] (wX12 G σ) := by
  unfold wp_X12_declare_304 at h
  refine aw_iadd dX12_declare_304 ?_
  refine aw_topi (fun y14 ey14 => ?_)
  have h := h y14 ey14
  refine aw_putf fX12_213 0 (w' := (wX12 G ((σ.1.1, (σ.1.2.1, (σ.1.2.2.1, (σ.1.2.2.2.1, (y14, σ.1.2.2.2.2.2))))), σ.2))) rfl (fun _ => ⟨rfl, rfl⟩) (Nat.le_of_ble_eq_true rfl) rfl dX12_declare_305 ?_
  refine aw_iinc 4 (v := (x6 + 1)) (lv' := [(6, .int (x6 + 1)), (0, .ref 0), (1, .int x1), (2, .int x2), (5, .int x5)]) dX12_declare_308 rfl rfl (by decide) rfl ?_
  refine aw_goto 247 dX12_declare_311 (by decide) ?_
  refine aw_lvsub (lv' := [(0, .ref 0), (1, .int x1), (2, .int x2), (5, .int x5), (6, .int (x6 + 1))]) [1, 2, 3, 4, 0] rfl ?_
  exact hrec_247 (((σ.1.1, (σ.1.2.1, (σ.1.2.2.1, (σ.1.2.2.2.1, (y14, σ.1.2.2.2.2.2))))), σ.2), x1, x2, x5, (x6 + 1)) h
def wb_X12_declare_247  (post : WSX12 → Prop) (rec_247 : WSX12 × Int32 × Int32 × Int32 × Int32 → Prop) (σ : WSX12) (x1 : Int32) (x2 : Int32) (x5 : Int32) (x6 : Int32) : Prop :=
  ((x5 ≤ x6 → wp_X12_declare_314  post σ x5) ∧ (¬ x5 ≤ x6 → ((x2 = 0 → wp_X12_declare_314  post σ x5) ∧ (¬ x2 = 0 → (vp_in σ.1.2.2.2.1.2 200 ∧ ∀ y12 : Nat → Int32, y12 = upd σ.1.2.2.2.2.2 (σ.1.2.2.2.1.2).toNatClampNeg (σ.1.2.2.2.1.1 + x6) → (∀ y13 : Int32, y13 = (σ.1.2.2.2.1.2 + (1 : Int32)) → (vp_in x1 9000 ∧ ((¬ (σ.1.1.2.2.1 (x1).toNatClampNeg) = (3 : Int32) → wp_X12_declare_304 rec_247 post ((σ.1.1, (σ.1.2.1, (σ.1.2.2.1, ((σ.1.2.2.2.1.1, y13), (σ.1.2.2.2.2.1, y12))))), σ.2) x1 x2 x5 x6 (0 : Int32) σ.1.2.2.2.2.1) ∧ ((σ.1.1.2.2.1 (x1).toNatClampNeg) = (3 : Int32) → wp_X12_declare_304 rec_247 post ((σ.1.1, (σ.1.2.1, (σ.1.2.2.1, ((σ.1.2.2.2.1.1, y13), (σ.1.2.2.2.2.1, y12))))), σ.2) x1 x2 x5 x6 (1 : Int32) σ.1.2.2.2.2.1)))))))))
def wp_X12_declare_247  (post : WSX12 → Prop) (n : Nat) (σ : WSX12) (x1 : Int32) (x2 : Int32) (x5 : Int32) (x6 : Int32) : Prop := aw_loop (fun r (a : WSX12 × Int32 × Int32 × Int32 × Int32) => wb_X12_declare_247  post r a.1 a.2.1 a.2.2.1 a.2.2.2.1 a.2.2.2.2) n (σ, x1, x2, x5, x6)
theorem aw_X12_declare_247 {G : aw_G} {d : Nat} (hd : 2 ≤ d) {post : WSX12 → Prop}  : ∀ (n : Nat) (σ : WSX12) (x1 : Int32) (x2 : Int32) (x5 : Int32) (x6 : Int32), wp_X12_declare_247  post n σ x1 x2 x5 x6 → AW G MX12_declare d 0 0 25 (aw_pv (wX12 G) post) 247 [(0, .ref 0), (1, .int x1), (2, .int x2), (5, .int x5), (6, .int x6)] [] (wX12 G σ) := by
  intro n
  induction n with
  | zero => intro σ x1 x2 x5 x6 h; exact h.elim
  | succ n ih =>
    intro σ x1 x2 x5 x6 h
    have hrec_247 : ∀ a : WSX12 × Int32 × Int32 × Int32 × Int32, aw_loop (fun r (a : WSX12 × Int32 × Int32 × Int32 × Int32) => wb_X12_declare_247  post r a.1 a.2.1 a.2.2.1 a.2.2.2.1 a.2.2.2.2) n a → AW G MX12_declare d 0 0 25 (aw_pv (wX12 G) post) 247 [(0, .ref 0), (1, .int a.2.1), (2, .int a.2.2.1), (5, .int a.2.2.2.1), (6, .int a.2.2.2.2)] [] (wX12 G a.1) := fun a h => ih a.1 a.2.1 a.2.2.1 a.2.2.2.1 a.2.2.2.2 h
    have h : wb_X12_declare_247  post (aw_loop (fun r (a : WSX12 × Int32 × Int32 × Int32 × Int32) => wb_X12_declare_247  post r a.1 a.2.1 a.2.2.1 a.2.2.2.1 a.2.2.2.2) n) σ x1 x2 x5 x6 := h
    unfold wb_X12_declare_247 at h
    refine aw_iload 4 dX12_declare_247 rfl ?_
    refine aw_iload 3 dX12_declare_249 rfl ?_
    refine aw_icmp_ge 314 dX12_declare_251 (by decide) (fun c17 => ?_) (fun c17 => ?_)
    · have h := h.1 c17
      refine aw_lvsub (lv' := [(0, .ref 0), (5, .int x5)]) [0, 3] rfl ?_
      exact aw_X12_declare_314 hd  h
    · have h := h.2 c17
      refine aw_iload_n 2 dX12_declare_254 rfl rfl ?_
      refine aw_if_eq 314 dX12_declare_255 (by decide) (fun c16 => ?_) (fun c16 => ?_)
      · have h := h.1 c16
        refine aw_lvsub (lv' := [(0, .ref 0), (5, .int x5)]) [0, 3] rfl ?_
        exact aw_X12_declare_314 hd  h
      · have h := h.2 c16
        refine aw_aload_n 0 dX12_declare_258 rfl rfl ?_
        refine aw_getf (v := .ref 16) fX12_56 0 rfl rfl dX12_declare_259 ?_
        refine aw_aload_n 0 dX12_declare_262 rfl rfl ?_
        refine aw_getf (v := .int σ.1.2.2.2.1.2) fX12_210 0 rfl rfl dX12_declare_263 ?_
        refine aw_aload_n 0 dX12_declare_266 rfl rfl ?_
        refine aw_getf (v := .int σ.1.2.2.2.1.1) fX12_207 0 rfl rfl dX12_declare_267 ?_
        refine aw_iload 4 dX12_declare_270 rfl ?_
        refine aw_iadd dX12_declare_272 ?_
        refine aw_iast 16 (n := 200) (f := σ.1.2.2.2.2.2) (w' := fun y12 => (wX12 G ((σ.1.1, (σ.1.2.1, (σ.1.2.2.1, (σ.1.2.2.2.1, (σ.1.2.2.2.2.1, y12))))), σ.2))) rfl h.1 (fun _ => rfl) dX12_declare_273 (fun y12 ey12 => ?_)
        have h := h.2 y12 ey12
        refine aw_aload_n 0 dX12_declare_274 rfl rfl ?_
        refine aw_dup dX12_declare_275 rfl ?_
        refine aw_getf (v := .int σ.1.2.2.2.1.2) fX12_210 0 rfl rfl dX12_declare_276 ?_
        refine aw_iconst (v := (1 : Int32)) dX12_declare_279 (by decide) ?_
        refine aw_iadd dX12_declare_280 ?_
        refine aw_topi (fun y13 ey13 => ?_)
        have h := h y13 ey13
        refine aw_putf fX12_210 0 (w' := (wX12 G ((σ.1.1, (σ.1.2.1, (σ.1.2.2.1, ((σ.1.2.2.2.1.1, y13), (σ.1.2.2.2.2.1, y12))))), σ.2))) rfl (fun _ => ⟨rfl, rfl⟩) (Nat.le_of_ble_eq_true rfl) rfl dX12_declare_281 ?_
        refine aw_aload_n 0 dX12_declare_284 rfl rfl ?_
        refine aw_dup dX12_declare_285 rfl ?_
        refine aw_getf (v := .int σ.1.2.2.2.2.1) fX12_213 0 rfl rfl dX12_declare_286 ?_
        refine aw_aload_n 0 dX12_declare_289 rfl rfl ?_
        refine aw_getf (v := .ref 5) fX12_22 0 rfl rfl dX12_declare_290 ?_
        refine aw_iload_n 1 dX12_declare_293 rfl rfl ?_
        refine aw_iald 5 (n := 9000) (f := σ.1.1.2.2.1) rfl h.1 dX12_declare_294 ?_
        have h := h.2
        refine aw_iconst (v := (3 : Int32)) dX12_declare_295 (by decide) ?_
        refine aw_icmp_ne 303 dX12_declare_296 (by decide) (fun c15 => ?_) (fun c15 => ?_)
        · have h := h.1 c15
          refine aw_iconst (v := (0 : Int32)) dX12_declare_303 (by decide) ?_
          exact aw_X12_declare_304 hd hrec_247 h
        · have h := h.2 c15
          refine aw_iconst (v := (1 : Int32)) dX12_declare_299 (by decide) ?_
          refine aw_goto 304 dX12_declare_300 (by decide) ?_
          exact aw_X12_declare_304 hd hrec_247 h
def wp_X12_declare_243  (post : WSX12 → Prop) (σ : WSX12) (x1 : Int32) (x2 : Int32) (x5 : Int32) (s0 : Int32) (s1 : Int32) : Prop :=
  (vp_in s1 1500 ∧ ∀ y9 : Nat → Int32, y9 = upd σ.1.2.2.1.2.2 (s1).toNatClampNeg (vp_nar .boolean s0) → (∃ n18, wp_X12_declare_247  post n18 ((σ.1.1, (σ.1.2.1, ((σ.1.2.2.1.1, (σ.1.2.2.1.2.1, y9)), σ.1.2.2.2))), σ.2) x1 x2 x5 (0 : Int32)))
theorem aw_X12_declare_243 {G : aw_G} {d : Nat} (hd : 2 ≤ d) {post : WSX12 → Prop}  {σ : WSX12} {x1 : Int32} {x2 : Int32} {x5 : Int32} {s0 : Int32} {s1 : Int32} (h : wp_X12_declare_243  post σ x1 x2 x5 s0 s1) : AW G MX12_declare d 0 0 25 (aw_pv (wX12 G) post) 243 [(0, .ref 0), (1, .int x1), (2, .int x2), (5, .int x5)] [.int s0, .int s1, .ref 15] (wX12 G σ) := by
  unfold wp_X12_declare_243 at h
  refine aw_zast 15 (n := 1500) (f := σ.1.2.2.1.2.2) (w' := fun y9 => (wX12 G ((σ.1.1, (σ.1.2.1, ((σ.1.2.2.1.1, (σ.1.2.2.1.2.1, y9)), σ.1.2.2.2))), σ.2))) rfl h.1 (fun _ => rfl) dX12_declare_243 (fun y9 ey9 => ?_)
  have h := h.2 y9 ey9
  refine aw_iconst (v := (0 : Int32)) dX12_declare_244 (by decide) ?_
  refine aw_istore (lv' := [(6, .int (0 : Int32)), (0, .ref 0), (1, .int x1), (2, .int x2), (5, .int x5)]) dX12_declare_245 (by decide) rfl ?_
  refine aw_lvsub (lv' := [(0, .ref 0), (1, .int x1), (2, .int x2), (5, .int x5), (6, .int (0 : Int32))]) [1, 2, 3, 4, 0] rfl ?_
  obtain ⟨n18, h⟩ := h
  exact aw_X12_declare_247 hd  n18 ((σ.1.1, (σ.1.2.1, ((σ.1.2.2.1.1, (σ.1.2.2.1.2.1, y9)), σ.1.2.2.2))), σ.2) x1 x2 x5 (0 : Int32) h
def wp_X12_declare_113  (post : WSX12 → Prop) (σ : WSX12) (x1 : Int32) (x2 : Int32) (x3 : Int32) (x4 : Int32) (s0 : Int32) : Prop :=
  ((s0 < (1 : Int32) → wp_X12_declare_128  post σ x3) ∧ (¬ s0 < (1 : Int32) → ((s0 ≤ (64 : Int32) → (((σ.1.2.2.2.1.1 + s0) ≤ (200 : Int32) → (vp_in x3 9000 ∧ (vp_in σ.1.2.1.2.1 1500 ∧ ∀ y5 : Nat → Int32, y5 = upd σ.1.2.1.2.2.1 (σ.1.2.1.2.1).toNatClampNeg (σ.1.1.2.2.2.1 (x3).toNatClampNeg) → (vp_in σ.1.2.1.2.1 1500 ∧ ∀ y6 : Nat → Int32, y6 = upd σ.1.2.1.2.2.2 (σ.1.2.1.2.1).toNatClampNeg s0 → (vp_in σ.1.2.1.2.1 1500 ∧ ∀ y7 : Nat → Int32, y7 = upd σ.1.2.2.1.1 (σ.1.2.1.2.1).toNatClampNeg σ.1.2.2.2.1.1 → (vp_in σ.1.2.1.2.1 1500 ∧ ∀ y8 : Nat → Int32, y8 = upd σ.1.2.2.1.2.1 (σ.1.2.1.2.1).toNatClampNeg (vp_nar .boolean x4) → (vp_in x1 9000 ∧ ((¬ (σ.1.1.2.2.1 (x1).toNatClampNeg) = (4 : Int32) → wp_X12_declare_243  post ((σ.1.1, ((σ.1.2.1.1, (σ.1.2.1.2.1, (y5, y6))), ((y7, (y8, σ.1.2.2.1.2.2)), σ.1.2.2.2))), σ.2) x1 x2 s0 (0 : Int32) σ.1.2.1.2.1) ∧ ((σ.1.1.2.2.1 (x1).toNatClampNeg) = (4 : Int32) → wp_X12_declare_243  post ((σ.1.1, ((σ.1.2.1.1, (σ.1.2.1.2.1, (y5, y6))), ((y7, (y8, σ.1.2.2.1.2.2)), σ.1.2.2.2))), σ.2) x1 x2 s0 (1 : Int32) σ.1.2.1.2.1))))))))) ∧ (¬ (σ.1.2.2.2.1.1 + s0) ≤ (200 : Int32) → (vp_in x3 9000 ∧ wp_X12_wrong σ (2 : Int32) (σ.1.1.2.2.2.1 (x3).toNatClampNeg) (fun τ21 => post τ21))))) ∧ (¬ s0 ≤ (64 : Int32) → wp_X12_declare_128  post σ x3))))
theorem aw_X12_declare_113 {G : aw_G} {d : Nat} (hd : 2 ≤ d) {post : WSX12 → Prop}  {σ : WSX12} {x1 : Int32} {x2 : Int32} {x3 : Int32} {x4 : Int32} {s0 : Int32} (h : wp_X12_declare_113  post σ x1 x2 x3 x4 s0) : AW G MX12_declare d 0 0 25 (aw_pv (wX12 G) post) 113 [(0, .ref 0), (1, .int x1), (2, .int x2), (3, .int x3), (4, .int x4)] [.int s0] (wX12 G σ) := by
  unfold wp_X12_declare_113 at h
  refine aw_istore (lv' := [(5, .int s0), (0, .ref 0), (1, .int x1), (2, .int x2), (3, .int x3), (4, .int x4)]) dX12_declare_113 (by decide) rfl ?_
  refine aw_iload 0 dX12_declare_115 rfl ?_
  refine aw_iconst (v := (1 : Int32)) dX12_declare_117 (by decide) ?_
  refine aw_icmp_lt 128 dX12_declare_118 (by decide) (fun c24 => ?_) (fun c24 => ?_)
  · have h := h.1 c24
    refine aw_lvsub (lv' := [(0, .ref 0), (3, .int x3)]) [1, 4] rfl ?_
    exact aw_X12_declare_128 hd  h
  · have h := h.2 c24
    refine aw_iload 0 dX12_declare_121 rfl ?_
    refine aw_bipush (v := (64 : Int32)) dX12_declare_123 (by decide) ?_
    refine aw_icmp_le 145 dX12_declare_125 (by decide) (fun c23 => ?_) (fun c23 => ?_)
    · have h := h.1 c23
      refine aw_aload_n 1 dX12_declare_145 rfl rfl ?_
      refine aw_getf (v := .int σ.1.2.2.2.1.1) fX12_207 0 rfl rfl dX12_declare_146 ?_
      refine aw_iload 0 dX12_declare_149 rfl ?_
      refine aw_iadd dX12_declare_151 ?_
      refine aw_sipush (v := (200 : Int32)) dX12_declare_152 (by decide) ?_
      refine aw_icmp_le 170 dX12_declare_155 (by decide) (fun c22 => ?_) (fun c22 => ?_)
      · have h := h.1 c22
        refine aw_aload_n 1 dX12_declare_170 rfl rfl ?_
        refine aw_getf (v := .ref 11) fX12_41 0 rfl rfl dX12_declare_171 ?_
        refine aw_aload_n 1 dX12_declare_174 rfl rfl ?_
        refine aw_getf (v := .int σ.1.2.1.2.1) fX12_195 0 rfl rfl dX12_declare_175 ?_
        refine aw_aload_n 1 dX12_declare_178 rfl rfl ?_
        refine aw_getf (v := .ref 6) fX12_25 0 rfl rfl dX12_declare_179 ?_
        refine aw_iload_n 4 dX12_declare_182 rfl rfl ?_
        refine aw_iald 6 (n := 9000) (f := σ.1.1.2.2.2.1) rfl h.1 dX12_declare_183 ?_
        have h := h.2
        refine aw_iast 11 (n := 1500) (f := σ.1.2.1.2.2.1) (w' := fun y5 => (wX12 G ((σ.1.1, ((σ.1.2.1.1, (σ.1.2.1.2.1, (y5, σ.1.2.1.2.2.2))), σ.1.2.2)), σ.2))) rfl h.1 (fun _ => rfl) dX12_declare_184 (fun y5 ey5 => ?_)
        have h := h.2 y5 ey5
        refine aw_aload_n 1 dX12_declare_185 rfl rfl ?_
        refine aw_getf (v := .ref 12) fX12_44 0 rfl rfl dX12_declare_186 ?_
        refine aw_aload_n 1 dX12_declare_189 rfl rfl ?_
        refine aw_getf (v := .int σ.1.2.1.2.1) fX12_195 0 rfl rfl dX12_declare_190 ?_
        refine aw_iload 0 dX12_declare_193 rfl ?_
        refine aw_iast 12 (n := 1500) (f := σ.1.2.1.2.2.2) (w' := fun y6 => (wX12 G ((σ.1.1, ((σ.1.2.1.1, (σ.1.2.1.2.1, (y5, y6))), σ.1.2.2)), σ.2))) rfl h.1 (fun _ => rfl) dX12_declare_195 (fun y6 ey6 => ?_)
        have h := h.2 y6 ey6
        refine aw_aload_n 1 dX12_declare_196 rfl rfl ?_
        refine aw_getf (v := .ref 13) fX12_47 0 rfl rfl dX12_declare_197 ?_
        refine aw_aload_n 1 dX12_declare_200 rfl rfl ?_
        refine aw_getf (v := .int σ.1.2.1.2.1) fX12_195 0 rfl rfl dX12_declare_201 ?_
        refine aw_aload_n 1 dX12_declare_204 rfl rfl ?_
        refine aw_getf (v := .int σ.1.2.2.2.1.1) fX12_207 0 rfl rfl dX12_declare_205 ?_
        refine aw_iast 13 (n := 1500) (f := σ.1.2.2.1.1) (w' := fun y7 => (wX12 G ((σ.1.1, ((σ.1.2.1.1, (σ.1.2.1.2.1, (y5, y6))), ((y7, σ.1.2.2.1.2), σ.1.2.2.2))), σ.2))) rfl h.1 (fun _ => rfl) dX12_declare_208 (fun y7 ey7 => ?_)
        have h := h.2 y7 ey7
        refine aw_aload_n 1 dX12_declare_209 rfl rfl ?_
        refine aw_getf (v := .ref 14) fX12_50 0 rfl rfl dX12_declare_210 ?_
        refine aw_aload_n 1 dX12_declare_213 rfl rfl ?_
        refine aw_getf (v := .int σ.1.2.1.2.1) fX12_195 0 rfl rfl dX12_declare_214 ?_
        refine aw_iload 5 dX12_declare_217 rfl ?_
        refine aw_zast 14 (n := 1500) (f := σ.1.2.2.1.2.1) (w' := fun y8 => (wX12 G ((σ.1.1, ((σ.1.2.1.1, (σ.1.2.1.2.1, (y5, y6))), ((y7, (y8, σ.1.2.2.1.2.2)), σ.1.2.2.2))), σ.2))) rfl h.1 (fun _ => rfl) dX12_declare_219 (fun y8 ey8 => ?_)
        have h := h.2 y8 ey8
        refine aw_aload_n 1 dX12_declare_220 rfl rfl ?_
        refine aw_getf (v := .ref 15) fX12_53 0 rfl rfl dX12_declare_221 ?_
        refine aw_aload_n 1 dX12_declare_224 rfl rfl ?_
        refine aw_getf (v := .int σ.1.2.1.2.1) fX12_195 0 rfl rfl dX12_declare_225 ?_
        refine aw_aload_n 1 dX12_declare_228 rfl rfl ?_
        refine aw_getf (v := .ref 5) fX12_22 0 rfl rfl dX12_declare_229 ?_
        refine aw_iload_n 2 dX12_declare_232 rfl rfl ?_
        refine aw_iald 5 (n := 9000) (f := σ.1.1.2.2.1) rfl h.1 dX12_declare_233 ?_
        have h := h.2
        refine aw_iconst (v := (4 : Int32)) dX12_declare_234 (by decide) ?_
        refine aw_icmp_ne 242 dX12_declare_235 (by decide) (fun c19 => ?_) (fun c19 => ?_)
        · have h := h.1 c19
          refine aw_iconst (v := (0 : Int32)) dX12_declare_242 (by decide) ?_
          refine aw_lvsub (lv' := [(0, .ref 0), (1, .int x1), (2, .int x2), (5, .int s0)]) [1, 2, 3, 0] rfl ?_
          exact aw_X12_declare_243 hd  h
        · have h := h.2 c19
          refine aw_iconst (v := (1 : Int32)) dX12_declare_238 (by decide) ?_
          refine aw_goto 243 dX12_declare_239 (by decide) ?_
          refine aw_lvsub (lv' := [(0, .ref 0), (1, .int x1), (2, .int x2), (5, .int s0)]) [1, 2, 3, 0] rfl ?_
          exact aw_X12_declare_243 hd  h
      · have h := h.2 c22
        refine aw_aload_n 1 dX12_declare_158 rfl rfl ?_
        refine aw_iconst (v := (2 : Int32)) dX12_declare_159 (by decide) ?_
        refine aw_aload_n 1 dX12_declare_160 rfl rfl ?_
        refine aw_getf (v := .ref 6) fX12_25 0 rfl rfl dX12_declare_161 ?_
        refine aw_iload_n 4 dX12_declare_164 rfl rfl ?_
        refine aw_iald 6 (n := 9000) (f := σ.1.1.2.2.2.1) rfl h.1 dX12_declare_165 ?_
        have h := h.2
        refine aw_callVT (mc1 := 0) (ms1 := 0) (mc := 0) (ms := 0) (st := []) (q := 0) (As := [.int (2 : Int32), .int (σ.1.1.2.2.2.1 (x3).toNatClampNeg)]) lX12_201 insX12_wrong selX12_wrong ⟨TX12, 50, rfl⟩ (by omega) (kX12_wrong (d := 0) (by omega) h) (Nat.le_of_ble_eq_true rfl) rfl rfl rfl dX12_declare_166 rfl (fun _ _ hh => ?_)
        obtain ⟨τ21, rfl, rfl, h⟩ := hh
        refine aw_stk (st' := []) rfl ?_
        exact aw_vret rfl dX12_declare_169 ⟨τ21, rfl, rfl, h⟩
    · have h := h.2 c23
      refine aw_lvsub (lv' := [(0, .ref 0), (3, .int x3)]) [1, 4] rfl ?_
      exact aw_X12_declare_128 hd  h
def wp_X12_declare_87  (post : WSX12 → Prop) (σ : WSX12) (x1 : Int32) (x2 : Int32) (x3 : Int32) (s0 : Int32) : Prop :=
  ((s0 = 0 → wp_X12_declare_113  post σ x1 x2 x3 s0 (1 : Int32)) ∧ (¬ s0 = 0 → (vp_in x3 9000 ∧ (vp_in (σ.1.1.2.2.2.2 (x3).toNatClampNeg) 9000 ∧ wp_X12_number σ (σ.1.1.2.2.2.1 ((σ.1.1.2.2.2.2 (x3).toNatClampNeg)).toNatClampNeg) (fun r25 τ26 => wp_X12_declare_113  post τ26 x1 x2 x3 s0 r25)))))
theorem aw_X12_declare_87 {G : aw_G} {d : Nat} (hd : 2 ≤ d) {post : WSX12 → Prop}  {σ : WSX12} {x1 : Int32} {x2 : Int32} {x3 : Int32} {s0 : Int32} (h : wp_X12_declare_87  post σ x1 x2 x3 s0) : AW G MX12_declare d 0 0 25 (aw_pv (wX12 G) post) 87 [(0, .ref 0), (1, .int x1), (2, .int x2), (3, .int x3)] [.int s0] (wX12 G σ) := by
  unfold wp_X12_declare_87 at h
  refine aw_istore (lv' := [(4, .int s0), (0, .ref 0), (1, .int x1), (2, .int x2), (3, .int x3)]) dX12_declare_87 (by decide) rfl ?_
  refine aw_iload 0 dX12_declare_89 rfl ?_
  refine aw_if_eq 112 dX12_declare_91 (by decide) (fun c27 => ?_) (fun c27 => ?_)
  · have h := h.1 c27
    refine aw_iconst (v := (1 : Int32)) dX12_declare_112 (by decide) ?_
    refine aw_lvsub (lv' := [(0, .ref 0), (1, .int x1), (2, .int x2), (3, .int x3), (4, .int s0)]) [1, 2, 3, 4, 0] rfl ?_
    exact aw_X12_declare_113 hd  h
  · have h := h.2 c27
    refine aw_aload_n 1 dX12_declare_94 rfl rfl ?_
    refine aw_aload_n 1 dX12_declare_95 rfl rfl ?_
    refine aw_getf (v := .ref 6) fX12_25 0 rfl rfl dX12_declare_96 ?_
    refine aw_aload_n 1 dX12_declare_99 rfl rfl ?_
    refine aw_getf (v := .ref 7) fX12_28 0 rfl rfl dX12_declare_100 ?_
    refine aw_iload_n 4 dX12_declare_103 rfl rfl ?_
    refine aw_iald 7 (n := 9000) (f := σ.1.1.2.2.2.2) rfl h.1 dX12_declare_104 ?_
    have h := h.2
    refine aw_iald 6 (n := 9000) (f := σ.1.1.2.2.2.1) rfl h.1 dX12_declare_105 ?_
    have h := h.2
    refine aw_callVT (mc1 := 0) (ms1 := 0) (mc := 0) (ms := 0) (st := []) (q := 0) (As := [.int (σ.1.1.2.2.2.1 ((σ.1.1.2.2.2.2 (x3).toNatClampNeg)).toNatClampNeg)]) lX12_204 insX12_number selX12_number ⟨TX12, 50, rfl⟩ (by omega) (kX12_number (d := 1) (by omega) h) (Nat.le_of_ble_eq_true rfl) rfl rfl rfl dX12_declare_106 rfl (fun _ _ hh => ?_)
    obtain ⟨r25, τ26, rfl, rfl, h⟩ := hh
    refine aw_stk (st' := [.int r25]) rfl ?_
    refine aw_goto 113 dX12_declare_109 (by decide) ?_
    refine aw_lvsub (lv' := [(0, .ref 0), (1, .int x1), (2, .int x2), (3, .int x3), (4, .int s0)]) [1, 2, 3, 4, 0] rfl ?_
    exact aw_X12_declare_113 hd  h
def wp_X12_declare_45  (post : WSX12 → Prop) (σ : WSX12) (x1 : Int32) (x2 : Int32) (s0 : Int32) : Prop :=
  (vp_in s0 9000 ∧ wp_X12_find σ (σ.1.1.2.2.2.1 (s0).toNatClampNeg) (fun r1 τ2 => ((r1 = ((-1) : Int32) → (vp_in s0 9000 ∧ (((τ2.1.1.2.2.2.2 (s0).toNatClampNeg) = ((-1) : Int32) → wp_X12_declare_87  post τ2 x1 x2 s0 (0 : Int32)) ∧ (¬ (τ2.1.1.2.2.2.2 (s0).toNatClampNeg) = ((-1) : Int32) → wp_X12_declare_87  post τ2 x1 x2 s0 (1 : Int32))))) ∧ (¬ r1 = ((-1) : Int32) → (vp_in s0 9000 ∧ wp_X12_wrong τ2 (1 : Int32) (τ2.1.1.2.2.2.1 (s0).toNatClampNeg) (fun τ30 => post τ30))))))
theorem aw_X12_declare_45 {G : aw_G} {d : Nat} (hd : 2 ≤ d) {post : WSX12 → Prop}  {σ : WSX12} {x1 : Int32} {x2 : Int32} {s0 : Int32} (h : wp_X12_declare_45  post σ x1 x2 s0) : AW G MX12_declare d 0 0 25 (aw_pv (wX12 G) post) 45 [(0, .ref 0), (1, .int x1), (2, .int x2)] [.int s0] (wX12 G σ) := by
  unfold wp_X12_declare_45 at h
  refine aw_istore_n (lv' := [(3, .int s0), (0, .ref 0), (1, .int x1), (2, .int x2)]) dX12_declare_45 rfl (by decide) rfl ?_
  refine aw_aload_n 1 dX12_declare_46 rfl rfl ?_
  refine aw_aload_n 1 dX12_declare_47 rfl rfl ?_
  refine aw_getf (v := .ref 6) fX12_25 0 rfl rfl dX12_declare_48 ?_
  refine aw_iload_n 0 dX12_declare_51 rfl rfl ?_
  refine aw_iald 6 (n := 9000) (f := σ.1.1.2.2.2.1) rfl h.1 dX12_declare_52 ?_
  have h := h.2
  refine aw_callVT (mc1 := 0) (ms1 := 0) (mc := 0) (ms := 0) (st := []) (q := 0) (As := [.int (σ.1.1.2.2.2.1 (s0).toNatClampNeg)]) lX12_198 insX12_find selX12_find ⟨TX12, 50, rfl⟩ (by omega) (kX12_find (d := 1) (by omega) h) (Nat.le_of_ble_eq_true rfl) rfl rfl rfl dX12_declare_53 rfl (fun _ _ hh => ?_)
  obtain ⟨r1, τ2, rfl, rfl, h⟩ := hh
  refine aw_stk (st' := [.int r1]) rfl ?_
  refine aw_iconst (v := ((-1) : Int32)) dX12_declare_56 (by decide) ?_
  refine aw_icmp_eq 72 dX12_declare_57 (by decide) (fun c31 => ?_) (fun c31 => ?_)
  · have h := h.1 c31
    refine aw_aload_n 1 dX12_declare_72 rfl rfl ?_
    refine aw_getf (v := .ref 7) fX12_28 0 rfl rfl dX12_declare_73 ?_
    refine aw_iload_n 0 dX12_declare_76 rfl rfl ?_
    refine aw_iald 7 (n := 9000) (f := τ2.1.1.2.2.2.2) rfl h.1 dX12_declare_77 ?_
    have h := h.2
    refine aw_iconst (v := ((-1) : Int32)) dX12_declare_78 (by decide) ?_
    refine aw_icmp_eq 86 dX12_declare_79 (by decide) (fun c28 => ?_) (fun c28 => ?_)
    · have h := h.1 c28
      refine aw_iconst (v := (0 : Int32)) dX12_declare_86 (by decide) ?_
      refine aw_lvsub (lv' := [(0, .ref 0), (1, .int x1), (2, .int x2), (3, .int s0)]) [1, 2, 3, 0] rfl ?_
      exact aw_X12_declare_87 hd  h
    · have h := h.2 c28
      refine aw_iconst (v := (1 : Int32)) dX12_declare_82 (by decide) ?_
      refine aw_goto 87 dX12_declare_83 (by decide) ?_
      refine aw_lvsub (lv' := [(0, .ref 0), (1, .int x1), (2, .int x2), (3, .int s0)]) [1, 2, 3, 0] rfl ?_
      exact aw_X12_declare_87 hd  h
  · have h := h.2 c31
    refine aw_aload_n 1 dX12_declare_60 rfl rfl ?_
    refine aw_iconst (v := (1 : Int32)) dX12_declare_61 (by decide) ?_
    refine aw_aload_n 1 dX12_declare_62 rfl rfl ?_
    refine aw_getf (v := .ref 6) fX12_25 0 rfl rfl dX12_declare_63 ?_
    refine aw_iload_n 0 dX12_declare_66 rfl rfl ?_
    refine aw_iald 6 (n := 9000) (f := τ2.1.1.2.2.2.1) rfl h.1 dX12_declare_67 ?_
    have h := h.2
    refine aw_callVT (mc1 := 0) (ms1 := 0) (mc := 0) (ms := 0) (st := []) (q := 0) (As := [.int (1 : Int32), .int (τ2.1.1.2.2.2.1 (s0).toNatClampNeg)]) lX12_201 insX12_wrong selX12_wrong ⟨TX12, 50, rfl⟩ (by omega) (kX12_wrong (d := 0) (by omega) h) (Nat.le_of_ble_eq_true rfl) rfl rfl rfl dX12_declare_68 rfl (fun _ _ hh => ?_)
    obtain ⟨τ30, rfl, rfl, h⟩ := hh
    refine aw_stk (st' := []) rfl ?_
    exact aw_vret rfl dX12_declare_71 ⟨τ30, rfl, rfl, h⟩
def wp_X12_declare_20  (post : WSX12 → Prop) (σ : WSX12) (x1 : Int32) (s0 : Int32) : Prop :=
  ((s0 = 0 → (vp_in x1 9000 ∧ wp_X12_declare_45  post σ x1 s0 (σ.1.1.2.2.2.2 (x1).toNatClampNeg))) ∧ (¬ s0 = 0 → (vp_in x1 9000 ∧ (vp_in (σ.1.1.2.2.2.2 (x1).toNatClampNeg) 9000 ∧ wp_X12_declare_45  post σ x1 s0 (σ.1.2.1.1.1 ((σ.1.1.2.2.2.2 (x1).toNatClampNeg)).toNatClampNeg)))))
theorem aw_X12_declare_20 {G : aw_G} {d : Nat} (hd : 2 ≤ d) {post : WSX12 → Prop}  {σ : WSX12} {x1 : Int32} {s0 : Int32} (h : wp_X12_declare_20  post σ x1 s0) : AW G MX12_declare d 0 0 25 (aw_pv (wX12 G) post) 20 [(0, .ref 0), (1, .int x1)] [.int s0] (wX12 G σ) := by
  unfold wp_X12_declare_20 at h
  refine aw_istore_n (lv' := [(2, .int s0), (0, .ref 0), (1, .int x1)]) dX12_declare_20 rfl (by decide) rfl ?_
  refine aw_iload_n 0 dX12_declare_21 rfl rfl ?_
  refine aw_if_eq 39 dX12_declare_22 (by decide) (fun c32 => ?_) (fun c32 => ?_)
  · have h := h.1 c32
    refine aw_aload_n 1 dX12_declare_39 rfl rfl ?_
    refine aw_getf (v := .ref 7) fX12_28 0 rfl rfl dX12_declare_40 ?_
    refine aw_iload_n 2 dX12_declare_43 rfl rfl ?_
    refine aw_iald 7 (n := 9000) (f := σ.1.1.2.2.2.2) rfl h.1 dX12_declare_44 ?_
    have h := h.2
    refine aw_lvsub (lv' := [(0, .ref 0), (1, .int x1), (2, .int s0)]) [1, 2, 0] rfl ?_
    exact aw_X12_declare_45 hd  h
  · have h := h.2 c32
    refine aw_aload_n 1 dX12_declare_25 rfl rfl ?_
    refine aw_getf (v := .ref 8) fX12_31 0 rfl rfl dX12_declare_26 ?_
    refine aw_aload_n 1 dX12_declare_29 rfl rfl ?_
    refine aw_getf (v := .ref 7) fX12_28 0 rfl rfl dX12_declare_30 ?_
    refine aw_iload_n 2 dX12_declare_33 rfl rfl ?_
    refine aw_iald 7 (n := 9000) (f := σ.1.1.2.2.2.2) rfl h.1 dX12_declare_34 ?_
    have h := h.2
    refine aw_iald 8 (n := 9000) (f := σ.1.2.1.1.1) rfl h.1 dX12_declare_35 ?_
    have h := h.2
    refine aw_goto 45 dX12_declare_36 (by decide) ?_
    refine aw_lvsub (lv' := [(0, .ref 0), (1, .int x1), (2, .int s0)]) [1, 2, 0] rfl ?_
    exact aw_X12_declare_45 hd  h
def wp_X12_declare (σ : WSX12) (a1 : Int32) (post : WSX12 → Prop) : Prop :=
  (vp_in a1 9000 ∧ (vp_in (σ.1.1.2.2.2.2 (a1).toNatClampNeg) 9000 ∧ ((¬ (σ.1.1.2.2.1 ((σ.1.1.2.2.2.2 (a1).toNatClampNeg)).toNatClampNeg) = (5 : Int32) → wp_X12_declare_20  post σ a1 (0 : Int32)) ∧ ((σ.1.1.2.2.1 ((σ.1.1.2.2.2.2 (a1).toNatClampNeg)).toNatClampNeg) = (5 : Int32) → wp_X12_declare_20  post σ a1 (1 : Int32)))))
theorem kX12_declare {G : aw_G} {d : Nat} (hd : 2 ≤ d) {σ : WSX12} {a1 : Int32} {post : WSX12 → Prop} (h : wp_X12_declare σ a1 post) : AC G MX12_declare d 0 0 25 [.ref 0, .int a1] (wX12 G σ) (aw_pv (wX12 G) post) := by
  refine AC.of (lv := [(0, .ref 0), (1, .int a1)]) (by decide) (Nat.le_of_ble_eq_true rfl) rfl ?_
  unfold wp_X12_declare at h
  refine aw_aload_n 0 dX12_declare_0 rfl rfl ?_
  refine aw_getf (v := .ref 5) fX12_22 0 rfl rfl dX12_declare_1 ?_
  refine aw_aload_n 0 dX12_declare_4 rfl rfl ?_
  refine aw_getf (v := .ref 7) fX12_28 0 rfl rfl dX12_declare_5 ?_
  refine aw_iload_n 1 dX12_declare_8 rfl rfl ?_
  refine aw_iald 7 (n := 9000) (f := σ.1.1.2.2.2.2) rfl h.1 dX12_declare_9 ?_
  have h := h.2
  refine aw_iald 5 (n := 9000) (f := σ.1.1.2.2.1) rfl h.1 dX12_declare_10 ?_
  have h := h.2
  refine aw_iconst (v := (5 : Int32)) dX12_declare_11 (by decide) ?_
  refine aw_icmp_ne 19 dX12_declare_12 (by decide) (fun c33 => ?_) (fun c33 => ?_)
  · have h := h.1 c33
    refine aw_iconst (v := (0 : Int32)) dX12_declare_19 (by decide) ?_
    exact aw_X12_declare_20 hd  h
  · have h := h.2 c33
    refine aw_iconst (v := (1 : Int32)) dX12_declare_15 (by decide) ?_
    refine aw_goto 20 dX12_declare_16 (by decide) ?_
    exact aw_X12_declare_20 hd  h
def wp_X12_name (σ : WSX12) (a1 : Int32) (post : Int32 → WSX12 → Prop) : Prop :=
  wp_X12_find σ a1 (fun r1 τ2 => ((¬ r1 = ((-1) : Int32) → post r1 τ2) ∧ (r1 = ((-1) : Int32) → wp_X12_wrong τ2 (1 : Int32) a1 (fun τ4 => post r1 τ4))))
theorem kX12_name {G : aw_G} {d : Nat} (hd : 2 ≤ d) {σ : WSX12} {a1 : Int32} {post : Int32 → WSX12 → Prop} (h : wp_X12_name σ a1 post) : AC G MX12_name d 0 0 25 [.ref 0, .int a1] (wX12 G σ) (aw_pi (wX12 G) post) := by
  refine AC.of (lv := [(0, .ref 0), (1, .int a1)]) (by decide) (Nat.le_of_ble_eq_true rfl) rfl ?_
  unfold wp_X12_name at h
  refine aw_aload_n 0 dX12_name_0 rfl rfl ?_
  refine aw_iload_n 1 dX12_name_1 rfl rfl ?_
  refine aw_callVT (mc1 := 0) (ms1 := 0) (mc := 0) (ms := 0) (st := []) (q := 0) (As := [.int a1]) lX12_198 insX12_find selX12_find ⟨TX12, 50, rfl⟩ (by omega) (kX12_find (d := 1) (by omega) h) (Nat.le_of_ble_eq_true rfl) rfl rfl rfl dX12_name_2 rfl (fun _ _ hh => ?_)
  obtain ⟨r1, τ2, rfl, rfl, h⟩ := hh
  refine aw_stk (st' := [.int r1]) rfl ?_
  refine aw_istore_n (lv' := [(2, .int r1), (0, .ref 0), (1, .int a1)]) dX12_name_5 rfl (by decide) rfl ?_
  refine aw_iload_n 0 dX12_name_6 rfl rfl ?_
  refine aw_iconst (v := ((-1) : Int32)) dX12_name_7 (by decide) ?_
  refine aw_icmp_ne 17 dX12_name_8 (by decide) (fun c5 => ?_) (fun c5 => ?_)
  · have h := h.1 c5
    refine aw_iload_n 0 dX12_name_17 rfl rfl ?_
    exact aw_iret rfl dX12_name_18 ⟨_, τ2, rfl, rfl, h⟩
  · have h := h.2 c5
    refine aw_aload_n 1 dX12_name_11 rfl rfl ?_
    refine aw_iconst (v := (1 : Int32)) dX12_name_12 (by decide) ?_
    refine aw_iload_n 2 dX12_name_13 rfl rfl ?_
    refine aw_callVT (mc1 := 0) (ms1 := 0) (mc := 0) (ms := 0) (st := []) (q := 0) (As := [.int (1 : Int32), .int a1]) lX12_201 insX12_wrong selX12_wrong ⟨TX12, 50, rfl⟩ (by omega) (kX12_wrong (d := 0) (by omega) h) (Nat.le_of_ble_eq_true rfl) rfl rfl rfl dX12_name_14 rfl (fun _ _ hh => ?_)
    obtain ⟨τ4, rfl, rfl, h⟩ := hh
    refine aw_stk (st' := []) rfl ?_
    refine aw_iload_n 0 dX12_name_17 rfl rfl ?_
    exact aw_iret rfl dX12_name_18 ⟨_, τ4, rfl, rfl, h⟩
def wb_X12_leftmost_2  (post : Int32 → WSX12 → Prop) (rec_2 : WSX12 × Int32 → Prop) (σ : WSX12) (x2 : Int32) : Prop :=
  (vp_in x2 9000 ∧ wp_X12_rank (σ.1.1.2.2.1 (x2).toNatClampNeg) (fun r1 τ2 => ((r1 = ((-1) : Int32) → post x2 σ) ∧ (¬ r1 = ((-1) : Int32) → (vp_in x2 9000 ∧ (vp_in (σ.1.1.2.2.2.2 (x2).toNatClampNeg) 9000 ∧ ∀ y3 : Nat → Int32, y3 = upd σ.2.2.1.2.2.1 ((σ.1.1.2.2.2.2 (x2).toNatClampNeg)).toNatClampNeg x2 → (vp_in x2 9000 ∧ (∀ y4 : Int32, y4 = (σ.1.1.2.2.2.2 (x2).toNatClampNeg) → rec_2 ((σ.1, (σ.2.1, ((σ.2.2.1.1, (σ.2.2.1.2.1, (y3, σ.2.2.1.2.2.2))), σ.2.2.2))), y4)))))))))
def wp_X12_leftmost_2  (post : Int32 → WSX12 → Prop) (n : Nat) (σ : WSX12) (x2 : Int32) : Prop := aw_loop (fun r (a : WSX12 × Int32) => wb_X12_leftmost_2  post r a.1 a.2) n (σ, x2)
theorem aw_X12_leftmost_2 {G : aw_G} {d : Nat} (hd : 1 ≤ d) {post : Int32 → WSX12 → Prop}  : ∀ (n : Nat) (σ : WSX12) (x2 : Int32), wp_X12_leftmost_2  post n σ x2 → AW G MX12_leftmost d 0 0 25 (aw_pi (wX12 G) post) 2 [(0, .ref 0), (2, .int x2)] [] (wX12 G σ) := by
  intro n
  induction n with
  | zero => intro σ x2 h; exact h.elim
  | succ n ih =>
    intro σ x2 h
    have hrec_2 : ∀ a : WSX12 × Int32, aw_loop (fun r (a : WSX12 × Int32) => wb_X12_leftmost_2  post r a.1 a.2) n a → AW G MX12_leftmost d 0 0 25 (aw_pi (wX12 G) post) 2 [(0, .ref 0), (2, .int a.2)] [] (wX12 G a.1) := fun a h => ih a.1 a.2 h
    have h : wb_X12_leftmost_2  post (aw_loop (fun r (a : WSX12 × Int32) => wb_X12_leftmost_2  post r a.1 a.2) n) σ x2 := h
    unfold wb_X12_leftmost_2 at h
    refine aw_aload_n 0 dX12_leftmost_2 rfl rfl ?_
    refine aw_getf (v := .ref 5) fX12_22 0 rfl rfl dX12_leftmost_3 ?_
    refine aw_iload_n 1 dX12_leftmost_6 rfl rfl ?_
    refine aw_iald 5 (n := 9000) (f := σ.1.1.2.2.1) rfl h.1 dX12_leftmost_7 ?_
    have h := h.2
    refine aw_callST (st := []) (As := [.int (σ.1.1.2.2.1 (x2).toNatClampNeg)]) lX12_186 sttX12_rank (by omega) (kX12_rank (d := 0) (by omega) h) rfl rfl rfl dX12_leftmost_8 rfl (fun _ _ hh => ?_)
    obtain ⟨r1, τ2, rfl, rfl, h⟩ := hh
    refine ⟨rfl, (fun x hx => by cases hx; rfl), ?_⟩
    refine aw_stk (st' := [.int r1]) rfl ?_
    refine aw_iconst (v := ((-1) : Int32)) dX12_leftmost_11 (by decide) ?_
    refine aw_icmp_eq 37 dX12_leftmost_12 (by decide) (fun c5 => ?_) (fun c5 => ?_)
    · have h := h.1 c5
      refine aw_iload_n 1 dX12_leftmost_37 rfl rfl ?_
      exact aw_iret rfl dX12_leftmost_38 ⟨_, σ, rfl, rfl, h⟩
    · have h := h.2 c5
      refine aw_aload_n 0 dX12_leftmost_15 rfl rfl ?_
      refine aw_getf (v := .ref 21) fX12_78 0 rfl rfl dX12_leftmost_16 ?_
      refine aw_aload_n 0 dX12_leftmost_19 rfl rfl ?_
      refine aw_getf (v := .ref 7) fX12_28 0 rfl rfl dX12_leftmost_20 ?_
      refine aw_iload_n 1 dX12_leftmost_23 rfl rfl ?_
      refine aw_iald 7 (n := 9000) (f := σ.1.1.2.2.2.2) rfl h.1 dX12_leftmost_24 ?_
      have h := h.2
      refine aw_iload_n 1 dX12_leftmost_25 rfl rfl ?_
      refine aw_iast 21 (n := 9000) (f := σ.2.2.1.2.2.1) (w' := fun y3 => (wX12 G (σ.1, (σ.2.1, ((σ.2.2.1.1, (σ.2.2.1.2.1, (y3, σ.2.2.1.2.2.2))), σ.2.2.2))))) rfl h.1 (fun _ => rfl) dX12_leftmost_26 (fun y3 ey3 => ?_)
      have h := h.2 y3 ey3
      refine aw_aload_n 0 dX12_leftmost_27 rfl rfl ?_
      refine aw_getf (v := .ref 7) fX12_28 0 rfl rfl dX12_leftmost_28 ?_
      refine aw_iload_n 1 dX12_leftmost_31 rfl rfl ?_
      refine aw_iald 7 (n := 9000) (f := σ.1.1.2.2.2.2) rfl h.1 dX12_leftmost_32 ?_
      have h := h.2
      refine aw_topi (fun y4 ey4 => ?_)
      have h := h y4 ey4
      refine aw_istore_n (lv' := [(2, .int y4), (0, .ref 0)]) dX12_leftmost_33 rfl (by decide) rfl ?_
      refine aw_goto 2 dX12_leftmost_34 (by decide) ?_
      refine aw_lvsub (lv' := [(0, .ref 0), (2, .int y4)]) [1, 0] rfl ?_
      exact hrec_2 ((σ.1, (σ.2.1, ((σ.2.2.1.1, (σ.2.2.1.2.1, (y3, σ.2.2.1.2.2.2))), σ.2.2.2))), y4) h
def wp_X12_leftmost (σ : WSX12) (a1 : Int32) (post : Int32 → WSX12 → Prop) : Prop :=
  (∃ n6, wp_X12_leftmost_2  post n6 σ a1)
theorem kX12_leftmost {G : aw_G} {d : Nat} (hd : 1 ≤ d) {σ : WSX12} {a1 : Int32} {post : Int32 → WSX12 → Prop} (h : wp_X12_leftmost σ a1 post) : AC G MX12_leftmost d 0 0 25 [.ref 0, .int a1] (wX12 G σ) (aw_pi (wX12 G) post) := by
  refine AC.of (lv := [(0, .ref 0), (1, .int a1)]) (by decide) (Nat.le_of_ble_eq_true rfl) rfl ?_
  unfold wp_X12_leftmost at h
  refine aw_iload_n 1 dX12_leftmost_0 rfl rfl ?_
  refine aw_istore_n (lv' := [(2, .int a1), (0, .ref 0), (1, .int a1)]) dX12_leftmost_1 rfl (by decide) rfl ?_
  refine aw_lvsub (lv' := [(0, .ref 0), (2, .int a1)]) [1, 0] rfl ?_
  obtain ⟨n6, h⟩ := h
  exact aw_X12_leftmost_2 hd  n6 σ a1 h
def Mg_ck (k : Nat) : aw_M := match k with
  | 0 => MX12_check
  | _ => MX12_checkPart
def wp_X12_check_129 (rc : Nat → WSX12 → List Int32 → (Int32 → WSX12 → Prop) → Prop) (rec_12 : WSX12 × Int32 × Int32 × Int32 → Prop) (post : WSX12 → Prop) (σ : WSX12) (x1 : Int32) (x2 : Int32) (x3 : Int32) : Prop :=
  (vp_in x3 9000 ∧ (((σ.1.2.1.1.2.1 (x3).toNatClampNeg) = 0 → rec_12 (σ, x1, x2, x3)) ∧ (¬ (σ.1.2.1.1.2.1 (x3).toNatClampNeg) = 0 → (vp_in x3 9000 ∧ wp_X12_wrong σ (5 : Int32) (σ.1.1.2.2.2.1 (x3).toNatClampNeg) (fun τ10 => rec_12 (τ10, x1, x2, x3))))))
theorem aw_X12_check_129 {G : aw_G} {d : Nat} (hd : 2 ≤ d) {dg : Nat} (hdg : dg + 1 ≤ d) {rc : Nat → WSX12 → List Int32 → (Int32 → WSX12 → Prop) → Prop} (hrc : ∀ (k : Nat) (σ : WSX12) (xs : List Int32) (po : Int32 → WSX12 → Prop), rc k σ xs po → AC G (Mg_ck k) dg 0 0 25 (.ref 0 :: xs.map .int) (wX12 G σ) (aw_pv (wX12 G) (fun τ => po 0 τ))) {rec_12 : WSX12 × Int32 × Int32 × Int32 → Prop} {post : WSX12 → Prop} (hrec_12 : ∀ a : WSX12 × Int32 × Int32 × Int32, rec_12 a → AW G MX12_check d 0 0 25 (aw_pv (wX12 G) post) 12 [(0, .ref 0), (1, .int a.2.1), (2, .int a.2.2.1), (3, .int a.2.2.2)] [] (wX12 G a.1)) {σ : WSX12} {x1 : Int32} {x2 : Int32} {x3 : Int32} (h : wp_X12_check_129 rc rec_12 post σ x1 x2 x3) : AW G MX12_check d 0 0 25 (aw_pv (wX12 G) post) 129 [(0, .ref 0), (1, .int x1), (2, .int x2), (3, .int x3)] [] (wX12 G σ) := by
  unfold wp_X12_check_129 at h
  refine aw_aload_n 0 dX12_check_129 rfl rfl ?_
  refine aw_getf (v := .ref 9) fX12_34 0 rfl rfl dX12_check_130 ?_
  refine aw_iload_n 3 dX12_check_133 rfl rfl ?_
  refine aw_zald 9 (n := 9000) (f := σ.1.2.1.1.2.1) rfl h.1 dX12_check_134 ?_
  have h := h.2
  refine aw_if_eq 12 dX12_check_135 (by decide) (fun c11 => ?_) (fun c11 => ?_)
  · have h := h.1 c11
    exact hrec_12 (σ, x1, x2, x3) h
  · have h := h.2 c11
    refine aw_aload_n 0 dX12_check_138 rfl rfl ?_
    refine aw_iconst (v := (5 : Int32)) dX12_check_139 (by decide) ?_
    refine aw_aload_n 0 dX12_check_140 rfl rfl ?_
    refine aw_getf (v := .ref 6) fX12_25 0 rfl rfl dX12_check_141 ?_
    refine aw_iload_n 3 dX12_check_144 rfl rfl ?_
    refine aw_iald 6 (n := 9000) (f := σ.1.1.2.2.2.1) rfl h.1 dX12_check_145 ?_
    have h := h.2
    refine aw_callVT (mc1 := 0) (ms1 := 0) (mc := 0) (ms := 0) (st := []) (q := 0) (As := [.int (5 : Int32), .int (σ.1.1.2.2.2.1 (x3).toNatClampNeg)]) lX12_201 insX12_wrong selX12_wrong ⟨TX12, 50, rfl⟩ (by omega) (kX12_wrong (d := 0) (by omega) h) (Nat.le_of_ble_eq_true rfl) rfl rfl rfl dX12_check_146 rfl (fun _ _ hh => ?_)
    obtain ⟨τ10, rfl, rfl, h⟩ := hh
    refine aw_stk (st' := []) rfl ?_
    refine aw_goto 12 dX12_check_149 (by decide) ?_
    exact hrec_12 (τ10, x1, x2, x3) h
def wp_X12_check_113 (rc : Nat → WSX12 → List Int32 → (Int32 → WSX12 → Prop) → Prop) (rec_12 : WSX12 × Int32 × Int32 × Int32 → Prop) (post : WSX12 → Prop) (σ : WSX12) (x1 : Int32) (x2 : Int32) (x3 : Int32) : Prop :=
  ((x2 = 0 → wp_X12_check_129 rc rec_12 post σ x1 x2 x3) ∧ (¬ x2 = 0 → (vp_in x3 9000 ∧ wp_X12_wrong σ (8 : Int32) (σ.1.1.2.2.2.1 (x3).toNatClampNeg) (fun τ13 => wp_X12_check_129 rc rec_12 post τ13 x1 x2 x3))))
theorem aw_X12_check_113 {G : aw_G} {d : Nat} (hd : 2 ≤ d) {dg : Nat} (hdg : dg + 1 ≤ d) {rc : Nat → WSX12 → List Int32 → (Int32 → WSX12 → Prop) → Prop} (hrc : ∀ (k : Nat) (σ : WSX12) (xs : List Int32) (po : Int32 → WSX12 → Prop), rc k σ xs po → AC G (Mg_ck k) dg 0 0 25 (.ref 0 :: xs.map .int) (wX12 G σ) (aw_pv (wX12 G) (fun τ => po 0 τ))) {rec_12 : WSX12 × Int32 × Int32 × Int32 → Prop} {post : WSX12 → Prop} (hrec_12 : ∀ a : WSX12 × Int32 × Int32 × Int32, rec_12 a → AW G MX12_check d 0 0 25 (aw_pv (wX12 G) post) 12 [(0, .ref 0), (1, .int a.2.1), (2, .int a.2.2.1), (3, .int a.2.2.2)] [] (wX12 G a.1)) {σ : WSX12} {x1 : Int32} {x2 : Int32} {x3 : Int32} (h : wp_X12_check_113 rc rec_12 post σ x1 x2 x3) : AW G MX12_check d 0 0 25 (aw_pv (wX12 G) post) 113 [(0, .ref 0), (1, .int x1), (2, .int x2), (3, .int x3)] [] (wX12 G σ) := by
  unfold wp_X12_check_113 at h
  refine aw_iload_n 2 dX12_check_113 rfl rfl ?_
  refine aw_if_eq 129 dX12_check_114 (by decide) (fun c14 => ?_) (fun c14 => ?_)
  · have h := h.1 c14
    exact aw_X12_check_129 hd hdg hrc hrec_12 h
  · have h := h.2 c14
    refine aw_aload_n 0 dX12_check_117 rfl rfl ?_
    refine aw_bipush (v := (8 : Int32)) dX12_check_118 (by decide) ?_
    refine aw_aload_n 0 dX12_check_120 rfl rfl ?_
    refine aw_getf (v := .ref 6) fX12_25 0 rfl rfl dX12_check_121 ?_
    refine aw_iload_n 3 dX12_check_124 rfl rfl ?_
    refine aw_iald 6 (n := 9000) (f := σ.1.1.2.2.2.1) rfl h.1 dX12_check_125 ?_
    have h := h.2
    refine aw_callVT (mc1 := 0) (ms1 := 0) (mc := 0) (ms := 0) (st := []) (q := 0) (As := [.int (8 : Int32), .int (σ.1.1.2.2.2.1 (x3).toNatClampNeg)]) lX12_201 insX12_wrong selX12_wrong ⟨TX12, 50, rfl⟩ (by omega) (kX12_wrong (d := 0) (by omega) h) (Nat.le_of_ble_eq_true rfl) rfl rfl rfl dX12_check_126 rfl (fun _ _ hh => ?_)
    obtain ⟨τ13, rfl, rfl, h⟩ := hh
    refine aw_stk (st' := []) rfl ?_
    exact aw_X12_check_129 hd hdg hrc hrec_12 h
def wp_X12_check_83 (rc : Nat → WSX12 → List Int32 → (Int32 → WSX12 → Prop) → Prop) (rec_12 : WSX12 × Int32 × Int32 × Int32 → Prop) (post : WSX12 → Prop) (σ : WSX12) (x1 : Int32) (x2 : Int32) (x3 : Int32) (s0 : Int32) (s1 : Int32) : Prop :=
  (vp_in s1 9000 ∧ ∀ y8 : Nat → Int32, y8 = upd σ.1.2.1.1.2.1 (s1).toNatClampNeg (vp_nar .boolean s0) → ((¬ σ.2.1.2.1.1 = 0 → rec_12 (((σ.1.1, (((σ.1.2.1.1.1, (y8, σ.1.2.1.1.2.2)), σ.1.2.1.2), σ.1.2.2)), σ.2), x1, x2, x3)) ∧ (σ.2.1.2.1.1 = 0 → (vp_in x3 9000 ∧ (((σ.1.1.2.2.1 (x3).toNatClampNeg) = (47 : Int32) → wp_X12_check_113 rc rec_12 post ((σ.1.1, (((σ.1.2.1.1.1, (y8, σ.1.2.1.1.2.2)), σ.1.2.1.2), σ.1.2.2)), σ.2) x1 x2 x3) ∧ (¬ (σ.1.1.2.2.1 (x3).toNatClampNeg) = (47 : Int32) → (vp_in x3 9000 ∧ ((¬ (σ.1.1.2.2.1 (x3).toNatClampNeg) = (37 : Int32) → rec_12 (((σ.1.1, (((σ.1.2.1.1.1, (y8, σ.1.2.1.1.2.2)), σ.1.2.1.2), σ.1.2.2)), σ.2), x1, x2, x3)) ∧ ((σ.1.1.2.2.1 (x3).toNatClampNeg) = (37 : Int32) → wp_X12_check_113 rc rec_12 post ((σ.1.1, (((σ.1.2.1.1.1, (y8, σ.1.2.1.1.2.2)), σ.1.2.1.2), σ.1.2.2)), σ.2) x1 x2 x3)))))))))
theorem aw_X12_check_83 {G : aw_G} {d : Nat} (hd : 2 ≤ d) {dg : Nat} (hdg : dg + 1 ≤ d) {rc : Nat → WSX12 → List Int32 → (Int32 → WSX12 → Prop) → Prop} (hrc : ∀ (k : Nat) (σ : WSX12) (xs : List Int32) (po : Int32 → WSX12 → Prop), rc k σ xs po → AC G (Mg_ck k) dg 0 0 25 (.ref 0 :: xs.map .int) (wX12 G σ) (aw_pv (wX12 G) (fun τ => po 0 τ))) {rec_12 : WSX12 × Int32 × Int32 × Int32 → Prop} {post : WSX12 → Prop} (hrec_12 : ∀ a : WSX12 × Int32 × Int32 × Int32, rec_12 a → AW G MX12_check d 0 0 25 (aw_pv (wX12 G) post) 12 [(0, .ref 0), (1, .int a.2.1), (2, .int a.2.2.1), (3, .int a.2.2.2)] [] (wX12 G a.1)) {σ : WSX12} {x1 : Int32} {x2 : Int32} {x3 : Int32} {s0 : Int32} {s1 : Int32} (h : wp_X12_check_83 rc rec_12 post σ x1 x2 x3 s0 s1) : AW G MX12_check d 0 0 25 (aw_pv (wX12 G) post) 83 [(0, .ref 0), (1, .int x1), (2, .int x2), (3, .int x3)] [.int s0, .int s1, .ref 9] (wX12 G σ) := by
  unfold wp_X12_check_83 at h
  refine aw_zast 9 (n := 9000) (f := σ.1.2.1.1.2.1) (w' := fun y8 => (wX12 G ((σ.1.1, (((σ.1.2.1.1.1, (y8, σ.1.2.1.1.2.2)), σ.1.2.1.2), σ.1.2.2)), σ.2))) rfl h.1 (fun _ => rfl) dX12_check_83 (fun y8 ey8 => ?_)
  have h := h.2 y8 ey8
  refine aw_aload_n 0 dX12_check_84 rfl rfl ?_
  refine aw_getf (v := .int σ.2.1.2.1.1) fX12_189 0 rfl rfl dX12_check_85 ?_
  refine aw_if_ne 12 dX12_check_88 (by decide) (fun c17 => ?_) (fun c17 => ?_)
  · have h := h.1 c17
    exact hrec_12 (((σ.1.1, (((σ.1.2.1.1.1, (y8, σ.1.2.1.1.2.2)), σ.1.2.1.2), σ.1.2.2)), σ.2), x1, x2, x3) h
  · have h := h.2 c17
    refine aw_aload_n 0 dX12_check_91 rfl rfl ?_
    refine aw_getf (v := .ref 5) fX12_22 0 rfl rfl dX12_check_92 ?_
    refine aw_iload_n 3 dX12_check_95 rfl rfl ?_
    refine aw_iald 5 (n := 9000) (f := σ.1.1.2.2.1) rfl h.1 dX12_check_96 ?_
    have h := h.2
    refine aw_bipush (v := (47 : Int32)) dX12_check_97 (by decide) ?_
    refine aw_icmp_eq 113 dX12_check_99 (by decide) (fun c16 => ?_) (fun c16 => ?_)
    · have h := h.1 c16
      exact aw_X12_check_113 hd hdg hrc hrec_12 h
    · have h := h.2 c16
      refine aw_aload_n 0 dX12_check_102 rfl rfl ?_
      refine aw_getf (v := .ref 5) fX12_22 0 rfl rfl dX12_check_103 ?_
      refine aw_iload_n 3 dX12_check_106 rfl rfl ?_
      refine aw_iald 5 (n := 9000) (f := σ.1.1.2.2.1) rfl h.1 dX12_check_107 ?_
      have h := h.2
      refine aw_bipush (v := (37 : Int32)) dX12_check_108 (by decide) ?_
      refine aw_icmp_ne 12 dX12_check_110 (by decide) (fun c15 => ?_) (fun c15 => ?_)
      · have h := h.1 c15
        exact hrec_12 (((σ.1.1, (((σ.1.2.1.1.1, (y8, σ.1.2.1.1.2.2)), σ.1.2.1.2), σ.1.2.2)), σ.2), x1, x2, x3) h
      · have h := h.2 c15
        exact aw_X12_check_113 hd hdg hrc hrec_12 h
def wp_X12_check_78 (rc : Nat → WSX12 → List Int32 → (Int32 → WSX12 → Prop) → Prop) (rec_12 : WSX12 × Int32 × Int32 × Int32 → Prop) (post : WSX12 → Prop) (σ : WSX12) (x1 : Int32) (x2 : Int32) (x3 : Int32) (s0 : Int32) : Prop :=
  wp_X12_check_83 rc rec_12 post σ x1 x2 x3 (1 : Int32) s0
theorem aw_X12_check_78 {G : aw_G} {d : Nat} (hd : 2 ≤ d) {dg : Nat} (hdg : dg + 1 ≤ d) {rc : Nat → WSX12 → List Int32 → (Int32 → WSX12 → Prop) → Prop} (hrc : ∀ (k : Nat) (σ : WSX12) (xs : List Int32) (po : Int32 → WSX12 → Prop), rc k σ xs po → AC G (Mg_ck k) dg 0 0 25 (.ref 0 :: xs.map .int) (wX12 G σ) (aw_pv (wX12 G) (fun τ => po 0 τ))) {rec_12 : WSX12 × Int32 × Int32 × Int32 → Prop} {post : WSX12 → Prop} (hrec_12 : ∀ a : WSX12 × Int32 × Int32 × Int32, rec_12 a → AW G MX12_check d 0 0 25 (aw_pv (wX12 G) post) 12 [(0, .ref 0), (1, .int a.2.1), (2, .int a.2.2.1), (3, .int a.2.2.2)] [] (wX12 G a.1)) {σ : WSX12} {x1 : Int32} {x2 : Int32} {x3 : Int32} {s0 : Int32} (h : wp_X12_check_78 rc rec_12 post σ x1 x2 x3 s0) : AW G MX12_check d 0 0 25 (aw_pv (wX12 G) post) 78 [(0, .ref 0), (1, .int x1), (2, .int x2), (3, .int x3)] [.int s0, .ref 9] (wX12 G σ) := by
  unfold wp_X12_check_78 at h
  refine aw_iconst (v := (1 : Int32)) dX12_check_78 (by decide) ?_
  refine aw_goto 83 dX12_check_79 (by decide) ?_
  exact aw_X12_check_83 hd hdg hrc hrec_12 h
def wb_X12_check_12 (rc : Nat → WSX12 → List Int32 → (Int32 → WSX12 → Prop) → Prop)  (post : WSX12 → Prop) (rec_12 : WSX12 × Int32 × Int32 × Int32 → Prop) (σ : WSX12) (x1 : Int32) (x2 : Int32) (x3 : Int32) : Prop :=
  ((x3 = x1 → post σ) ∧ (¬ x3 = x1 → (vp_in x3 9000 ∧ (∀ y5 : Int32, y5 = (σ.2.2.1.2.2.1 (x3).toNatClampNeg) → (vp_in y5 9000 ∧ (vp_in (σ.1.1.2.2.2.2 (y5).toNatClampNeg) 9000 ∧ rc 0 σ [(σ.1.2.1.1.1 ((σ.1.1.2.2.2.2 (y5).toNatClampNeg)).toNatClampNeg), x2] (fun _ τ7 => (vp_in y5 9000 ∧ (vp_in (τ7.1.1.2.2.2.2 (y5).toNatClampNeg) 9000 ∧ ((¬ (τ7.1.2.1.1.2.1 ((τ7.1.1.2.2.2.2 (y5).toNatClampNeg)).toNatClampNeg) = 0 → wp_X12_check_78 rc rec_12 post τ7 x1 x2 y5 y5) ∧ ((τ7.1.2.1.1.2.1 ((τ7.1.1.2.2.2.2 (y5).toNatClampNeg)).toNatClampNeg) = 0 → (vp_in y5 9000 ∧ (vp_in (τ7.1.1.2.2.2.2 (y5).toNatClampNeg) 9000 ∧ (vp_in (τ7.1.2.1.1.1 ((τ7.1.1.2.2.2.2 (y5).toNatClampNeg)).toNatClampNeg) 9000 ∧ (((τ7.1.2.1.1.2.1 ((τ7.1.2.1.1.1 ((τ7.1.1.2.2.2.2 (y5).toNatClampNeg)).toNatClampNeg)).toNatClampNeg) = 0 → wp_X12_check_83 rc rec_12 post τ7 x1 x2 y5 (0 : Int32) y5) ∧ (¬ (τ7.1.2.1.1.2.1 ((τ7.1.2.1.1.1 ((τ7.1.1.2.2.2.2 (y5).toNatClampNeg)).toNatClampNeg)).toNatClampNeg) = 0 → wp_X12_check_78 rc rec_12 post τ7 x1 x2 y5 y5))))))))))))))))
def wp_X12_check_12 (rc : Nat → WSX12 → List Int32 → (Int32 → WSX12 → Prop) → Prop)  (post : WSX12 → Prop) (n : Nat) (σ : WSX12) (x1 : Int32) (x2 : Int32) (x3 : Int32) : Prop := aw_loop (fun r (a : WSX12 × Int32 × Int32 × Int32) => wb_X12_check_12 rc  post r a.1 a.2.1 a.2.2.1 a.2.2.2) n (σ, x1, x2, x3)
theorem aw_X12_check_12 {G : aw_G} {d : Nat} (hd : 2 ≤ d) {dg : Nat} (hdg : dg + 1 ≤ d) {rc : Nat → WSX12 → List Int32 → (Int32 → WSX12 → Prop) → Prop} (hrc : ∀ (k : Nat) (σ : WSX12) (xs : List Int32) (po : Int32 → WSX12 → Prop), rc k σ xs po → AC G (Mg_ck k) dg 0 0 25 (.ref 0 :: xs.map .int) (wX12 G σ) (aw_pv (wX12 G) (fun τ => po 0 τ))) {post : WSX12 → Prop}  : ∀ (n : Nat) (σ : WSX12) (x1 : Int32) (x2 : Int32) (x3 : Int32), wp_X12_check_12 rc  post n σ x1 x2 x3 → AW G MX12_check d 0 0 25 (aw_pv (wX12 G) post) 12 [(0, .ref 0), (1, .int x1), (2, .int x2), (3, .int x3)] [] (wX12 G σ) := by
  intro n
  induction n with
  | zero => intro σ x1 x2 x3 h; exact h.elim
  | succ n ih =>
    intro σ x1 x2 x3 h
    have hrec_12 : ∀ a : WSX12 × Int32 × Int32 × Int32, aw_loop (fun r (a : WSX12 × Int32 × Int32 × Int32) => wb_X12_check_12 rc  post r a.1 a.2.1 a.2.2.1 a.2.2.2) n a → AW G MX12_check d 0 0 25 (aw_pv (wX12 G) post) 12 [(0, .ref 0), (1, .int a.2.1), (2, .int a.2.2.1), (3, .int a.2.2.2)] [] (wX12 G a.1) := fun a h => ih a.1 a.2.1 a.2.2.1 a.2.2.2 h
    have h : wb_X12_check_12 rc  post (aw_loop (fun r (a : WSX12 × Int32 × Int32 × Int32) => wb_X12_check_12 rc  post r a.1 a.2.1 a.2.2.1 a.2.2.2) n) σ x1 x2 x3 := h
    unfold wb_X12_check_12 at h
    refine aw_iload_n 3 dX12_check_12 rfl rfl ?_
    refine aw_iload_n 1 dX12_check_13 rfl rfl ?_
    refine aw_icmp_eq 152 dX12_check_14 (by decide) (fun c20 => ?_) (fun c20 => ?_)
    · have h := h.1 c20
      exact aw_vret rfl dX12_check_152 ⟨σ, rfl, rfl, h⟩
    · have h := h.2 c20
      refine aw_aload_n 0 dX12_check_17 rfl rfl ?_
      refine aw_getf (v := .ref 21) fX12_78 0 rfl rfl dX12_check_18 ?_
      refine aw_iload_n 3 dX12_check_21 rfl rfl ?_
      refine aw_iald 21 (n := 9000) (f := σ.2.2.1.2.2.1) rfl h.1 dX12_check_22 ?_
      have h := h.2
      refine aw_topi (fun y5 ey5 => ?_)
      have h := h y5 ey5
      refine aw_istore_n (lv' := [(3, .int y5), (0, .ref 0), (1, .int x1), (2, .int x2)]) dX12_check_23 rfl (by decide) rfl ?_
      refine aw_aload_n 1 dX12_check_24 rfl rfl ?_
      refine aw_aload_n 1 dX12_check_25 rfl rfl ?_
      refine aw_getf (v := .ref 8) fX12_31 0 rfl rfl dX12_check_26 ?_
      refine aw_aload_n 1 dX12_check_29 rfl rfl ?_
      refine aw_getf (v := .ref 7) fX12_28 0 rfl rfl dX12_check_30 ?_
      refine aw_iload_n 0 dX12_check_33 rfl rfl ?_
      refine aw_iald 7 (n := 9000) (f := σ.1.1.2.2.2.2) rfl h.1 dX12_check_34 ?_
      have h := h.2
      refine aw_iald 8 (n := 9000) (f := σ.1.2.1.1.1) rfl h.1 dX12_check_35 ?_
      have h := h.2
      refine aw_iload_n 3 dX12_check_36 rfl rfl ?_
      refine aw_callVT (mc1 := 0) (ms1 := 0) (mc := 0) (ms := 0) (st := []) (q := 0) (As := [.int (σ.1.2.1.1.1 ((σ.1.1.2.2.2.2 (y5).toNatClampNeg)).toNatClampNeg), .int x2]) lX12_223 insX12_check selX12_check ⟨TX12, 50, rfl⟩ (by omega) (hrc 0 _ [(σ.1.2.1.1.1 ((σ.1.1.2.2.2.2 (y5).toNatClampNeg)).toNatClampNeg), x2] _ h) (Nat.le_of_ble_eq_true rfl) rfl rfl rfl dX12_check_37 rfl (fun _ _ hh => ?_)
      obtain ⟨τ7, rfl, rfl, h⟩ := hh
      refine aw_stk (st' := []) rfl ?_
      refine aw_aload_n 1 dX12_check_40 rfl rfl ?_
      refine aw_getf (v := .ref 9) fX12_34 0 rfl rfl dX12_check_41 ?_
      refine aw_iload_n 0 dX12_check_44 rfl rfl ?_
      refine aw_aload_n 1 dX12_check_45 rfl rfl ?_
      refine aw_getf (v := .ref 9) fX12_34 0 rfl rfl dX12_check_46 ?_
      refine aw_aload_n 1 dX12_check_49 rfl rfl ?_
      refine aw_getf (v := .ref 7) fX12_28 0 rfl rfl dX12_check_50 ?_
      refine aw_iload_n 0 dX12_check_53 rfl rfl ?_
      refine aw_iald 7 (n := 9000) (f := τ7.1.1.2.2.2.2) rfl h.1 dX12_check_54 ?_
      have h := h.2
      refine aw_zald 9 (n := 9000) (f := τ7.1.2.1.1.2.1) rfl h.1 dX12_check_55 ?_
      have h := h.2
      refine aw_if_ne 78 dX12_check_56 (by decide) (fun c19 => ?_) (fun c19 => ?_)
      · have h := h.1 c19
        refine aw_lvsub (lv' := [(0, .ref 0), (1, .int x1), (2, .int x2), (3, .int y5)]) [1, 2, 3, 0] rfl ?_
        exact aw_X12_check_78 hd hdg hrc hrec_12 h
      · have h := h.2 c19
        refine aw_aload_n 1 dX12_check_59 rfl rfl ?_
        refine aw_getf (v := .ref 9) fX12_34 0 rfl rfl dX12_check_60 ?_
        refine aw_aload_n 1 dX12_check_63 rfl rfl ?_
        refine aw_getf (v := .ref 8) fX12_31 0 rfl rfl dX12_check_64 ?_
        refine aw_aload_n 1 dX12_check_67 rfl rfl ?_
        refine aw_getf (v := .ref 7) fX12_28 0 rfl rfl dX12_check_68 ?_
        refine aw_iload_n 0 dX12_check_71 rfl rfl ?_
        refine aw_iald 7 (n := 9000) (f := τ7.1.1.2.2.2.2) rfl h.1 dX12_check_72 ?_
        have h := h.2
        refine aw_iald 8 (n := 9000) (f := τ7.1.2.1.1.1) rfl h.1 dX12_check_73 ?_
        have h := h.2
        refine aw_zald 9 (n := 9000) (f := τ7.1.2.1.1.2.1) rfl h.1 dX12_check_74 ?_
        have h := h.2
        refine aw_if_eq 82 dX12_check_75 (by decide) (fun c18 => ?_) (fun c18 => ?_)
        · have h := h.1 c18
          refine aw_iconst (v := (0 : Int32)) dX12_check_82 (by decide) ?_
          refine aw_lvsub (lv' := [(0, .ref 0), (1, .int x1), (2, .int x2), (3, .int y5)]) [1, 2, 3, 0] rfl ?_
          exact aw_X12_check_83 hd hdg hrc hrec_12 h
        · have h := h.2 c18
          refine aw_lvsub (lv' := [(0, .ref 0), (1, .int x1), (2, .int x2), (3, .int y5)]) [1, 2, 3, 0] rfl ?_
          exact aw_X12_check_78 hd hdg hrc hrec_12 h
def wp_X12_check (rc : Nat → WSX12 → List Int32 → (Int32 → WSX12 → Prop) → Prop) (σ : WSX12) (a1 : Int32) (a2 : Int32) (post : WSX12 → Prop) : Prop :=
  wp_X12_leftmost σ a1 (fun r1 τ2 => rc 1 τ2 [r1, a2] (fun _ τ4 => (∃ n21, wp_X12_check_12 rc  post n21 τ4 a1 a2 r1)))
theorem kX12_check {G : aw_G} {d : Nat} (hd : 2 ≤ d) {dg : Nat} (hdg : dg + 1 ≤ d) {rc : Nat → WSX12 → List Int32 → (Int32 → WSX12 → Prop) → Prop} (hrc : ∀ (k : Nat) (σ : WSX12) (xs : List Int32) (po : Int32 → WSX12 → Prop), rc k σ xs po → AC G (Mg_ck k) dg 0 0 25 (.ref 0 :: xs.map .int) (wX12 G σ) (aw_pv (wX12 G) (fun τ => po 0 τ))) {σ : WSX12} {a1 : Int32} {a2 : Int32} {post : WSX12 → Prop} (h : wp_X12_check rc σ a1 a2 post) : AC G MX12_check d 0 0 25 [.ref 0, .int a1, .int a2] (wX12 G σ) (aw_pv (wX12 G) post) := by
  refine AC.of (lv := [(0, .ref 0), (1, .int a1), (2, .int a2)]) (by decide) (Nat.le_of_ble_eq_true rfl) rfl ?_
  unfold wp_X12_check at h
  refine aw_aload_n 0 dX12_check_0 rfl rfl ?_
  refine aw_iload_n 1 dX12_check_1 rfl rfl ?_
  refine aw_callVT (mc1 := 0) (ms1 := 0) (mc := 0) (ms := 0) (st := []) (q := 0) (As := [.int a1]) lX12_216 insX12_leftmost selX12_leftmost ⟨TX12, 50, rfl⟩ (by omega) (kX12_leftmost (d := 1) (by omega) h) (Nat.le_of_ble_eq_true rfl) rfl rfl rfl dX12_check_2 rfl (fun _ _ hh => ?_)
  obtain ⟨r1, τ2, rfl, rfl, h⟩ := hh
  refine aw_stk (st' := [.int r1]) rfl ?_
  refine aw_istore_n (lv' := [(3, .int r1), (0, .ref 0), (1, .int a1), (2, .int a2)]) dX12_check_5 rfl (by decide) rfl ?_
  refine aw_aload_n 1 dX12_check_6 rfl rfl ?_
  refine aw_iload_n 0 dX12_check_7 rfl rfl ?_
  refine aw_iload_n 3 dX12_check_8 rfl rfl ?_
  refine aw_callVT (mc1 := 0) (ms1 := 0) (mc := 0) (ms := 0) (st := []) (q := 0) (As := [.int r1, .int a2]) lX12_219 insX12_checkPart selX12_checkPart ⟨TX12, 50, rfl⟩ (by omega) (hrc 1 _ [r1, a2] _ h) (Nat.le_of_ble_eq_true rfl) rfl rfl rfl dX12_check_9 rfl (fun _ _ hh => ?_)
  obtain ⟨τ4, rfl, rfl, h⟩ := hh
  refine aw_stk (st' := []) rfl ?_
  refine aw_lvsub (lv' := [(0, .ref 0), (1, .int a1), (2, .int a2), (3, .int r1)]) [1, 2, 3, 0] rfl ?_
  obtain ⟨n21, h⟩ := h
  exact aw_X12_check_12 hd hdg hrc  n21 τ4 a1 a2 r1 h
def wp_X12_checkPart_304 (rc : Nat → WSX12 → List Int32 → (Int32 → WSX12 → Prop) → Prop) (rec_265 : WSX12 × Int32 × Int32 × Int32 → Prop) (post : WSX12 → Prop) (σ : WSX12) (x1 : Int32) (x2 : Int32) (x3 : Int32) (s0 : Int32) (s1 : Int32) : Prop :=
  (vp_in s1 9000 ∧ ∀ y4 : Nat → Int32, y4 = upd σ.1.2.1.1.2.1 (s1).toNatClampNeg (vp_nar .boolean s0) → (vp_in x3 9000 ∧ (∀ y5 : Int32, y5 = (σ.1.2.1.1.1 (x3).toNatClampNeg) → rec_265 (((σ.1.1, (((σ.1.2.1.1.1, (y4, σ.1.2.1.1.2.2)), σ.1.2.1.2), σ.1.2.2)), σ.2), x1, x2, y5))))
theorem aw_X12_checkPart_304 {G : aw_G} {d : Nat} (hd : 3 ≤ d) {dg : Nat} (hdg : dg + 1 ≤ d) {rc : Nat → WSX12 → List Int32 → (Int32 → WSX12 → Prop) → Prop} (hrc : ∀ (k : Nat) (σ : WSX12) (xs : List Int32) (po : Int32 → WSX12 → Prop), rc k σ xs po → AC G (Mg_ck k) dg 0 0 25 (.ref 0 :: xs.map .int) (wX12 G σ) (aw_pv (wX12 G) (fun τ => po 0 τ))) {rec_265 : WSX12 × Int32 × Int32 × Int32 → Prop} {post : WSX12 → Prop} (hrec_265 : ∀ a : WSX12 × Int32 × Int32 × Int32, rec_265 a → AW G MX12_checkPart d 0 0 25 (aw_pv (wX12 G) post) 265 [(0, .ref 0), (1, .int a.2.1), (2, .int a.2.2.1), (3, .int a.2.2.2)] [] (wX12 G a.1)) {σ : WSX12} {x1 : Int32} {x2 : Int32} {x3 : Int32} {s0 : Int32} {s1 : Int32} (h : wp_X12_checkPart_304 rc rec_265 post σ x1 x2 x3 s0 s1) : AW G MX12_checkPart d 0 0 25 (aw_pv (wX12 G) post) 304 [(0, .ref 0), (1, .int x1), (2, .int x2), (3, .int x3)] [.int s0, .int s1, .ref 9] (wX12 G σ) := by
  unfold wp_X12_checkPart_304 at h
  refine aw_zast 9 (n := 9000) (f := σ.1.2.1.1.2.1) (w' := fun y4 => (wX12 G ((σ.1.1, (((σ.1.2.1.1.1, (y4, σ.1.2.1.1.2.2)), σ.1.2.1.2), σ.1.2.2)), σ.2))) rfl h.1 (fun _ => rfl) dX12_checkPart_304 (fun y4 ey4 => ?_)
  have h := h.2 y4 ey4
  refine aw_aload_n 0 dX12_checkPart_305 rfl rfl ?_
  refine aw_getf (v := .ref 8) fX12_31 0 rfl rfl dX12_checkPart_306 ?_
  refine aw_iload_n 3 dX12_checkPart_309 rfl rfl ?_
  refine aw_iald 8 (n := 9000) (f := σ.1.2.1.1.1) rfl h.1 dX12_checkPart_310 ?_
  have h := h.2
  refine aw_topi (fun y5 ey5 => ?_)
  have h := h y5 ey5
  refine aw_istore_n (lv' := [(3, .int y5), (0, .ref 0), (1, .int x1), (2, .int x2)]) dX12_checkPart_311 rfl (by decide) rfl ?_
  refine aw_goto 265 dX12_checkPart_312 (by decide) ?_
  refine aw_lvsub (lv' := [(0, .ref 0), (1, .int x1), (2, .int x2), (3, .int y5)]) [1, 2, 3, 0] rfl ?_
  exact hrec_265 (((σ.1.1, (((σ.1.2.1.1.1, (y4, σ.1.2.1.1.2.2)), σ.1.2.1.2), σ.1.2.2)), σ.2), x1, x2, y5) h
def wp_X12_checkPart_299 (rc : Nat → WSX12 → List Int32 → (Int32 → WSX12 → Prop) → Prop) (rec_265 : WSX12 × Int32 × Int32 × Int32 → Prop) (post : WSX12 → Prop) (σ : WSX12) (x1 : Int32) (x2 : Int32) (x3 : Int32) (s0 : Int32) : Prop :=
  wp_X12_checkPart_304 rc rec_265 post σ x1 x2 x3 (1 : Int32) s0
theorem aw_X12_checkPart_299 {G : aw_G} {d : Nat} (hd : 3 ≤ d) {dg : Nat} (hdg : dg + 1 ≤ d) {rc : Nat → WSX12 → List Int32 → (Int32 → WSX12 → Prop) → Prop} (hrc : ∀ (k : Nat) (σ : WSX12) (xs : List Int32) (po : Int32 → WSX12 → Prop), rc k σ xs po → AC G (Mg_ck k) dg 0 0 25 (.ref 0 :: xs.map .int) (wX12 G σ) (aw_pv (wX12 G) (fun τ => po 0 τ))) {rec_265 : WSX12 × Int32 × Int32 × Int32 → Prop} {post : WSX12 → Prop} (hrec_265 : ∀ a : WSX12 × Int32 × Int32 × Int32, rec_265 a → AW G MX12_checkPart d 0 0 25 (aw_pv (wX12 G) post) 265 [(0, .ref 0), (1, .int a.2.1), (2, .int a.2.2.1), (3, .int a.2.2.2)] [] (wX12 G a.1)) {σ : WSX12} {x1 : Int32} {x2 : Int32} {x3 : Int32} {s0 : Int32} (h : wp_X12_checkPart_299 rc rec_265 post σ x1 x2 x3 s0) : AW G MX12_checkPart d 0 0 25 (aw_pv (wX12 G) post) 299 [(0, .ref 0), (1, .int x1), (2, .int x2), (3, .int x3)] [.int s0, .ref 9] (wX12 G σ) := by
  unfold wp_X12_checkPart_299 at h
  refine aw_iconst (v := (1 : Int32)) dX12_checkPart_299 (by decide) ?_
  refine aw_goto 304 dX12_checkPart_300 (by decide) ?_
  exact aw_X12_checkPart_304 hd hdg hrc hrec_265 h
def wb_X12_checkPart_265 (rc : Nat → WSX12 → List Int32 → (Int32 → WSX12 → Prop) → Prop)  (post : WSX12 → Prop) (rec_265 : WSX12 × Int32 × Int32 × Int32 → Prop) (σ : WSX12) (x1 : Int32) (x2 : Int32) (x3 : Int32) : Prop :=
  ((x3 = ((-1) : Int32) → post σ) ∧ (¬ x3 = ((-1) : Int32) → rc 0 σ [x3, x2] (fun _ τ3 => (vp_in x1 9000 ∧ ((¬ (τ3.1.2.1.1.2.1 (x1).toNatClampNeg) = 0 → wp_X12_checkPart_299 rc rec_265 post τ3 x1 x2 x3 x1) ∧ ((τ3.1.2.1.1.2.1 (x1).toNatClampNeg) = 0 → (vp_in x3 9000 ∧ (((τ3.1.2.1.1.2.1 (x3).toNatClampNeg) = 0 → wp_X12_checkPart_304 rc rec_265 post τ3 x1 x2 x3 (0 : Int32) x1) ∧ (¬ (τ3.1.2.1.1.2.1 (x3).toNatClampNeg) = 0 → wp_X12_checkPart_299 rc rec_265 post τ3 x1 x2 x3 x1)))))))))
def wp_X12_checkPart_265 (rc : Nat → WSX12 → List Int32 → (Int32 → WSX12 → Prop) → Prop)  (post : WSX12 → Prop) (n : Nat) (σ : WSX12) (x1 : Int32) (x2 : Int32) (x3 : Int32) : Prop := aw_loop (fun r (a : WSX12 × Int32 × Int32 × Int32) => wb_X12_checkPart_265 rc  post r a.1 a.2.1 a.2.2.1 a.2.2.2) n (σ, x1, x2, x3)
theorem aw_X12_checkPart_265 {G : aw_G} {d : Nat} (hd : 3 ≤ d) {dg : Nat} (hdg : dg + 1 ≤ d) {rc : Nat → WSX12 → List Int32 → (Int32 → WSX12 → Prop) → Prop} (hrc : ∀ (k : Nat) (σ : WSX12) (xs : List Int32) (po : Int32 → WSX12 → Prop), rc k σ xs po → AC G (Mg_ck k) dg 0 0 25 (.ref 0 :: xs.map .int) (wX12 G σ) (aw_pv (wX12 G) (fun τ => po 0 τ))) {post : WSX12 → Prop}  : ∀ (n : Nat) (σ : WSX12) (x1 : Int32) (x2 : Int32) (x3 : Int32), wp_X12_checkPart_265 rc  post n σ x1 x2 x3 → AW G MX12_checkPart d 0 0 25 (aw_pv (wX12 G) post) 265 [(0, .ref 0), (1, .int x1), (2, .int x2), (3, .int x3)] [] (wX12 G σ) := by
  intro n
  induction n with
  | zero => intro σ x1 x2 x3 h; exact h.elim
  | succ n ih =>
    intro σ x1 x2 x3 h
    have hrec_265 : ∀ a : WSX12 × Int32 × Int32 × Int32, aw_loop (fun r (a : WSX12 × Int32 × Int32 × Int32) => wb_X12_checkPart_265 rc  post r a.1 a.2.1 a.2.2.1 a.2.2.2) n a → AW G MX12_checkPart d 0 0 25 (aw_pv (wX12 G) post) 265 [(0, .ref 0), (1, .int a.2.1), (2, .int a.2.2.1), (3, .int a.2.2.2)] [] (wX12 G a.1) := fun a h => ih a.1 a.2.1 a.2.2.1 a.2.2.2 h
    have h : wb_X12_checkPart_265 rc  post (aw_loop (fun r (a : WSX12 × Int32 × Int32 × Int32) => wb_X12_checkPart_265 rc  post r a.1 a.2.1 a.2.2.1 a.2.2.2) n) σ x1 x2 x3 := h
    unfold wb_X12_checkPart_265 at h
    refine aw_iload_n 3 dX12_checkPart_265 rfl rfl ?_
    refine aw_iconst (v := ((-1) : Int32)) dX12_checkPart_266 (by decide) ?_
    refine aw_icmp_eq 315 dX12_checkPart_267 (by decide) (fun c8 => ?_) (fun c8 => ?_)
    · have h := h.1 c8
      exact aw_vret rfl dX12_checkPart_315 ⟨σ, rfl, rfl, h⟩
    · have h := h.2 c8
      refine aw_aload_n 0 dX12_checkPart_270 rfl rfl ?_
      refine aw_iload_n 3 dX12_checkPart_271 rfl rfl ?_
      refine aw_iload_n 2 dX12_checkPart_272 rfl rfl ?_
      refine aw_callVT (mc1 := 0) (ms1 := 0) (mc := 0) (ms := 0) (st := []) (q := 0) (As := [.int x3, .int x2]) lX12_223 insX12_check selX12_check ⟨TX12, 50, rfl⟩ (by omega) (hrc 0 _ [x3, x2] _ h) (Nat.le_of_ble_eq_true rfl) rfl rfl rfl dX12_checkPart_273 rfl (fun _ _ hh => ?_)
      obtain ⟨τ3, rfl, rfl, h⟩ := hh
      refine aw_stk (st' := []) rfl ?_
      refine aw_aload_n 0 dX12_checkPart_276 rfl rfl ?_
      refine aw_getf (v := .ref 9) fX12_34 0 rfl rfl dX12_checkPart_277 ?_
      refine aw_iload_n 1 dX12_checkPart_280 rfl rfl ?_
      refine aw_aload_n 0 dX12_checkPart_281 rfl rfl ?_
      refine aw_getf (v := .ref 9) fX12_34 0 rfl rfl dX12_checkPart_282 ?_
      refine aw_iload_n 1 dX12_checkPart_285 rfl rfl ?_
      refine aw_zald 9 (n := 9000) (f := τ3.1.2.1.1.2.1) rfl h.1 dX12_checkPart_286 ?_
      have h := h.2
      refine aw_if_ne 299 dX12_checkPart_287 (by decide) (fun c7 => ?_) (fun c7 => ?_)
      · have h := h.1 c7
        exact aw_X12_checkPart_299 hd hdg hrc hrec_265 h
      · have h := h.2 c7
        refine aw_aload_n 0 dX12_checkPart_290 rfl rfl ?_
        refine aw_getf (v := .ref 9) fX12_34 0 rfl rfl dX12_checkPart_291 ?_
        refine aw_iload_n 3 dX12_checkPart_294 rfl rfl ?_
        refine aw_zald 9 (n := 9000) (f := τ3.1.2.1.1.2.1) rfl h.1 dX12_checkPart_295 ?_
        have h := h.2
        refine aw_if_eq 303 dX12_checkPart_296 (by decide) (fun c6 => ?_) (fun c6 => ?_)
        · have h := h.1 c6
          refine aw_iconst (v := (0 : Int32)) dX12_checkPart_303 (by decide) ?_
          exact aw_X12_checkPart_304 hd hdg hrc hrec_265 h
        · have h := h.2 c6
          exact aw_X12_checkPart_299 hd hdg hrc hrec_265 h
def wp_X12_checkPart_253 (rc : Nat → WSX12 → List Int32 → (Int32 → WSX12 → Prop) → Prop)  (post : WSX12 → Prop) (σ : WSX12) (s0 : Int32) : Prop :=
  (vp_in s0 9000 ∧ ∀ y16 : Nat → Int32, y16 = upd σ.1.2.1.1.2.1 (s0).toNatClampNeg (vp_nar .boolean (0 : Int32)) → post ((σ.1.1, (((σ.1.2.1.1.1, (y16, σ.1.2.1.1.2.2)), σ.1.2.1.2), σ.1.2.2)), σ.2))
theorem aw_X12_checkPart_253 {G : aw_G} {d : Nat} (hd : 3 ≤ d) {dg : Nat} (hdg : dg + 1 ≤ d) {rc : Nat → WSX12 → List Int32 → (Int32 → WSX12 → Prop) → Prop} (hrc : ∀ (k : Nat) (σ : WSX12) (xs : List Int32) (po : Int32 → WSX12 → Prop), rc k σ xs po → AC G (Mg_ck k) dg 0 0 25 (.ref 0 :: xs.map .int) (wX12 G σ) (aw_pv (wX12 G) (fun τ => po 0 τ))) {post : WSX12 → Prop}  {σ : WSX12} {s0 : Int32} (h : wp_X12_checkPart_253 rc  post σ s0) : AW G MX12_checkPart d 0 0 25 (aw_pv (wX12 G) post) 253 [] [.int s0, .ref 9] (wX12 G σ) := by
  unfold wp_X12_checkPart_253 at h
  refine aw_iconst (v := (0 : Int32)) dX12_checkPart_253 (by decide) ?_
  refine aw_zast 9 (n := 9000) (f := σ.1.2.1.1.2.1) (w' := fun y16 => (wX12 G ((σ.1.1, (((σ.1.2.1.1.1, (y16, σ.1.2.1.1.2.2)), σ.1.2.1.2), σ.1.2.2)), σ.2))) rfl h.1 (fun _ => rfl) dX12_checkPart_254 (fun y16 ey16 => ?_)
  have h := h.2 y16 ey16
  refine aw_goto 315 dX12_checkPart_255 (by decide) ?_
  exact aw_vret rfl dX12_checkPart_315 ⟨((σ.1.1, (((σ.1.2.1.1.1, (y16, σ.1.2.1.1.2.2)), σ.1.2.1.2), σ.1.2.2)), σ.2), rfl, rfl, h⟩
def wp_X12_checkPart_221 (rc : Nat → WSX12 → List Int32 → (Int32 → WSX12 → Prop) → Prop)  (post : WSX12 → Prop) (σ : WSX12) (x1 : Int32) (x3 : Int32) : Prop :=
  (vp_in x1 9000 ∧ ∀ y15 : Nat → Int32, y15 = upd σ.1.2.1.1.2.2 (x1).toNatClampNeg x3 → ((¬ σ.2.1.2.1.1 = 0 → wp_X12_checkPart_253 rc  post ((σ.1.1, (((σ.1.2.1.1.1, (σ.1.2.1.1.2.1, y15)), σ.1.2.1.2), σ.1.2.2)), σ.2) x1) ∧ (σ.2.1.2.1.1 = 0 → (vp_in x3 1500 ∧ (((σ.1.2.2.1.2.2 (x3).toNatClampNeg) = 0 → wp_X12_checkPart_253 rc  post ((σ.1.1, (((σ.1.2.1.1.1, (σ.1.2.1.1.2.1, y15)), σ.1.2.1.2), σ.1.2.2)), σ.2) x1) ∧ (¬ (σ.1.2.2.1.2.2 (x3).toNatClampNeg) = 0 → (vp_in x1 9000 ∧ ∀ y17 : Nat → Int32, y17 = upd σ.1.2.1.1.2.1 (x1).toNatClampNeg (vp_nar .boolean (1 : Int32)) → post ((σ.1.1, (((σ.1.2.1.1.1, (y17, y15)), σ.1.2.1.2), σ.1.2.2)), σ.2))))))))
theorem aw_X12_checkPart_221 {G : aw_G} {d : Nat} (hd : 3 ≤ d) {dg : Nat} (hdg : dg + 1 ≤ d) {rc : Nat → WSX12 → List Int32 → (Int32 → WSX12 → Prop) → Prop} (hrc : ∀ (k : Nat) (σ : WSX12) (xs : List Int32) (po : Int32 → WSX12 → Prop), rc k σ xs po → AC G (Mg_ck k) dg 0 0 25 (.ref 0 :: xs.map .int) (wX12 G σ) (aw_pv (wX12 G) (fun τ => po 0 τ))) {post : WSX12 → Prop}  {σ : WSX12} {x1 : Int32} {x3 : Int32} (h : wp_X12_checkPart_221 rc  post σ x1 x3) : AW G MX12_checkPart d 0 0 25 (aw_pv (wX12 G) post) 221 [(0, .ref 0), (1, .int x1), (3, .int x3)] [] (wX12 G σ) := by
  unfold wp_X12_checkPart_221 at h
  refine aw_aload_n 0 dX12_checkPart_221 rfl rfl ?_
  refine aw_getf (v := .ref 10) fX12_38 0 rfl rfl dX12_checkPart_222 ?_
  refine aw_iload_n 1 dX12_checkPart_225 rfl rfl ?_
  refine aw_iload_n 2 dX12_checkPart_226 rfl rfl ?_
  refine aw_iast 10 (n := 9000) (f := σ.1.2.1.1.2.2) (w' := fun y15 => (wX12 G ((σ.1.1, (((σ.1.2.1.1.1, (σ.1.2.1.1.2.1, y15)), σ.1.2.1.2), σ.1.2.2)), σ.2))) rfl h.1 (fun _ => rfl) dX12_checkPart_227 (fun y15 ey15 => ?_)
  have h := h.2 y15 ey15
  refine aw_aload_n 0 dX12_checkPart_228 rfl rfl ?_
  refine aw_getf (v := .ref 9) fX12_34 0 rfl rfl dX12_checkPart_229 ?_
  refine aw_iload_n 1 dX12_checkPart_232 rfl rfl ?_
  refine aw_aload_n 0 dX12_checkPart_233 rfl rfl ?_
  refine aw_getf (v := .int σ.2.1.2.1.1) fX12_189 0 rfl rfl dX12_checkPart_234 ?_
  refine aw_if_ne 253 dX12_checkPart_237 (by decide) (fun c19 => ?_) (fun c19 => ?_)
  · have h := h.1 c19
    refine aw_lvsub (lv' := []) [] rfl ?_
    exact aw_X12_checkPart_253 hd hdg hrc  h
  · have h := h.2 c19
    refine aw_aload_n 0 dX12_checkPart_240 rfl rfl ?_
    refine aw_getf (v := .ref 15) fX12_53 0 rfl rfl dX12_checkPart_241 ?_
    refine aw_iload_n 2 dX12_checkPart_244 rfl rfl ?_
    refine aw_zald 15 (n := 1500) (f := σ.1.2.2.1.2.2) rfl h.1 dX12_checkPart_245 ?_
    have h := h.2
    refine aw_if_eq 253 dX12_checkPart_246 (by decide) (fun c18 => ?_) (fun c18 => ?_)
    · have h := h.1 c18
      refine aw_lvsub (lv' := []) [] rfl ?_
      exact aw_X12_checkPart_253 hd hdg hrc  h
    · have h := h.2 c18
      refine aw_iconst (v := (1 : Int32)) dX12_checkPart_249 (by decide) ?_
      refine aw_goto 254 dX12_checkPart_250 (by decide) ?_
      refine aw_zast 9 (n := 9000) (f := σ.1.2.1.1.2.1) (w' := fun y17 => (wX12 G ((σ.1.1, (((σ.1.2.1.1.1, (y17, y15)), σ.1.2.1.2), σ.1.2.2)), σ.2))) rfl h.1 (fun _ => rfl) dX12_checkPart_254 (fun y17 ey17 => ?_)
      have h := h.2 y17 ey17
      refine aw_goto 315 dX12_checkPart_255 (by decide) ?_
      exact aw_vret rfl dX12_checkPart_315 ⟨((σ.1.1, (((σ.1.2.1.1.1, (y17, y15)), σ.1.2.1.2), σ.1.2.2)), σ.2), rfl, rfl, h⟩
def wp_X12_checkPart_175 (rc : Nat → WSX12 → List Int32 → (Int32 → WSX12 → Prop) → Prop)  (post : WSX12 → Prop) (σ : WSX12) (x1 : Int32) (x2 : Int32) (x3 : Int32) (x4 : Int32) : Prop :=
  (vp_in x4 9000 ∧ rc 0 σ [(σ.1.2.1.1.1 (x4).toNatClampNeg), x2] (fun _ τ14 => ((¬ τ14.2.1.2.1.1 = 0 → wp_X12_checkPart_221 rc  post τ14 x1 x3) ∧ (τ14.2.1.2.1.1 = 0 → (vp_in x4 9000 ∧ (vp_in (τ14.1.2.1.1.1 (x4).toNatClampNeg) 9000 ∧ (((τ14.1.2.1.1.2.1 ((τ14.1.2.1.1.1 (x4).toNatClampNeg)).toNatClampNeg) = 0 → wp_X12_checkPart_221 rc  post τ14 x1 x3) ∧ (¬ (τ14.1.2.1.1.2.1 ((τ14.1.2.1.1.1 (x4).toNatClampNeg)).toNatClampNeg) = 0 → (vp_in x4 9000 ∧ wp_X12_wrong τ14 (4 : Int32) (τ14.1.1.2.2.2.1 (x4).toNatClampNeg) (fun τ21 => wp_X12_checkPart_221 rc  post τ21 x1 x3))))))))))
theorem aw_X12_checkPart_175 {G : aw_G} {d : Nat} (hd : 3 ≤ d) {dg : Nat} (hdg : dg + 1 ≤ d) {rc : Nat → WSX12 → List Int32 → (Int32 → WSX12 → Prop) → Prop} (hrc : ∀ (k : Nat) (σ : WSX12) (xs : List Int32) (po : Int32 → WSX12 → Prop), rc k σ xs po → AC G (Mg_ck k) dg 0 0 25 (.ref 0 :: xs.map .int) (wX12 G σ) (aw_pv (wX12 G) (fun τ => po 0 τ))) {post : WSX12 → Prop}  {σ : WSX12} {x1 : Int32} {x2 : Int32} {x3 : Int32} {x4 : Int32} (h : wp_X12_checkPart_175 rc  post σ x1 x2 x3 x4) : AW G MX12_checkPart d 0 0 25 (aw_pv (wX12 G) post) 175 [(0, .ref 0), (1, .int x1), (2, .int x2), (3, .int x3), (4, .int x4)] [] (wX12 G σ) := by
  unfold wp_X12_checkPart_175 at h
  refine aw_aload_n 0 dX12_checkPart_175 rfl rfl ?_
  refine aw_aload_n 0 dX12_checkPart_176 rfl rfl ?_
  refine aw_getf (v := .ref 8) fX12_31 0 rfl rfl dX12_checkPart_177 ?_
  refine aw_iload 4 dX12_checkPart_180 rfl ?_
  refine aw_iald 8 (n := 9000) (f := σ.1.2.1.1.1) rfl h.1 dX12_checkPart_182 ?_
  have h := h.2
  refine aw_iload_n 2 dX12_checkPart_183 rfl rfl ?_
  refine aw_callVT (mc1 := 0) (ms1 := 0) (mc := 0) (ms := 0) (st := []) (q := 0) (As := [.int (σ.1.2.1.1.1 (x4).toNatClampNeg), .int x2]) lX12_223 insX12_check selX12_check ⟨TX12, 50, rfl⟩ (by omega) (hrc 0 _ [(σ.1.2.1.1.1 (x4).toNatClampNeg), x2] _ h) (Nat.le_of_ble_eq_true rfl) rfl rfl rfl dX12_checkPart_184 rfl (fun _ _ hh => ?_)
  obtain ⟨τ14, rfl, rfl, h⟩ := hh
  refine aw_stk (st' := []) rfl ?_
  refine aw_aload_n 0 dX12_checkPart_187 rfl rfl ?_
  refine aw_getf (v := .int τ14.2.1.2.1.1) fX12_189 0 rfl rfl dX12_checkPart_188 ?_
  refine aw_if_ne 221 dX12_checkPart_191 (by decide) (fun c23 => ?_) (fun c23 => ?_)
  · have h := h.1 c23
    refine aw_lvsub (lv' := [(0, .ref 0), (1, .int x1), (3, .int x3)]) [0, 1, 3] rfl ?_
    exact aw_X12_checkPart_221 hd hdg hrc  h
  · have h := h.2 c23
    refine aw_aload_n 0 dX12_checkPart_194 rfl rfl ?_
    refine aw_getf (v := .ref 9) fX12_34 0 rfl rfl dX12_checkPart_195 ?_
    refine aw_aload_n 0 dX12_checkPart_198 rfl rfl ?_
    refine aw_getf (v := .ref 8) fX12_31 0 rfl rfl dX12_checkPart_199 ?_
    refine aw_iload 4 dX12_checkPart_202 rfl ?_
    refine aw_iald 8 (n := 9000) (f := τ14.1.2.1.1.1) rfl h.1 dX12_checkPart_204 ?_
    have h := h.2
    refine aw_zald 9 (n := 9000) (f := τ14.1.2.1.1.2.1) rfl h.1 dX12_checkPart_205 ?_
    have h := h.2
    refine aw_if_eq 221 dX12_checkPart_206 (by decide) (fun c22 => ?_) (fun c22 => ?_)
    · have h := h.1 c22
      refine aw_lvsub (lv' := [(0, .ref 0), (1, .int x1), (3, .int x3)]) [0, 1, 3] rfl ?_
      exact aw_X12_checkPart_221 hd hdg hrc  h
    · have h := h.2 c22
      refine aw_aload_n 0 dX12_checkPart_209 rfl rfl ?_
      refine aw_iconst (v := (4 : Int32)) dX12_checkPart_210 (by decide) ?_
      refine aw_aload_n 0 dX12_checkPart_211 rfl rfl ?_
      refine aw_getf (v := .ref 6) fX12_25 0 rfl rfl dX12_checkPart_212 ?_
      refine aw_iload 4 dX12_checkPart_215 rfl ?_
      refine aw_iald 6 (n := 9000) (f := τ14.1.1.2.2.2.1) rfl h.1 dX12_checkPart_217 ?_
      have h := h.2
      refine aw_callVT (mc1 := 0) (ms1 := 0) (mc := 0) (ms := 0) (st := []) (q := 0) (As := [.int (4 : Int32), .int (τ14.1.1.2.2.2.1 (x4).toNatClampNeg)]) lX12_201 insX12_wrong selX12_wrong ⟨TX12, 50, rfl⟩ (by omega) (kX12_wrong (d := 0) (by omega) h) (Nat.le_of_ble_eq_true rfl) rfl rfl rfl dX12_checkPart_218 rfl (fun _ _ hh => ?_)
      obtain ⟨τ21, rfl, rfl, h⟩ := hh
      refine aw_stk (st' := []) rfl ?_
      refine aw_lvsub (lv' := [(0, .ref 0), (1, .int x1), (3, .int x3)]) [0, 1, 3] rfl ?_
      exact aw_X12_checkPart_221 hd hdg hrc  h
def wp_X12_checkPart_148 (rc : Nat → WSX12 → List Int32 → (Int32 → WSX12 → Prop) → Prop)  (post : WSX12 → Prop) (σ : WSX12) (x1 : Int32) (x2 : Int32) (x3 : Int32) (x4 : Int32) : Prop :=
  ((¬ σ.2.1.2.1.1 = 0 → wp_X12_checkPart_175 rc  post σ x1 x2 x3 x4) ∧ (σ.2.1.2.1.1 = 0 → (vp_in x3 1500 ∧ ((¬ (σ.1.2.2.1.2.1 (x3).toNatClampNeg) = 0 → wp_X12_checkPart_175 rc  post σ x1 x2 x3 x4) ∧ ((σ.1.2.2.1.2.1 (x3).toNatClampNeg) = 0 → (vp_in x1 9000 ∧ wp_X12_wrong σ (3 : Int32) (σ.1.1.2.2.2.1 (x1).toNatClampNeg) (fun τ25 => wp_X12_checkPart_175 rc  post τ25 x1 x2 x3 x4)))))))
theorem aw_X12_checkPart_148 {G : aw_G} {d : Nat} (hd : 3 ≤ d) {dg : Nat} (hdg : dg + 1 ≤ d) {rc : Nat → WSX12 → List Int32 → (Int32 → WSX12 → Prop) → Prop} (hrc : ∀ (k : Nat) (σ : WSX12) (xs : List Int32) (po : Int32 → WSX12 → Prop), rc k σ xs po → AC G (Mg_ck k) dg 0 0 25 (.ref 0 :: xs.map .int) (wX12 G σ) (aw_pv (wX12 G) (fun τ => po 0 τ))) {post : WSX12 → Prop}  {σ : WSX12} {x1 : Int32} {x2 : Int32} {x3 : Int32} {x4 : Int32} (h : wp_X12_checkPart_148 rc  post σ x1 x2 x3 x4) : AW G MX12_checkPart d 0 0 25 (aw_pv (wX12 G) post) 148 [(0, .ref 0), (1, .int x1), (2, .int x2), (3, .int x3), (4, .int x4)] [] (wX12 G σ) := by
  unfold wp_X12_checkPart_148 at h
  refine aw_aload_n 0 dX12_checkPart_148 rfl rfl ?_
  refine aw_getf (v := .int σ.2.1.2.1.1) fX12_189 0 rfl rfl dX12_checkPart_149 ?_
  refine aw_if_ne 175 dX12_checkPart_152 (by decide) (fun c27 => ?_) (fun c27 => ?_)
  · have h := h.1 c27
    exact aw_X12_checkPart_175 hd hdg hrc  h
  · have h := h.2 c27
    refine aw_aload_n 0 dX12_checkPart_155 rfl rfl ?_
    refine aw_getf (v := .ref 14) fX12_50 0 rfl rfl dX12_checkPart_156 ?_
    refine aw_iload_n 3 dX12_checkPart_159 rfl rfl ?_
    refine aw_zald 14 (n := 1500) (f := σ.1.2.2.1.2.1) rfl h.1 dX12_checkPart_160 ?_
    have h := h.2
    refine aw_if_ne 175 dX12_checkPart_161 (by decide) (fun c26 => ?_) (fun c26 => ?_)
    · have h := h.1 c26
      exact aw_X12_checkPart_175 hd hdg hrc  h
    · have h := h.2 c26
      refine aw_aload_n 0 dX12_checkPart_164 rfl rfl ?_
      refine aw_iconst (v := (3 : Int32)) dX12_checkPart_165 (by decide) ?_
      refine aw_aload_n 0 dX12_checkPart_166 rfl rfl ?_
      refine aw_getf (v := .ref 6) fX12_25 0 rfl rfl dX12_checkPart_167 ?_
      refine aw_iload_n 1 dX12_checkPart_170 rfl rfl ?_
      refine aw_iald 6 (n := 9000) (f := σ.1.1.2.2.2.1) rfl h.1 dX12_checkPart_171 ?_
      have h := h.2
      refine aw_callVT (mc1 := 0) (ms1 := 0) (mc := 0) (ms := 0) (st := []) (q := 0) (As := [.int (3 : Int32), .int (σ.1.1.2.2.2.1 (x1).toNatClampNeg)]) lX12_201 insX12_wrong selX12_wrong ⟨TX12, 50, rfl⟩ (by omega) (kX12_wrong (d := 0) (by omega) h) (Nat.le_of_ble_eq_true rfl) rfl rfl rfl dX12_checkPart_172 rfl (fun _ _ hh => ?_)
      obtain ⟨τ25, rfl, rfl, h⟩ := hh
      refine aw_stk (st' := []) rfl ?_
      exact aw_X12_checkPart_175 hd hdg hrc  h
def wp_X12_checkPart_88 (rc : Nat → WSX12 → List Int32 → (Int32 → WSX12 → Prop) → Prop)  (post : WSX12 → Prop) (σ : WSX12) (s0 : Int32) : Prop :=
  (vp_in s0 9000 ∧ ∀ y36 : Nat → Int32, y36 = upd σ.1.2.1.1.2.1 (s0).toNatClampNeg (vp_nar .boolean (0 : Int32)) → post ((σ.1.1, (((σ.1.2.1.1.1, (y36, σ.1.2.1.1.2.2)), σ.1.2.1.2), σ.1.2.2)), σ.2))
theorem aw_X12_checkPart_88 {G : aw_G} {d : Nat} (hd : 3 ≤ d) {dg : Nat} (hdg : dg + 1 ≤ d) {rc : Nat → WSX12 → List Int32 → (Int32 → WSX12 → Prop) → Prop} (hrc : ∀ (k : Nat) (σ : WSX12) (xs : List Int32) (po : Int32 → WSX12 → Prop), rc k σ xs po → AC G (Mg_ck k) dg 0 0 25 (.ref 0 :: xs.map .int) (wX12 G σ) (aw_pv (wX12 G) (fun τ => po 0 τ))) {post : WSX12 → Prop}  {σ : WSX12} {s0 : Int32} (h : wp_X12_checkPart_88 rc  post σ s0) : AW G MX12_checkPart d 0 0 25 (aw_pv (wX12 G) post) 88 [] [.int s0, .ref 9] (wX12 G σ) := by
  unfold wp_X12_checkPart_88 at h
  refine aw_iconst (v := (0 : Int32)) dX12_checkPart_88 (by decide) ?_
  refine aw_zast 9 (n := 9000) (f := σ.1.2.1.1.2.1) (w' := fun y36 => (wX12 G ((σ.1.1, (((σ.1.2.1.1.1, (y36, σ.1.2.1.1.2.2)), σ.1.2.1.2), σ.1.2.2)), σ.2))) rfl h.1 (fun _ => rfl) dX12_checkPart_89 (fun y36 ey36 => ?_)
  have h := h.2 y36 ey36
  refine aw_goto 315 dX12_checkPart_90 (by decide) ?_
  exact aw_vret rfl dX12_checkPart_315 ⟨((σ.1.1, (((σ.1.2.1.1.1, (y36, σ.1.2.1.1.2.2)), σ.1.2.1.2), σ.1.2.2)), σ.2), rfl, rfl, h⟩
def wp_X12_checkPart_56 (rc : Nat → WSX12 → List Int32 → (Int32 → WSX12 → Prop) → Prop)  (post : WSX12 → Prop) (σ : WSX12) (x1 : Int32) (x3 : Int32) : Prop :=
  (vp_in x1 9000 ∧ ∀ y35 : Nat → Int32, y35 = upd σ.1.2.1.1.2.2 (x1).toNatClampNeg x3 → ((¬ σ.2.1.2.1.1 = 0 → wp_X12_checkPart_88 rc  post ((σ.1.1, (((σ.1.2.1.1.1, (σ.1.2.1.1.2.1, y35)), σ.1.2.1.2), σ.1.2.2)), σ.2) x1) ∧ (σ.2.1.2.1.1 = 0 → (vp_in x3 1500 ∧ (((σ.1.2.2.1.2.2 (x3).toNatClampNeg) = 0 → wp_X12_checkPart_88 rc  post ((σ.1.1, (((σ.1.2.1.1.1, (σ.1.2.1.1.2.1, y35)), σ.1.2.1.2), σ.1.2.2)), σ.2) x1) ∧ (¬ (σ.1.2.2.1.2.2 (x3).toNatClampNeg) = 0 → (vp_in x1 9000 ∧ ∀ y37 : Nat → Int32, y37 = upd σ.1.2.1.1.2.1 (x1).toNatClampNeg (vp_nar .boolean (1 : Int32)) → post ((σ.1.1, (((σ.1.2.1.1.1, (y37, y35)), σ.1.2.1.2), σ.1.2.2)), σ.2))))))))
theorem aw_X12_checkPart_56 {G : aw_G} {d : Nat} (hd : 3 ≤ d) {dg : Nat} (hdg : dg + 1 ≤ d) {rc : Nat → WSX12 → List Int32 → (Int32 → WSX12 → Prop) → Prop} (hrc : ∀ (k : Nat) (σ : WSX12) (xs : List Int32) (po : Int32 → WSX12 → Prop), rc k σ xs po → AC G (Mg_ck k) dg 0 0 25 (.ref 0 :: xs.map .int) (wX12 G σ) (aw_pv (wX12 G) (fun τ => po 0 τ))) {post : WSX12 → Prop}  {σ : WSX12} {x1 : Int32} {x3 : Int32} (h : wp_X12_checkPart_56 rc  post σ x1 x3) : AW G MX12_checkPart d 0 0 25 (aw_pv (wX12 G) post) 56 [(0, .ref 0), (1, .int x1), (3, .int x3)] [] (wX12 G σ) := by
  unfold wp_X12_checkPart_56 at h
  refine aw_aload_n 0 dX12_checkPart_56 rfl rfl ?_
  refine aw_getf (v := .ref 10) fX12_38 0 rfl rfl dX12_checkPart_57 ?_
  refine aw_iload_n 1 dX12_checkPart_60 rfl rfl ?_
  refine aw_iload_n 2 dX12_checkPart_61 rfl rfl ?_
  refine aw_iast 10 (n := 9000) (f := σ.1.2.1.1.2.2) (w' := fun y35 => (wX12 G ((σ.1.1, (((σ.1.2.1.1.1, (σ.1.2.1.1.2.1, y35)), σ.1.2.1.2), σ.1.2.2)), σ.2))) rfl h.1 (fun _ => rfl) dX12_checkPart_62 (fun y35 ey35 => ?_)
  have h := h.2 y35 ey35
  refine aw_aload_n 0 dX12_checkPart_63 rfl rfl ?_
  refine aw_getf (v := .ref 9) fX12_34 0 rfl rfl dX12_checkPart_64 ?_
  refine aw_iload_n 1 dX12_checkPart_67 rfl rfl ?_
  refine aw_aload_n 0 dX12_checkPart_68 rfl rfl ?_
  refine aw_getf (v := .int σ.2.1.2.1.1) fX12_189 0 rfl rfl dX12_checkPart_69 ?_
  refine aw_if_ne 88 dX12_checkPart_72 (by decide) (fun c39 => ?_) (fun c39 => ?_)
  · have h := h.1 c39
    refine aw_lvsub (lv' := []) [] rfl ?_
    exact aw_X12_checkPart_88 hd hdg hrc  h
  · have h := h.2 c39
    refine aw_aload_n 0 dX12_checkPart_75 rfl rfl ?_
    refine aw_getf (v := .ref 15) fX12_53 0 rfl rfl dX12_checkPart_76 ?_
    refine aw_iload_n 2 dX12_checkPart_79 rfl rfl ?_
    refine aw_zald 15 (n := 1500) (f := σ.1.2.2.1.2.2) rfl h.1 dX12_checkPart_80 ?_
    have h := h.2
    refine aw_if_eq 88 dX12_checkPart_81 (by decide) (fun c38 => ?_) (fun c38 => ?_)
    · have h := h.1 c38
      refine aw_lvsub (lv' := []) [] rfl ?_
      exact aw_X12_checkPart_88 hd hdg hrc  h
    · have h := h.2 c38
      refine aw_iconst (v := (1 : Int32)) dX12_checkPart_84 (by decide) ?_
      refine aw_goto 89 dX12_checkPart_85 (by decide) ?_
      refine aw_zast 9 (n := 9000) (f := σ.1.2.1.1.2.1) (w' := fun y37 => (wX12 G ((σ.1.1, (((σ.1.2.1.1.1, (y37, y35)), σ.1.2.1.2), σ.1.2.2)), σ.2))) rfl h.1 (fun _ => rfl) dX12_checkPart_89 (fun y37 ey37 => ?_)
      have h := h.2 y37 ey37
      refine aw_goto 315 dX12_checkPart_90 (by decide) ?_
      exact aw_vret rfl dX12_checkPart_315 ⟨((σ.1.1, (((σ.1.2.1.1.1, (y37, y35)), σ.1.2.1.2), σ.1.2.2)), σ.2), rfl, rfl, h⟩
def wp_X12_checkPart (rc : Nat → WSX12 → List Int32 → (Int32 → WSX12 → Prop) → Prop) (σ : WSX12) (a1 : Int32) (a2 : Int32) (post : WSX12 → Prop) : Prop :=
  ((σ.2.1.2.1.1 = 0 → (vp_in a1 9000 ∧ ((¬ (σ.1.1.2.2.1 (a1).toNatClampNeg) = (1 : Int32) → (vp_in a1 9000 ∧ ((¬ (σ.1.1.2.2.1 (a1).toNatClampNeg) = (303 : Int32) → (vp_in a1 9000 ∧ (∀ y1 : Int32, y1 = (σ.1.1.2.2.2.2 (a1).toNatClampNeg) → (∃ n9, wp_X12_checkPart_265 rc  post n9 σ a1 a2 y1)))) ∧ ((σ.1.1.2.2.1 (a1).toNatClampNeg) = (303 : Int32) → (vp_in a1 9000 ∧ wp_X12_name σ (σ.1.1.2.2.2.1 (a1).toNatClampNeg) (fun r10 τ11 => (vp_in a1 9000 ∧ (∀ y12 : Int32, y12 = (τ11.1.1.2.2.2.2 (a1).toNatClampNeg) → ((¬ τ11.2.1.2.1.1 = 0 → wp_X12_checkPart_148 rc  post τ11 a1 a2 r10 y12) ∧ (τ11.2.1.2.1.1 = 0 → ((a2 = 0 → wp_X12_checkPart_148 rc  post τ11 a1 a2 r10 y12) ∧ (¬ a2 = 0 → (vp_in y12 9000 ∧ wp_X12_wrong τ11 (8 : Int32) (τ11.1.1.2.2.2.1 (y12).toNatClampNeg) (fun τ29 => wp_X12_checkPart_148 rc  post τ29 a1 a2 r10 y12)))))))))))))) ∧ ((σ.1.1.2.2.1 (a1).toNatClampNeg) = (1 : Int32) → (vp_in a1 9000 ∧ wp_X12_name σ (σ.1.1.2.2.2.1 (a1).toNatClampNeg) (fun r33 τ34 => ((¬ τ34.2.1.2.1.1 = 0 → wp_X12_checkPart_56 rc  post τ34 a1 r33) ∧ (τ34.2.1.2.1.1 = 0 → (vp_in r33 1500 ∧ (((τ34.1.2.2.1.2.1 (r33).toNatClampNeg) = 0 → wp_X12_checkPart_56 rc  post τ34 a1 r33) ∧ (¬ (τ34.1.2.2.1.2.1 (r33).toNatClampNeg) = 0 → (vp_in a1 9000 ∧ wp_X12_wrong τ34 (3 : Int32) (τ34.1.1.2.2.2.1 (a1).toNatClampNeg) (fun τ41 => wp_X12_checkPart_56 rc  post τ41 a1 r33))))))))))))) ∧ (¬ σ.2.1.2.1.1 = 0 → post σ))
theorem kX12_checkPart {G : aw_G} {d : Nat} (hd : 3 ≤ d) {dg : Nat} (hdg : dg + 1 ≤ d) {rc : Nat → WSX12 → List Int32 → (Int32 → WSX12 → Prop) → Prop} (hrc : ∀ (k : Nat) (σ : WSX12) (xs : List Int32) (po : Int32 → WSX12 → Prop), rc k σ xs po → AC G (Mg_ck k) dg 0 0 25 (.ref 0 :: xs.map .int) (wX12 G σ) (aw_pv (wX12 G) (fun τ => po 0 τ))) {σ : WSX12} {a1 : Int32} {a2 : Int32} {post : WSX12 → Prop} (h : wp_X12_checkPart rc σ a1 a2 post) : AC G MX12_checkPart d 0 0 25 [.ref 0, .int a1, .int a2] (wX12 G σ) (aw_pv (wX12 G) post) := by
  refine AC.of (lv := [(0, .ref 0), (1, .int a1), (2, .int a2)]) (by decide) (Nat.le_of_ble_eq_true rfl) rfl ?_
  unfold wp_X12_checkPart at h
  refine aw_aload_n 0 dX12_checkPart_0 rfl rfl ?_
  refine aw_getf (v := .int σ.2.1.2.1.1) fX12_189 0 rfl rfl dX12_checkPart_1 ?_
  refine aw_if_eq 8 dX12_checkPart_4 (by decide) (fun c45 => ?_) (fun c45 => ?_)
  · have h := h.1 c45
    refine aw_aload_n 0 dX12_checkPart_8 rfl rfl ?_
    refine aw_getf (v := .ref 5) fX12_22 0 rfl rfl dX12_checkPart_9 ?_
    refine aw_iload_n 1 dX12_checkPart_12 rfl rfl ?_
    refine aw_iald 5 (n := 9000) (f := σ.1.1.2.2.1) rfl h.1 dX12_checkPart_13 ?_
    have h := h.2
    refine aw_iconst (v := (1 : Int32)) dX12_checkPart_14 (by decide) ?_
    refine aw_icmp_ne 93 dX12_checkPart_15 (by decide) (fun c44 => ?_) (fun c44 => ?_)
    · have h := h.1 c44
      refine aw_aload_n 0 dX12_checkPart_93 rfl rfl ?_
      refine aw_getf (v := .ref 5) fX12_22 0 rfl rfl dX12_checkPart_94 ?_
      refine aw_iload_n 1 dX12_checkPart_97 rfl rfl ?_
      refine aw_iald 5 (n := 9000) (f := σ.1.1.2.2.1) rfl h.1 dX12_checkPart_98 ?_
      have h := h.2
      refine aw_sipush (v := (303 : Int32)) dX12_checkPart_99 (by decide) ?_
      refine aw_icmp_ne 258 dX12_checkPart_102 (by decide) (fun c32 => ?_) (fun c32 => ?_)
      · have h := h.1 c32
        refine aw_aload_n 0 dX12_checkPart_258 rfl rfl ?_
        refine aw_getf (v := .ref 7) fX12_28 0 rfl rfl dX12_checkPart_259 ?_
        refine aw_iload_n 1 dX12_checkPart_262 rfl rfl ?_
        refine aw_iald 7 (n := 9000) (f := σ.1.1.2.2.2.2) rfl h.1 dX12_checkPart_263 ?_
        have h := h.2
        refine aw_topi (fun y1 ey1 => ?_)
        have h := h y1 ey1
        refine aw_istore_n (lv' := [(3, .int y1), (0, .ref 0), (1, .int a1), (2, .int a2)]) dX12_checkPart_264 rfl (by decide) rfl ?_
        refine aw_lvsub (lv' := [(0, .ref 0), (1, .int a1), (2, .int a2), (3, .int y1)]) [1, 2, 3, 0] rfl ?_
        obtain ⟨n9, h⟩ := h
        exact aw_X12_checkPart_265 hd hdg hrc  n9 σ a1 a2 y1 h
      · have h := h.2 c32
        refine aw_aload_n 0 dX12_checkPart_105 rfl rfl ?_
        refine aw_aload_n 0 dX12_checkPart_106 rfl rfl ?_
        refine aw_getf (v := .ref 6) fX12_25 0 rfl rfl dX12_checkPart_107 ?_
        refine aw_iload_n 1 dX12_checkPart_110 rfl rfl ?_
        refine aw_iald 6 (n := 9000) (f := σ.1.1.2.2.2.1) rfl h.1 dX12_checkPart_111 ?_
        have h := h.2
        refine aw_callVT (mc1 := 0) (ms1 := 0) (mc := 0) (ms := 0) (st := []) (q := 0) (As := [.int (σ.1.1.2.2.2.1 (a1).toNatClampNeg)]) lX12_226 insX12_name selX12_name ⟨TX12, 50, rfl⟩ (by omega) (kX12_name (d := 2) (by omega) h) (Nat.le_of_ble_eq_true rfl) rfl rfl rfl dX12_checkPart_112 rfl (fun _ _ hh => ?_)
        obtain ⟨r10, τ11, rfl, rfl, h⟩ := hh
        refine aw_stk (st' := [.int r10]) rfl ?_
        refine aw_istore_n (lv' := [(3, .int r10), (0, .ref 0), (1, .int a1), (2, .int a2)]) dX12_checkPart_115 rfl (by decide) rfl ?_
        refine aw_aload_n 1 dX12_checkPart_116 rfl rfl ?_
        refine aw_getf (v := .ref 7) fX12_28 0 rfl rfl dX12_checkPart_117 ?_
        refine aw_iload_n 2 dX12_checkPart_120 rfl rfl ?_
        refine aw_iald 7 (n := 9000) (f := τ11.1.1.2.2.2.2) rfl h.1 dX12_checkPart_121 ?_
        have h := h.2
        refine aw_topi (fun y12 ey12 => ?_)
        have h := h y12 ey12
        refine aw_istore (lv' := [(4, .int y12), (3, .int r10), (0, .ref 0), (1, .int a1), (2, .int a2)]) dX12_checkPart_122 (by decide) rfl ?_
        refine aw_aload_n 2 dX12_checkPart_124 rfl rfl ?_
        refine aw_getf (v := .int τ11.2.1.2.1.1) fX12_189 0 rfl rfl dX12_checkPart_125 ?_
        refine aw_if_ne 148 dX12_checkPart_128 (by decide) (fun c31 => ?_) (fun c31 => ?_)
        · have h := h.1 c31
          refine aw_lvsub (lv' := [(0, .ref 0), (1, .int a1), (2, .int a2), (3, .int r10), (4, .int y12)]) [2, 3, 4, 1, 0] rfl ?_
          exact aw_X12_checkPart_148 hd hdg hrc  h
        · have h := h.2 c31
          refine aw_iload_n 4 dX12_checkPart_131 rfl rfl ?_
          refine aw_if_eq 148 dX12_checkPart_132 (by decide) (fun c30 => ?_) (fun c30 => ?_)
          · have h := h.1 c30
            refine aw_lvsub (lv' := [(0, .ref 0), (1, .int a1), (2, .int a2), (3, .int r10), (4, .int y12)]) [2, 3, 4, 1, 0] rfl ?_
            exact aw_X12_checkPart_148 hd hdg hrc  h
          · have h := h.2 c30
            refine aw_aload_n 2 dX12_checkPart_135 rfl rfl ?_
            refine aw_bipush (v := (8 : Int32)) dX12_checkPart_136 (by decide) ?_
            refine aw_aload_n 2 dX12_checkPart_138 rfl rfl ?_
            refine aw_getf (v := .ref 6) fX12_25 0 rfl rfl dX12_checkPart_139 ?_
            refine aw_iload 0 dX12_checkPart_142 rfl ?_
            refine aw_iald 6 (n := 9000) (f := τ11.1.1.2.2.2.1) rfl h.1 dX12_checkPart_144 ?_
            have h := h.2
            refine aw_callVT (mc1 := 0) (ms1 := 0) (mc := 0) (ms := 0) (st := []) (q := 0) (As := [.int (8 : Int32), .int (τ11.1.1.2.2.2.1 (y12).toNatClampNeg)]) lX12_201 insX12_wrong selX12_wrong ⟨TX12, 50, rfl⟩ (by omega) (kX12_wrong (d := 0) (by omega) h) (Nat.le_of_ble_eq_true rfl) rfl rfl rfl dX12_checkPart_145 rfl (fun _ _ hh => ?_)
            obtain ⟨τ29, rfl, rfl, h⟩ := hh
            refine aw_stk (st' := []) rfl ?_
            refine aw_lvsub (lv' := [(0, .ref 0), (1, .int a1), (2, .int a2), (3, .int r10), (4, .int y12)]) [2, 3, 4, 1, 0] rfl ?_
            exact aw_X12_checkPart_148 hd hdg hrc  h
    · have h := h.2 c44
      refine aw_aload_n 0 dX12_checkPart_18 rfl rfl ?_
      refine aw_aload_n 0 dX12_checkPart_19 rfl rfl ?_
      refine aw_getf (v := .ref 6) fX12_25 0 rfl rfl dX12_checkPart_20 ?_
      refine aw_iload_n 1 dX12_checkPart_23 rfl rfl ?_
      refine aw_iald 6 (n := 9000) (f := σ.1.1.2.2.2.1) rfl h.1 dX12_checkPart_24 ?_
      have h := h.2
      refine aw_callVT (mc1 := 0) (ms1 := 0) (mc := 0) (ms := 0) (st := []) (q := 0) (As := [.int (σ.1.1.2.2.2.1 (a1).toNatClampNeg)]) lX12_226 insX12_name selX12_name ⟨TX12, 50, rfl⟩ (by omega) (kX12_name (d := 2) (by omega) h) (Nat.le_of_ble_eq_true rfl) rfl rfl rfl dX12_checkPart_25 rfl (fun _ _ hh => ?_)
      obtain ⟨r33, τ34, rfl, rfl, h⟩ := hh
      refine aw_stk (st' := [.int r33]) rfl ?_
      refine aw_istore_n (lv' := [(3, .int r33), (0, .ref 0), (1, .int a1), (2, .int a2)]) dX12_checkPart_28 rfl (by decide) rfl ?_
      refine aw_aload_n 1 dX12_checkPart_29 rfl rfl ?_
      refine aw_getf (v := .int τ34.2.1.2.1.1) fX12_189 0 rfl rfl dX12_checkPart_30 ?_
      refine aw_if_ne 56 dX12_checkPart_33 (by decide) (fun c43 => ?_) (fun c43 => ?_)
      · have h := h.1 c43
        refine aw_lvsub (lv' := [(0, .ref 0), (1, .int a1), (3, .int r33)]) [1, 2, 0] rfl ?_
        exact aw_X12_checkPart_56 hd hdg hrc  h
      · have h := h.2 c43
        refine aw_aload_n 1 dX12_checkPart_36 rfl rfl ?_
        refine aw_getf (v := .ref 14) fX12_50 0 rfl rfl dX12_checkPart_37 ?_
        refine aw_iload_n 0 dX12_checkPart_40 rfl rfl ?_
        refine aw_zald 14 (n := 1500) (f := τ34.1.2.2.1.2.1) rfl h.1 dX12_checkPart_41 ?_
        have h := h.2
        refine aw_if_eq 56 dX12_checkPart_42 (by decide) (fun c42 => ?_) (fun c42 => ?_)
        · have h := h.1 c42
          refine aw_lvsub (lv' := [(0, .ref 0), (1, .int a1), (3, .int r33)]) [1, 2, 0] rfl ?_
          exact aw_X12_checkPart_56 hd hdg hrc  h
        · have h := h.2 c42
          refine aw_aload_n 1 dX12_checkPart_45 rfl rfl ?_
          refine aw_iconst (v := (3 : Int32)) dX12_checkPart_46 (by decide) ?_
          refine aw_aload_n 1 dX12_checkPart_47 rfl rfl ?_
          refine aw_getf (v := .ref 6) fX12_25 0 rfl rfl dX12_checkPart_48 ?_
          refine aw_iload_n 2 dX12_checkPart_51 rfl rfl ?_
          refine aw_iald 6 (n := 9000) (f := τ34.1.1.2.2.2.1) rfl h.1 dX12_checkPart_52 ?_
          have h := h.2
          refine aw_callVT (mc1 := 0) (ms1 := 0) (mc := 0) (ms := 0) (st := []) (q := 0) (As := [.int (3 : Int32), .int (τ34.1.1.2.2.2.1 (a1).toNatClampNeg)]) lX12_201 insX12_wrong selX12_wrong ⟨TX12, 50, rfl⟩ (by omega) (kX12_wrong (d := 0) (by omega) h) (Nat.le_of_ble_eq_true rfl) rfl rfl rfl dX12_checkPart_53 rfl (fun _ _ hh => ?_)
          obtain ⟨τ41, rfl, rfl, h⟩ := hh
          refine aw_stk (st' := []) rfl ?_
          refine aw_lvsub (lv' := [(0, .ref 0), (1, .int a1), (3, .int r33)]) [1, 2, 0] rfl ?_
          exact aw_X12_checkPart_56 hd hdg hrc  h
  · have h := h.2 c45
    exact aw_vret rfl dX12_checkPart_7 ⟨σ, rfl, rfl, h⟩
def wg_ck : Nat → Nat → WSX12 → List Int32 → (Int32 → WSX12 → Prop) → Prop
  | 0, _, _, _, _ => False
  | n + 1, k, σ, xs, po => match k, xs with
    | 0, [a0, a1] => wp_X12_check (wg_ck n) σ a0 a1 (po 0)
    | 1, [a0, a1] => wp_X12_checkPart (wg_ck n) σ a0 a1 (po 0)
    | _, _ => False
theorem kg_ck {G : aw_G} : ∀ (n k : Nat) (σ : WSX12) (xs : List Int32) (po : Int32 → WSX12 → Prop), wg_ck n k σ xs po → AC G (Mg_ck k) (3 + n) 0 0 25 (.ref 0 :: xs.map .int) (wX12 G σ) (aw_pv (wX12 G) (fun τ => po 0 τ)) := by
  intro n
  induction n with
  | zero => intro k σ xs po h; exact h.elim
  | succ n ih =>
    intro k σ xs po h
    unfold wg_ck at h
    split at h
    · exact kX12_check (d := 3 + (n + 1)) (by omega) (dg := 3 + n) (by omega) ih h
    · exact kX12_checkPart (d := 3 + (n + 1)) (by omega) (dg := 3 + n) (by omega) ih h
    · exact h.elim
def Mg_ca (k : Nat) : aw_M := match k with
  | 0 => MX12_checkAll
  | _ => MX12_checkOne
def wp_X12_checkAll_53 (rc : Nat → WSX12 → List Int32 → (Int32 → WSX12 → Prop) → Prop) (rec_7 : WSX12 × Int32 × Int32 → Prop) (post : WSX12 → Prop) (σ : WSX12) (x2 : Int32) (x3 : Int32) : Prop :=
  (vp_in x3 9000 ∧ (∀ y4 : Int32, y4 = (σ.1.2.1.1.1 (x3).toNatClampNeg) → rec_7 (σ, x2, y4)))
theorem aw_X12_checkAll_53 {G : aw_G} {d : Nat} (hd : 3 ≤ d) {dg : Nat} (hdg : dg + 1 ≤ d) {rc : Nat → WSX12 → List Int32 → (Int32 → WSX12 → Prop) → Prop} (hrc : ∀ (k : Nat) (σ : WSX12) (xs : List Int32) (po : Int32 → WSX12 → Prop), rc k σ xs po → AC G (Mg_ca k) dg 0 0 25 (.ref 0 :: xs.map .int) (wX12 G σ) (aw_pv (wX12 G) (fun τ => po 0 τ))) {rec_7 : WSX12 × Int32 × Int32 → Prop} {post : WSX12 → Prop} (hrec_7 : ∀ a : WSX12 × Int32 × Int32, rec_7 a → AW G MX12_checkAll d 0 0 25 (aw_pv (wX12 G) post) 7 [(0, .ref 0), (2, .int a.2.1), (3, .int a.2.2)] [] (wX12 G a.1)) {σ : WSX12} {x2 : Int32} {x3 : Int32} (h : wp_X12_checkAll_53 rc rec_7 post σ x2 x3) : AW G MX12_checkAll d 0 0 25 (aw_pv (wX12 G) post) 53 [(0, .ref 0), (2, .int x2), (3, .int x3)] [] (wX12 G σ) := by
  unfold wp_X12_checkAll_53 at h
  refine aw_aload_n 0 dX12_checkAll_53 rfl rfl ?_
  refine aw_getf (v := .ref 8) fX12_31 0 rfl rfl dX12_checkAll_54 ?_
  refine aw_iload_n 2 dX12_checkAll_57 rfl rfl ?_
  refine aw_iald 8 (n := 9000) (f := σ.1.2.1.1.1) rfl h.1 dX12_checkAll_58 ?_
  have h := h.2
  refine aw_topi (fun y4 ey4 => ?_)
  have h := h y4 ey4
  refine aw_istore_n (lv' := [(3, .int y4), (0, .ref 0), (2, .int x2)]) dX12_checkAll_59 rfl (by decide) rfl ?_
  refine aw_goto 7 dX12_checkAll_60 (by decide) ?_
  refine aw_lvsub (lv' := [(0, .ref 0), (2, .int x2), (3, .int y4)]) [1, 2, 0] rfl ?_
  exact hrec_7 (σ, x2, y4) h
def wp_X12_checkAll_39 (rc : Nat → WSX12 → List Int32 → (Int32 → WSX12 → Prop) → Prop) (rec_7 : WSX12 × Int32 × Int32 → Prop) (post : WSX12 → Prop) (σ : WSX12) (x2 : Int32) (x3 : Int32) : Prop :=
  wp_X12_declare σ x3 (fun τ3 => wp_X12_checkAll_53 rc rec_7 post τ3 x2 x3)
theorem aw_X12_checkAll_39 {G : aw_G} {d : Nat} (hd : 3 ≤ d) {dg : Nat} (hdg : dg + 1 ≤ d) {rc : Nat → WSX12 → List Int32 → (Int32 → WSX12 → Prop) → Prop} (hrc : ∀ (k : Nat) (σ : WSX12) (xs : List Int32) (po : Int32 → WSX12 → Prop), rc k σ xs po → AC G (Mg_ca k) dg 0 0 25 (.ref 0 :: xs.map .int) (wX12 G σ) (aw_pv (wX12 G) (fun τ => po 0 τ))) {rec_7 : WSX12 × Int32 × Int32 → Prop} {post : WSX12 → Prop} (hrec_7 : ∀ a : WSX12 × Int32 × Int32, rec_7 a → AW G MX12_checkAll d 0 0 25 (aw_pv (wX12 G) post) 7 [(0, .ref 0), (2, .int a.2.1), (3, .int a.2.2)] [] (wX12 G a.1)) {σ : WSX12} {x2 : Int32} {x3 : Int32} (h : wp_X12_checkAll_39 rc rec_7 post σ x2 x3) : AW G MX12_checkAll d 0 0 25 (aw_pv (wX12 G) post) 39 [(0, .ref 0), (2, .int x2), (3, .int x3)] [] (wX12 G σ) := by
  unfold wp_X12_checkAll_39 at h
  refine aw_aload_n 0 dX12_checkAll_39 rfl rfl ?_
  refine aw_iload_n 2 dX12_checkAll_40 rfl rfl ?_
  refine aw_callVT (mc1 := 0) (ms1 := 0) (mc := 0) (ms := 0) (st := []) (q := 0) (As := [.int x3]) lX12_229 insX12_declare selX12_declare ⟨TX12, 50, rfl⟩ (by omega) (kX12_declare (d := 2) (by omega) h) (Nat.le_of_ble_eq_true rfl) rfl rfl rfl dX12_checkAll_41 rfl (fun _ _ hh => ?_)
  obtain ⟨τ3, rfl, rfl, h⟩ := hh
  refine aw_stk (st' := []) rfl ?_
  refine aw_goto 53 dX12_checkAll_44 (by decide) ?_
  exact aw_X12_checkAll_53 hd hdg hrc hrec_7 h
def wb_X12_checkAll_7 (rc : Nat → WSX12 → List Int32 → (Int32 → WSX12 → Prop) → Prop)  (post : WSX12 → Prop) (rec_7 : WSX12 × Int32 × Int32 → Prop) (σ : WSX12) (x2 : Int32) (x3 : Int32) : Prop :=
  ((x3 = ((-1) : Int32) → post σ) ∧ (¬ x3 = ((-1) : Int32) → ((¬ σ.2.1.2.1.1 = 0 → post σ) ∧ (σ.2.1.2.1.1 = 0 → (vp_in x3 9000 ∧ (((σ.1.1.2.2.1 (x3).toNatClampNeg) = (3 : Int32) → wp_X12_checkAll_39 rc rec_7 post σ x2 x3) ∧ (¬ (σ.1.1.2.2.1 (x3).toNatClampNeg) = (3 : Int32) → (vp_in x3 9000 ∧ ((¬ (σ.1.1.2.2.1 (x3).toNatClampNeg) = (4 : Int32) → rc 1 σ [x3, x2] (fun _ τ6 => wp_X12_checkAll_53 rc rec_7 post τ6 x2 x3)) ∧ ((σ.1.1.2.2.1 (x3).toNatClampNeg) = (4 : Int32) → wp_X12_checkAll_39 rc rec_7 post σ x2 x3))))))))))
def wp_X12_checkAll_7 (rc : Nat → WSX12 → List Int32 → (Int32 → WSX12 → Prop) → Prop)  (post : WSX12 → Prop) (n : Nat) (σ : WSX12) (x2 : Int32) (x3 : Int32) : Prop := aw_loop (fun r (a : WSX12 × Int32 × Int32) => wb_X12_checkAll_7 rc  post r a.1 a.2.1 a.2.2) n (σ, x2, x3)
theorem aw_X12_checkAll_7 {G : aw_G} {d : Nat} (hd : 3 ≤ d) {dg : Nat} (hdg : dg + 1 ≤ d) {rc : Nat → WSX12 → List Int32 → (Int32 → WSX12 → Prop) → Prop} (hrc : ∀ (k : Nat) (σ : WSX12) (xs : List Int32) (po : Int32 → WSX12 → Prop), rc k σ xs po → AC G (Mg_ca k) dg 0 0 25 (.ref 0 :: xs.map .int) (wX12 G σ) (aw_pv (wX12 G) (fun τ => po 0 τ))) {post : WSX12 → Prop}  : ∀ (n : Nat) (σ : WSX12) (x2 : Int32) (x3 : Int32), wp_X12_checkAll_7 rc  post n σ x2 x3 → AW G MX12_checkAll d 0 0 25 (aw_pv (wX12 G) post) 7 [(0, .ref 0), (2, .int x2), (3, .int x3)] [] (wX12 G σ) := by
  intro n
  induction n with
  | zero => intro σ x2 x3 h; exact h.elim
  | succ n ih =>
    intro σ x2 x3 h
    have hrec_7 : ∀ a : WSX12 × Int32 × Int32, aw_loop (fun r (a : WSX12 × Int32 × Int32) => wb_X12_checkAll_7 rc  post r a.1 a.2.1 a.2.2) n a → AW G MX12_checkAll d 0 0 25 (aw_pv (wX12 G) post) 7 [(0, .ref 0), (2, .int a.2.1), (3, .int a.2.2)] [] (wX12 G a.1) := fun a h => ih a.1 a.2.1 a.2.2 h
    have h : wb_X12_checkAll_7 rc  post (aw_loop (fun r (a : WSX12 × Int32 × Int32) => wb_X12_checkAll_7 rc  post r a.1 a.2.1 a.2.2) n) σ x2 x3 := h
    unfold wb_X12_checkAll_7 at h
    refine aw_iload_n 2 dX12_checkAll_7 rfl rfl ?_
    refine aw_iconst (v := ((-1) : Int32)) dX12_checkAll_8 (by decide) ?_
    refine aw_icmp_eq 63 dX12_checkAll_9 (by decide) (fun c10 => ?_) (fun c10 => ?_)
    · have h := h.1 c10
      exact aw_vret rfl dX12_checkAll_63 ⟨σ, rfl, rfl, h⟩
    · have h := h.2 c10
      refine aw_aload_n 0 dX12_checkAll_12 rfl rfl ?_
      refine aw_getf (v := .int σ.2.1.2.1.1) fX12_189 0 rfl rfl dX12_checkAll_13 ?_
      refine aw_if_ne 63 dX12_checkAll_16 (by decide) (fun c9 => ?_) (fun c9 => ?_)
      · have h := h.1 c9
        exact aw_vret rfl dX12_checkAll_63 ⟨σ, rfl, rfl, h⟩
      · have h := h.2 c9
        refine aw_aload_n 0 dX12_checkAll_19 rfl rfl ?_
        refine aw_getf (v := .ref 5) fX12_22 0 rfl rfl dX12_checkAll_20 ?_
        refine aw_iload_n 2 dX12_checkAll_23 rfl rfl ?_
        refine aw_iald 5 (n := 9000) (f := σ.1.1.2.2.1) rfl h.1 dX12_checkAll_24 ?_
        have h := h.2
        refine aw_iconst (v := (3 : Int32)) dX12_checkAll_25 (by decide) ?_
        refine aw_icmp_eq 39 dX12_checkAll_26 (by decide) (fun c8 => ?_) (fun c8 => ?_)
        · have h := h.1 c8
          exact aw_X12_checkAll_39 hd hdg hrc hrec_7 h
        · have h := h.2 c8
          refine aw_aload_n 0 dX12_checkAll_29 rfl rfl ?_
          refine aw_getf (v := .ref 5) fX12_22 0 rfl rfl dX12_checkAll_30 ?_
          refine aw_iload_n 2 dX12_checkAll_33 rfl rfl ?_
          refine aw_iald 5 (n := 9000) (f := σ.1.1.2.2.1) rfl h.1 dX12_checkAll_34 ?_
          have h := h.2
          refine aw_iconst (v := (4 : Int32)) dX12_checkAll_35 (by decide) ?_
          refine aw_icmp_ne 47 dX12_checkAll_36 (by decide) (fun c7 => ?_) (fun c7 => ?_)
          · have h := h.1 c7
            refine aw_aload_n 0 dX12_checkAll_47 rfl rfl ?_
            refine aw_iload_n 2 dX12_checkAll_48 rfl rfl ?_
            refine aw_iload_n 1 dX12_checkAll_49 rfl rfl ?_
            refine aw_callVT (mc1 := 0) (ms1 := 0) (mc := 0) (ms := 0) (st := []) (q := 0) (As := [.int x3, .int x2]) lX12_233 insX12_checkOne selX12_checkOne ⟨TX12, 50, rfl⟩ (by omega) (hrc 1 _ [x3, x2] _ h) (Nat.le_of_ble_eq_true rfl) rfl rfl rfl dX12_checkAll_50 rfl (fun _ _ hh => ?_)
            obtain ⟨τ6, rfl, rfl, h⟩ := hh
            refine aw_stk (st' := []) rfl ?_
            exact aw_X12_checkAll_53 hd hdg hrc hrec_7 h
          · have h := h.2 c7
            exact aw_X12_checkAll_39 hd hdg hrc hrec_7 h
def wp_X12_checkAll (rc : Nat → WSX12 → List Int32 → (Int32 → WSX12 → Prop) → Prop) (σ : WSX12) (a1 : Int32) (a2 : Int32) (post : WSX12 → Prop) : Prop :=
  (vp_in a1 9000 ∧ (∀ y1 : Int32, y1 = (σ.1.1.2.2.2.2 (a1).toNatClampNeg) → (∃ n11, wp_X12_checkAll_7 rc  post n11 σ a2 y1)))
theorem kX12_checkAll {G : aw_G} {d : Nat} (hd : 3 ≤ d) {dg : Nat} (hdg : dg + 1 ≤ d) {rc : Nat → WSX12 → List Int32 → (Int32 → WSX12 → Prop) → Prop} (hrc : ∀ (k : Nat) (σ : WSX12) (xs : List Int32) (po : Int32 → WSX12 → Prop), rc k σ xs po → AC G (Mg_ca k) dg 0 0 25 (.ref 0 :: xs.map .int) (wX12 G σ) (aw_pv (wX12 G) (fun τ => po 0 τ))) {σ : WSX12} {a1 : Int32} {a2 : Int32} {post : WSX12 → Prop} (h : wp_X12_checkAll rc σ a1 a2 post) : AC G MX12_checkAll d 0 0 25 [.ref 0, .int a1, .int a2] (wX12 G σ) (aw_pv (wX12 G) post) := by
  refine AC.of (lv := [(0, .ref 0), (1, .int a1), (2, .int a2)]) (by decide) (Nat.le_of_ble_eq_true rfl) rfl ?_
  unfold wp_X12_checkAll at h
  refine aw_aload_n 0 dX12_checkAll_0 rfl rfl ?_
  refine aw_getf (v := .ref 7) fX12_28 0 rfl rfl dX12_checkAll_1 ?_
  refine aw_iload_n 1 dX12_checkAll_4 rfl rfl ?_
  refine aw_iald 7 (n := 9000) (f := σ.1.1.2.2.2.2) rfl h.1 dX12_checkAll_5 ?_
  have h := h.2
  refine aw_topi (fun y1 ey1 => ?_)
  have h := h y1 ey1
  refine aw_istore_n (lv' := [(3, .int y1), (0, .ref 0), (1, .int a1), (2, .int a2)]) dX12_checkAll_6 rfl (by decide) rfl ?_
  refine aw_lvsub (lv' := [(0, .ref 0), (2, .int a2), (3, .int y1)]) [1, 3, 0] rfl ?_
  obtain ⟨n11, h⟩ := h
  exact aw_X12_checkAll_7 hd hdg hrc  n11 σ a2 y1 h
def wp_X12_checkOne_228 (rc : Nat → WSX12 → List Int32 → (Int32 → WSX12 → Prop) → Prop)  (post : WSX12 → Prop) (σ : WSX12) (x1 : Int32) (x5 : Int32) : Prop :=
  (vp_in x1 9000 ∧ ∀ y8 : Nat → Int32, y8 = upd σ.1.2.1.1.2.2 (x1).toNatClampNeg x5 → post ((σ.1.1, (((σ.1.2.1.1.1, (σ.1.2.1.1.2.1, y8)), σ.1.2.1.2), σ.1.2.2)), σ.2))
theorem aw_X12_checkOne_228 {G : aw_G} {d : Nat} (hd : 404 ≤ d) {dg : Nat} (hdg : dg + 1 ≤ d) {rc : Nat → WSX12 → List Int32 → (Int32 → WSX12 → Prop) → Prop} (hrc : ∀ (k : Nat) (σ : WSX12) (xs : List Int32) (po : Int32 → WSX12 → Prop), rc k σ xs po → AC G (Mg_ca k) dg 0 0 25 (.ref 0 :: xs.map .int) (wX12 G σ) (aw_pv (wX12 G) (fun τ => po 0 τ))) {post : WSX12 → Prop}  {σ : WSX12} {x1 : Int32} {x5 : Int32} (h : wp_X12_checkOne_228 rc  post σ x1 x5) : AW G MX12_checkOne d 0 0 25 (aw_pv (wX12 G) post) 228 [(0, .ref 0), (1, .int x1), (5, .int x5)] [] (wX12 G σ) := by
  unfold wp_X12_checkOne_228 at h
  refine aw_aload_n 0 dX12_checkOne_228 rfl rfl ?_
  refine aw_getf (v := .ref 10) fX12_38 0 rfl rfl dX12_checkOne_229 ?_
  refine aw_iload_n 1 dX12_checkOne_232 rfl rfl ?_
  refine aw_iload 2 dX12_checkOne_233 rfl ?_
  refine aw_iast 10 (n := 9000) (f := σ.1.2.1.1.2.2) (w' := fun y8 => (wX12 G ((σ.1.1, (((σ.1.2.1.1.1, (σ.1.2.1.1.2.1, y8)), σ.1.2.1.2), σ.1.2.2)), σ.2))) rfl h.1 (fun _ => rfl) dX12_checkOne_235 (fun y8 ey8 => ?_)
  have h := h.2 y8 ey8
  refine aw_goto 455 dX12_checkOne_236 (by decide) ?_
  exact aw_vret rfl dX12_checkOne_455 ⟨((σ.1.1, (((σ.1.2.1.1.1, (σ.1.2.1.1.2.1, y8)), σ.1.2.1.2), σ.1.2.2)), σ.2), rfl, rfl, h⟩
def wp_X12_checkOne_187 (rc : Nat → WSX12 → List Int32 → (Int32 → WSX12 → Prop) → Prop)  (post : WSX12 → Prop) (σ : WSX12) (x1 : Int32) (x2 : Int32) (x3 : Int32) (x5 : Int32) (x6 : Int32) : Prop :=
  (∃ n7, n7 ≤ 400 ∧ wg_ck n7 0 σ [x6, x2] (fun _ τ6 => ((¬ τ6.2.1.2.1.1 = 0 → wp_X12_checkOne_228 rc  post τ6 x1 x5) ∧ (τ6.2.1.2.1.1 = 0 → (vp_in x6 9000 ∧ (((τ6.1.2.1.1.2.1 (x6).toNatClampNeg) = 0 → wp_X12_checkOne_228 rc  post τ6 x1 x5) ∧ (¬ (τ6.1.2.1.1.2.1 (x6).toNatClampNeg) = 0 → (vp_in x5 1500 ∧ ((¬ (τ6.1.2.2.1.2.2 (x5).toNatClampNeg) = 0 → wp_X12_checkOne_228 rc  post τ6 x1 x5) ∧ ((τ6.1.2.2.1.2.2 (x5).toNatClampNeg) = 0 → wp_X12_wrong τ6 (7 : Int32) x3 (fun τ10 => wp_X12_checkOne_228 rc  post τ10 x1 x5)))))))))))
theorem aw_X12_checkOne_187 {G : aw_G} {d : Nat} (hd : 404 ≤ d) {dg : Nat} (hdg : dg + 1 ≤ d) {rc : Nat → WSX12 → List Int32 → (Int32 → WSX12 → Prop) → Prop} (hrc : ∀ (k : Nat) (σ : WSX12) (xs : List Int32) (po : Int32 → WSX12 → Prop), rc k σ xs po → AC G (Mg_ca k) dg 0 0 25 (.ref 0 :: xs.map .int) (wX12 G σ) (aw_pv (wX12 G) (fun τ => po 0 τ))) {post : WSX12 → Prop}  {σ : WSX12} {x1 : Int32} {x2 : Int32} {x3 : Int32} {x5 : Int32} {x6 : Int32} (h : wp_X12_checkOne_187 rc  post σ x1 x2 x3 x5 x6) : AW G MX12_checkOne d 0 0 25 (aw_pv (wX12 G) post) 187 [(0, .ref 0), (1, .int x1), (2, .int x2), (3, .int x3), (5, .int x5), (6, .int x6)] [] (wX12 G σ) := by
  unfold wp_X12_checkOne_187 at h
  refine aw_aload_n 0 dX12_checkOne_187 rfl rfl ?_
  refine aw_iload 5 dX12_checkOne_188 rfl ?_
  refine aw_iload_n 2 dX12_checkOne_190 rfl rfl ?_
  obtain ⟨n7, hn7, h⟩ := h
  refine aw_callVT (mc1 := 0) (ms1 := 0) (mc := 0) (ms := 0) (st := []) (q := 0) (As := [.int x6, .int x2]) lX12_223 insX12_check selX12_check ⟨TX12, 50, rfl⟩ (by omega) (kg_ck n7 0 _ [x6, x2] _ h) (Nat.le_of_ble_eq_true rfl) rfl rfl rfl dX12_checkOne_191 rfl (fun _ _ hh => ?_)
  obtain ⟨τ6, rfl, rfl, h⟩ := hh
  refine aw_stk (st' := []) rfl ?_
  refine aw_aload_n 0 dX12_checkOne_194 rfl rfl ?_
  refine aw_getf (v := .int τ6.2.1.2.1.1) fX12_189 0 rfl rfl dX12_checkOne_195 ?_
  refine aw_if_ne 228 dX12_checkOne_198 (by decide) (fun c13 => ?_) (fun c13 => ?_)
  · have h := h.1 c13
    refine aw_lvsub (lv' := [(0, .ref 0), (1, .int x1), (5, .int x5)]) [0, 1, 4] rfl ?_
    exact aw_X12_checkOne_228 hd hdg hrc  h
  · have h := h.2 c13
    refine aw_aload_n 0 dX12_checkOne_201 rfl rfl ?_
    refine aw_getf (v := .ref 9) fX12_34 0 rfl rfl dX12_checkOne_202 ?_
    refine aw_iload 5 dX12_checkOne_205 rfl ?_
    refine aw_zald 9 (n := 9000) (f := τ6.1.2.1.1.2.1) rfl h.1 dX12_checkOne_207 ?_
    have h := h.2
    refine aw_if_eq 228 dX12_checkOne_208 (by decide) (fun c12 => ?_) (fun c12 => ?_)
    · have h := h.1 c12
      refine aw_lvsub (lv' := [(0, .ref 0), (1, .int x1), (5, .int x5)]) [0, 1, 4] rfl ?_
      exact aw_X12_checkOne_228 hd hdg hrc  h
    · have h := h.2 c12
      refine aw_aload_n 0 dX12_checkOne_211 rfl rfl ?_
      refine aw_getf (v := .ref 15) fX12_53 0 rfl rfl dX12_checkOne_212 ?_
      refine aw_iload 4 dX12_checkOne_215 rfl ?_
      refine aw_zald 15 (n := 1500) (f := τ6.1.2.2.1.2.2) rfl h.1 dX12_checkOne_217 ?_
      have h := h.2
      refine aw_if_ne 228 dX12_checkOne_218 (by decide) (fun c11 => ?_) (fun c11 => ?_)
      · have h := h.1 c11
        refine aw_lvsub (lv' := [(0, .ref 0), (1, .int x1), (5, .int x5)]) [0, 1, 4] rfl ?_
        exact aw_X12_checkOne_228 hd hdg hrc  h
      · have h := h.2 c11
        refine aw_aload_n 0 dX12_checkOne_221 rfl rfl ?_
        refine aw_bipush (v := (7 : Int32)) dX12_checkOne_222 (by decide) ?_
        refine aw_iload_n 3 dX12_checkOne_224 rfl rfl ?_
        refine aw_callVT (mc1 := 0) (ms1 := 0) (mc := 0) (ms := 0) (st := []) (q := 0) (As := [.int (7 : Int32), .int x3]) lX12_201 insX12_wrong selX12_wrong ⟨TX12, 50, rfl⟩ (by omega) (kX12_wrong (d := 0) (by omega) h) (Nat.le_of_ble_eq_true rfl) rfl rfl rfl dX12_checkOne_225 rfl (fun _ _ hh => ?_)
        obtain ⟨τ10, rfl, rfl, h⟩ := hh
        refine aw_stk (st' := []) rfl ?_
        refine aw_lvsub (lv' := [(0, .ref 0), (1, .int x1), (5, .int x5)]) [0, 1, 4] rfl ?_
        exact aw_X12_checkOne_228 hd hdg hrc  h
def wp_X12_checkOne_178 (rc : Nat → WSX12 → List Int32 → (Int32 → WSX12 → Prop) → Prop)  (post : WSX12 → Prop) (σ : WSX12) (x1 : Int32) (x2 : Int32) (x3 : Int32) (x5 : Int32) (x7 : Int32) : Prop :=
  (vp_in x7 9000 ∧ (∀ y18 : Int32, y18 = (σ.1.2.1.1.1 (x7).toNatClampNeg) → wp_X12_checkOne_187 rc  post σ x1 x2 x3 x5 y18))
theorem aw_X12_checkOne_178 {G : aw_G} {d : Nat} (hd : 404 ≤ d) {dg : Nat} (hdg : dg + 1 ≤ d) {rc : Nat → WSX12 → List Int32 → (Int32 → WSX12 → Prop) → Prop} (hrc : ∀ (k : Nat) (σ : WSX12) (xs : List Int32) (po : Int32 → WSX12 → Prop), rc k σ xs po → AC G (Mg_ca k) dg 0 0 25 (.ref 0 :: xs.map .int) (wX12 G σ) (aw_pv (wX12 G) (fun τ => po 0 τ))) {post : WSX12 → Prop}  {σ : WSX12} {x1 : Int32} {x2 : Int32} {x3 : Int32} {x5 : Int32} {x7 : Int32} (h : wp_X12_checkOne_178 rc  post σ x1 x2 x3 x5 x7) : AW G MX12_checkOne d 0 0 25 (aw_pv (wX12 G) post) 178 [(0, .ref 0), (1, .int x1), (2, .int x2), (3, .int x3), (5, .int x5), (7, .int x7)] [] (wX12 G σ) := by
  unfold wp_X12_checkOne_178 at h
  refine aw_aload_n 0 dX12_checkOne_178 rfl rfl ?_
  refine aw_getf (v := .ref 8) fX12_31 0 rfl rfl dX12_checkOne_179 ?_
  refine aw_iload 5 dX12_checkOne_182 rfl ?_
  refine aw_iald 8 (n := 9000) (f := σ.1.2.1.1.1) rfl h.1 dX12_checkOne_184 ?_
  have h := h.2
  refine aw_topi (fun y18 ey18 => ?_)
  have h := h y18 ey18
  refine aw_istore (lv' := [(6, .int y18), (0, .ref 0), (1, .int x1), (2, .int x2), (3, .int x3), (5, .int x5), (7, .int x7)]) dX12_checkOne_185 (by decide) rfl ?_
  refine aw_lvsub (lv' := [(0, .ref 0), (1, .int x1), (2, .int x2), (3, .int x3), (5, .int x5), (6, .int y18)]) [1, 2, 3, 4, 5, 0] rfl ?_
  exact aw_X12_checkOne_187 hd hdg hrc  h
def wp_X12_checkOne_120 (rc : Nat → WSX12 → List Int32 → (Int32 → WSX12 → Prop) → Prop)  (post : WSX12 → Prop) (σ : WSX12) (x1 : Int32) (x2 : Int32) (x3 : Int32) (x4 : Int32) (x5 : Int32) : Prop :=
  (vp_in x1 9000 ∧ (∀ y4 : Int32, y4 = (σ.1.1.2.2.2.2 (x1).toNatClampNeg) → ((x4 = 0 → wp_X12_checkOne_187 rc  post σ x1 x2 x3 x5 y4) ∧ (¬ x4 = 0 → (vp_in y4 9000 ∧ (∀ y14 : Int32, y14 = (σ.1.2.1.1.1 (y4).toNatClampNeg) → (∃ n17, n17 ≤ 400 ∧ wg_ck n17 0 σ [y14, x2] (fun _ τ16 => ((¬ τ16.2.1.2.1.1 = 0 → wp_X12_checkOne_178 rc  post τ16 x1 x2 x3 x5 y14) ∧ (τ16.2.1.2.1.1 = 0 → (vp_in y14 9000 ∧ (((τ16.1.2.1.1.2.1 (y14).toNatClampNeg) = 0 → wp_X12_checkOne_178 rc  post τ16 x1 x2 x3 x5 y14) ∧ (¬ (τ16.1.2.1.1.2.1 (y14).toNatClampNeg) = 0 → (vp_in y4 9000 ∧ wp_X12_wrong τ16 (4 : Int32) (τ16.1.1.2.2.2.1 (y4).toNatClampNeg) (fun τ20 => wp_X12_checkOne_178 rc  post τ20 x1 x2 x3 x5 y14)))))))))))))))
theorem aw_X12_checkOne_120 {G : aw_G} {d : Nat} (hd : 404 ≤ d) {dg : Nat} (hdg : dg + 1 ≤ d) {rc : Nat → WSX12 → List Int32 → (Int32 → WSX12 → Prop) → Prop} (hrc : ∀ (k : Nat) (σ : WSX12) (xs : List Int32) (po : Int32 → WSX12 → Prop), rc k σ xs po → AC G (Mg_ca k) dg 0 0 25 (.ref 0 :: xs.map .int) (wX12 G σ) (aw_pv (wX12 G) (fun τ => po 0 τ))) {post : WSX12 → Prop}  {σ : WSX12} {x1 : Int32} {x2 : Int32} {x3 : Int32} {x4 : Int32} {x5 : Int32} (h : wp_X12_checkOne_120 rc  post σ x1 x2 x3 x4 x5) : AW G MX12_checkOne d 0 0 25 (aw_pv (wX12 G) post) 120 [(0, .ref 0), (1, .int x1), (2, .int x2), (3, .int x3), (4, .int x4), (5, .int x5)] [] (wX12 G σ) := by
  unfold wp_X12_checkOne_120 at h
  refine aw_aload_n 0 dX12_checkOne_120 rfl rfl ?_
  refine aw_getf (v := .ref 7) fX12_28 0 rfl rfl dX12_checkOne_121 ?_
  refine aw_iload_n 1 dX12_checkOne_124 rfl rfl ?_
  refine aw_iald 7 (n := 9000) (f := σ.1.1.2.2.2.2) rfl h.1 dX12_checkOne_125 ?_
  have h := h.2
  refine aw_topi (fun y4 ey4 => ?_)
  have h := h y4 ey4
  refine aw_istore (lv' := [(6, .int y4), (0, .ref 0), (1, .int x1), (2, .int x2), (3, .int x3), (4, .int x4), (5, .int x5)]) dX12_checkOne_126 (by decide) rfl ?_
  refine aw_iload 5 dX12_checkOne_128 rfl ?_
  refine aw_if_eq 187 dX12_checkOne_130 (by decide) (fun c23 => ?_) (fun c23 => ?_)
  · have h := h.1 c23
    refine aw_lvsub (lv' := [(0, .ref 0), (1, .int x1), (2, .int x2), (3, .int x3), (5, .int x5), (6, .int y4)]) [1, 2, 3, 4, 6, 0] rfl ?_
    exact aw_X12_checkOne_187 hd hdg hrc  h
  · have h := h.2 c23
    refine aw_aload_n 1 dX12_checkOne_133 rfl rfl ?_
    refine aw_getf (v := .ref 8) fX12_31 0 rfl rfl dX12_checkOne_134 ?_
    refine aw_iload 0 dX12_checkOne_137 rfl ?_
    refine aw_iald 8 (n := 9000) (f := σ.1.2.1.1.1) rfl h.1 dX12_checkOne_139 ?_
    have h := h.2
    refine aw_topi (fun y14 ey14 => ?_)
    have h := h y14 ey14
    refine aw_istore (lv' := [(7, .int y14), (6, .int y4), (0, .ref 0), (1, .int x1), (2, .int x2), (3, .int x3), (4, .int x4), (5, .int x5)]) dX12_checkOne_140 (by decide) rfl ?_
    refine aw_aload_n 2 dX12_checkOne_142 rfl rfl ?_
    refine aw_iload 0 dX12_checkOne_143 rfl ?_
    refine aw_iload_n 4 dX12_checkOne_145 rfl rfl ?_
    obtain ⟨n17, hn17, h⟩ := h
    refine aw_callVT (mc1 := 0) (ms1 := 0) (mc := 0) (ms := 0) (st := []) (q := 0) (As := [.int y14, .int x2]) lX12_223 insX12_check selX12_check ⟨TX12, 50, rfl⟩ (by omega) (kg_ck n17 0 _ [y14, x2] _ h) (Nat.le_of_ble_eq_true rfl) rfl rfl rfl dX12_checkOne_146 rfl (fun _ _ hh => ?_)
    obtain ⟨τ16, rfl, rfl, h⟩ := hh
    refine aw_stk (st' := []) rfl ?_
    refine aw_aload_n 2 dX12_checkOne_149 rfl rfl ?_
    refine aw_getf (v := .int τ16.2.1.2.1.1) fX12_189 0 rfl rfl dX12_checkOne_150 ?_
    refine aw_if_ne 178 dX12_checkOne_153 (by decide) (fun c22 => ?_) (fun c22 => ?_)
    · have h := h.1 c22
      refine aw_lvsub (lv' := [(0, .ref 0), (1, .int x1), (2, .int x2), (3, .int x3), (5, .int x5), (7, .int y14)]) [2, 3, 4, 5, 7, 0] rfl ?_
      exact aw_X12_checkOne_178 hd hdg hrc  h
    · have h := h.2 c22
      refine aw_aload_n 2 dX12_checkOne_156 rfl rfl ?_
      refine aw_getf (v := .ref 9) fX12_34 0 rfl rfl dX12_checkOne_157 ?_
      refine aw_iload 0 dX12_checkOne_160 rfl ?_
      refine aw_zald 9 (n := 9000) (f := τ16.1.2.1.1.2.1) rfl h.1 dX12_checkOne_162 ?_
      have h := h.2
      refine aw_if_eq 178 dX12_checkOne_163 (by decide) (fun c21 => ?_) (fun c21 => ?_)
      · have h := h.1 c21
        refine aw_lvsub (lv' := [(0, .ref 0), (1, .int x1), (2, .int x2), (3, .int x3), (5, .int x5), (7, .int y14)]) [2, 3, 4, 5, 7, 0] rfl ?_
        exact aw_X12_checkOne_178 hd hdg hrc  h
      · have h := h.2 c21
        refine aw_aload_n 2 dX12_checkOne_166 rfl rfl ?_
        refine aw_iconst (v := (4 : Int32)) dX12_checkOne_167 (by decide) ?_
        refine aw_aload_n 2 dX12_checkOne_168 rfl rfl ?_
        refine aw_getf (v := .ref 6) fX12_25 0 rfl rfl dX12_checkOne_169 ?_
        refine aw_iload 1 dX12_checkOne_172 rfl ?_
        refine aw_iald 6 (n := 9000) (f := τ16.1.1.2.2.2.1) rfl h.1 dX12_checkOne_174 ?_
        have h := h.2
        refine aw_callVT (mc1 := 0) (ms1 := 0) (mc := 0) (ms := 0) (st := []) (q := 0) (As := [.int (4 : Int32), .int (τ16.1.1.2.2.2.1 (y4).toNatClampNeg)]) lX12_201 insX12_wrong selX12_wrong ⟨TX12, 50, rfl⟩ (by omega) (kX12_wrong (d := 0) (by omega) h) (Nat.le_of_ble_eq_true rfl) rfl rfl rfl dX12_checkOne_175 rfl (fun _ _ hh => ?_)
        obtain ⟨τ20, rfl, rfl, h⟩ := hh
        refine aw_stk (st' := []) rfl ?_
        refine aw_lvsub (lv' := [(0, .ref 0), (1, .int x1), (2, .int x2), (3, .int x3), (5, .int x5), (7, .int y14)]) [2, 3, 4, 5, 7, 0] rfl ?_
        exact aw_X12_checkOne_178 hd hdg hrc  h
def wp_X12_checkOne_95 (rc : Nat → WSX12 → List Int32 → (Int32 → WSX12 → Prop) → Prop)  (post : WSX12 → Prop) (σ : WSX12) (x1 : Int32) (x2 : Int32) (x3 : Int32) (x4 : Int32) (x5 : Int32) : Prop :=
  ((¬ σ.2.1.2.1.1 = 0 → wp_X12_checkOne_120 rc  post σ x1 x2 x3 x4 x5) ∧ (σ.2.1.2.1.1 = 0 → (vp_in x5 1500 ∧ (((σ.1.2.2.1.2.1 (x5).toNatClampNeg) = x4 → wp_X12_checkOne_120 rc  post σ x1 x2 x3 x4 x5) ∧ (¬ (σ.1.2.2.1.2.1 (x5).toNatClampNeg) = x4 → wp_X12_wrong σ (3 : Int32) x3 (fun τ25 => wp_X12_checkOne_120 rc  post τ25 x1 x2 x3 x4 x5))))))
theorem aw_X12_checkOne_95 {G : aw_G} {d : Nat} (hd : 404 ≤ d) {dg : Nat} (hdg : dg + 1 ≤ d) {rc : Nat → WSX12 → List Int32 → (Int32 → WSX12 → Prop) → Prop} (hrc : ∀ (k : Nat) (σ : WSX12) (xs : List Int32) (po : Int32 → WSX12 → Prop), rc k σ xs po → AC G (Mg_ca k) dg 0 0 25 (.ref 0 :: xs.map .int) (wX12 G σ) (aw_pv (wX12 G) (fun τ => po 0 τ))) {post : WSX12 → Prop}  {σ : WSX12} {x1 : Int32} {x2 : Int32} {x3 : Int32} {x4 : Int32} {x5 : Int32} (h : wp_X12_checkOne_95 rc  post σ x1 x2 x3 x4 x5) : AW G MX12_checkOne d 0 0 25 (aw_pv (wX12 G) post) 95 [(0, .ref 0), (1, .int x1), (2, .int x2), (3, .int x3), (4, .int x4), (5, .int x5)] [] (wX12 G σ) := by
  unfold wp_X12_checkOne_95 at h
  refine aw_aload_n 0 dX12_checkOne_95 rfl rfl ?_
  refine aw_getf (v := .int σ.2.1.2.1.1) fX12_189 0 rfl rfl dX12_checkOne_96 ?_
  refine aw_if_ne 120 dX12_checkOne_99 (by decide) (fun c27 => ?_) (fun c27 => ?_)
  · have h := h.1 c27
    exact aw_X12_checkOne_120 hd hdg hrc  h
  · have h := h.2 c27
    refine aw_aload_n 0 dX12_checkOne_102 rfl rfl ?_
    refine aw_getf (v := .ref 14) fX12_50 0 rfl rfl dX12_checkOne_103 ?_
    refine aw_iload 5 dX12_checkOne_106 rfl ?_
    refine aw_zald 14 (n := 1500) (f := σ.1.2.2.1.2.1) rfl h.1 dX12_checkOne_108 ?_
    have h := h.2
    refine aw_iload 4 dX12_checkOne_109 rfl ?_
    refine aw_icmp_eq 120 dX12_checkOne_111 (by decide) (fun c26 => ?_) (fun c26 => ?_)
    · have h := h.1 c26
      exact aw_X12_checkOne_120 hd hdg hrc  h
    · have h := h.2 c26
      refine aw_aload_n 0 dX12_checkOne_114 rfl rfl ?_
      refine aw_iconst (v := (3 : Int32)) dX12_checkOne_115 (by decide) ?_
      refine aw_iload_n 3 dX12_checkOne_116 rfl rfl ?_
      refine aw_callVT (mc1 := 0) (ms1 := 0) (mc := 0) (ms := 0) (st := []) (q := 0) (As := [.int (3 : Int32), .int x3]) lX12_201 insX12_wrong selX12_wrong ⟨TX12, 50, rfl⟩ (by omega) (kX12_wrong (d := 0) (by omega) h) (Nat.le_of_ble_eq_true rfl) rfl rfl rfl dX12_checkOne_117 rfl (fun _ _ hh => ?_)
      obtain ⟨τ25, rfl, rfl, h⟩ := hh
      refine aw_stk (st' := []) rfl ?_
      exact aw_X12_checkOne_120 hd hdg hrc  h
def wp_X12_checkOne_88 (rc : Nat → WSX12 → List Int32 → (Int32 → WSX12 → Prop) → Prop)  (post : WSX12 → Prop) (σ : WSX12) (x1 : Int32) (x2 : Int32) (x3 : Int32) (x4 : Int32) (x5 : Int32) : Prop :=
  wp_X12_wrong σ (8 : Int32) x3 (fun τ29 => wp_X12_checkOne_95 rc  post τ29 x1 x2 x3 x4 x5)
theorem aw_X12_checkOne_88 {G : aw_G} {d : Nat} (hd : 404 ≤ d) {dg : Nat} (hdg : dg + 1 ≤ d) {rc : Nat → WSX12 → List Int32 → (Int32 → WSX12 → Prop) → Prop} (hrc : ∀ (k : Nat) (σ : WSX12) (xs : List Int32) (po : Int32 → WSX12 → Prop), rc k σ xs po → AC G (Mg_ca k) dg 0 0 25 (.ref 0 :: xs.map .int) (wX12 G σ) (aw_pv (wX12 G) (fun τ => po 0 τ))) {post : WSX12 → Prop}  {σ : WSX12} {x1 : Int32} {x2 : Int32} {x3 : Int32} {x4 : Int32} {x5 : Int32} (h : wp_X12_checkOne_88 rc  post σ x1 x2 x3 x4 x5) : AW G MX12_checkOne d 0 0 25 (aw_pv (wX12 G) post) 88 [(0, .ref 0), (1, .int x1), (2, .int x2), (3, .int x3), (4, .int x4), (5, .int x5)] [] (wX12 G σ) := by
  unfold wp_X12_checkOne_88 at h
  refine aw_aload_n 0 dX12_checkOne_88 rfl rfl ?_
  refine aw_bipush (v := (8 : Int32)) dX12_checkOne_89 (by decide) ?_
  refine aw_iload_n 3 dX12_checkOne_91 rfl rfl ?_
  refine aw_callVT (mc1 := 0) (ms1 := 0) (mc := 0) (ms := 0) (st := []) (q := 0) (As := [.int (8 : Int32), .int x3]) lX12_201 insX12_wrong selX12_wrong ⟨TX12, 50, rfl⟩ (by omega) (kX12_wrong (d := 0) (by omega) h) (Nat.le_of_ble_eq_true rfl) rfl rfl rfl dX12_checkOne_92 rfl (fun _ _ hh => ?_)
  obtain ⟨τ29, rfl, rfl, h⟩ := hh
  refine aw_stk (st' := []) rfl ?_
  exact aw_X12_checkOne_95 hd hdg hrc  h
def wp_X12_checkOne_48 (rc : Nat → WSX12 → List Int32 → (Int32 → WSX12 → Prop) → Prop)  (post : WSX12 → Prop) (σ : WSX12) (x1 : Int32) (x2 : Int32) (x3 : Int32) (s0 : Int32) : Prop :=
  wp_X12_name σ x3 (fun r2 τ3 => ((¬ τ3.2.1.2.1.1 = 0 → wp_X12_checkOne_95 rc  post τ3 x1 x2 x3 s0 r2) ∧ (τ3.2.1.2.1.1 = 0 → ((x2 = 0 → wp_X12_checkOne_95 rc  post τ3 x1 x2 x3 s0 r2) ∧ (¬ x2 = 0 → (vp_in r2 1500 ∧ ((¬ (τ3.1.2.2.1.2.1 (r2).toNatClampNeg) = 0 → wp_X12_checkOne_88 rc  post τ3 x1 x2 x3 s0 r2) ∧ ((τ3.1.2.2.1.2.1 (r2).toNatClampNeg) = 0 → (vp_in r2 1500 ∧ ((¬ (τ3.1.2.2.1.2.2 (r2).toNatClampNeg) = 0 → wp_X12_checkOne_95 rc  post τ3 x1 x2 x3 s0 r2) ∧ ((τ3.1.2.2.1.2.2 (r2).toNatClampNeg) = 0 → wp_X12_checkOne_88 rc  post τ3 x1 x2 x3 s0 r2)))))))))))
theorem aw_X12_checkOne_48 {G : aw_G} {d : Nat} (hd : 404 ≤ d) {dg : Nat} (hdg : dg + 1 ≤ d) {rc : Nat → WSX12 → List Int32 → (Int32 → WSX12 → Prop) → Prop} (hrc : ∀ (k : Nat) (σ : WSX12) (xs : List Int32) (po : Int32 → WSX12 → Prop), rc k σ xs po → AC G (Mg_ca k) dg 0 0 25 (.ref 0 :: xs.map .int) (wX12 G σ) (aw_pv (wX12 G) (fun τ => po 0 τ))) {post : WSX12 → Prop}  {σ : WSX12} {x1 : Int32} {x2 : Int32} {x3 : Int32} {s0 : Int32} (h : wp_X12_checkOne_48 rc  post σ x1 x2 x3 s0) : AW G MX12_checkOne d 0 0 25 (aw_pv (wX12 G) post) 48 [(0, .ref 0), (1, .int x1), (2, .int x2), (3, .int x3)] [.int s0] (wX12 G σ) := by
  unfold wp_X12_checkOne_48 at h
  refine aw_istore (lv' := [(4, .int s0), (0, .ref 0), (1, .int x1), (2, .int x2), (3, .int x3)]) dX12_checkOne_48 (by decide) rfl ?_
  refine aw_aload_n 1 dX12_checkOne_50 rfl rfl ?_
  refine aw_iload_n 4 dX12_checkOne_51 rfl rfl ?_
  refine aw_callVT (mc1 := 0) (ms1 := 0) (mc := 0) (ms := 0) (st := []) (q := 0) (As := [.int x3]) lX12_226 insX12_name selX12_name ⟨TX12, 50, rfl⟩ (by omega) (kX12_name (d := 2) (by omega) h) (Nat.le_of_ble_eq_true rfl) rfl rfl rfl dX12_checkOne_52 rfl (fun _ _ hh => ?_)
  obtain ⟨r2, τ3, rfl, rfl, h⟩ := hh
  refine aw_stk (st' := [.int r2]) rfl ?_
  refine aw_istore (lv' := [(5, .int r2), (4, .int s0), (0, .ref 0), (1, .int x1), (2, .int x2), (3, .int x3)]) dX12_checkOne_55 (by decide) rfl ?_
  refine aw_aload_n 2 dX12_checkOne_57 rfl rfl ?_
  refine aw_getf (v := .int τ3.2.1.2.1.1) fX12_189 0 rfl rfl dX12_checkOne_58 ?_
  refine aw_if_ne 95 dX12_checkOne_61 (by decide) (fun c33 => ?_) (fun c33 => ?_)
  · have h := h.1 c33
    refine aw_lvsub (lv' := [(0, .ref 0), (1, .int x1), (2, .int x2), (3, .int x3), (4, .int s0), (5, .int r2)]) [2, 3, 4, 5, 1, 0] rfl ?_
    exact aw_X12_checkOne_95 hd hdg hrc  h
  · have h := h.2 c33
    refine aw_iload_n 4 dX12_checkOne_64 rfl rfl ?_
    refine aw_if_eq 95 dX12_checkOne_65 (by decide) (fun c32 => ?_) (fun c32 => ?_)
    · have h := h.1 c32
      refine aw_lvsub (lv' := [(0, .ref 0), (1, .int x1), (2, .int x2), (3, .int x3), (4, .int s0), (5, .int r2)]) [2, 3, 4, 5, 1, 0] rfl ?_
      exact aw_X12_checkOne_95 hd hdg hrc  h
    · have h := h.2 c32
      refine aw_aload_n 2 dX12_checkOne_68 rfl rfl ?_
      refine aw_getf (v := .ref 14) fX12_50 0 rfl rfl dX12_checkOne_69 ?_
      refine aw_iload 0 dX12_checkOne_72 rfl ?_
      refine aw_zald 14 (n := 1500) (f := τ3.1.2.2.1.2.1) rfl h.1 dX12_checkOne_74 ?_
      have h := h.2
      refine aw_if_ne 88 dX12_checkOne_75 (by decide) (fun c31 => ?_) (fun c31 => ?_)
      · have h := h.1 c31
        refine aw_lvsub (lv' := [(0, .ref 0), (1, .int x1), (2, .int x2), (3, .int x3), (4, .int s0), (5, .int r2)]) [2, 3, 4, 5, 1, 0] rfl ?_
        exact aw_X12_checkOne_88 hd hdg hrc  h
      · have h := h.2 c31
        refine aw_aload_n 2 dX12_checkOne_78 rfl rfl ?_
        refine aw_getf (v := .ref 15) fX12_53 0 rfl rfl dX12_checkOne_79 ?_
        refine aw_iload 0 dX12_checkOne_82 rfl ?_
        refine aw_zald 15 (n := 1500) (f := τ3.1.2.2.1.2.2) rfl h.1 dX12_checkOne_84 ?_
        have h := h.2
        refine aw_if_ne 95 dX12_checkOne_85 (by decide) (fun c30 => ?_) (fun c30 => ?_)
        · have h := h.1 c30
          refine aw_lvsub (lv' := [(0, .ref 0), (1, .int x1), (2, .int x2), (3, .int x3), (4, .int s0), (5, .int r2)]) [2, 3, 4, 5, 1, 0] rfl ?_
          exact aw_X12_checkOne_95 hd hdg hrc  h
        · have h := h.2 c30
          refine aw_lvsub (lv' := [(0, .ref 0), (1, .int x1), (2, .int x2), (3, .int x3), (4, .int s0), (5, .int r2)]) [2, 3, 4, 5, 1, 0] rfl ?_
          exact aw_X12_checkOne_88 hd hdg hrc  h
def wp_X12_checkOne_31 (rc : Nat → WSX12 → List Int32 → (Int32 → WSX12 → Prop) → Prop)  (post : WSX12 → Prop) (σ : WSX12) (x1 : Int32) (x2 : Int32) (x3 : Int32) : Prop :=
  (vp_in x1 9000 ∧ ((¬ (σ.1.1.2.2.1 (x1).toNatClampNeg) = (301 : Int32) → wp_X12_checkOne_48 rc  post σ x1 x2 x3 (0 : Int32)) ∧ ((σ.1.1.2.2.1 (x1).toNatClampNeg) = (301 : Int32) → wp_X12_checkOne_48 rc  post σ x1 x2 x3 (1 : Int32))))
theorem aw_X12_checkOne_31 {G : aw_G} {d : Nat} (hd : 404 ≤ d) {dg : Nat} (hdg : dg + 1 ≤ d) {rc : Nat → WSX12 → List Int32 → (Int32 → WSX12 → Prop) → Prop} (hrc : ∀ (k : Nat) (σ : WSX12) (xs : List Int32) (po : Int32 → WSX12 → Prop), rc k σ xs po → AC G (Mg_ca k) dg 0 0 25 (.ref 0 :: xs.map .int) (wX12 G σ) (aw_pv (wX12 G) (fun τ => po 0 τ))) {post : WSX12 → Prop}  {σ : WSX12} {x1 : Int32} {x2 : Int32} {x3 : Int32} (h : wp_X12_checkOne_31 rc  post σ x1 x2 x3) : AW G MX12_checkOne d 0 0 25 (aw_pv (wX12 G) post) 31 [(0, .ref 0), (1, .int x1), (2, .int x2), (3, .int x3)] [] (wX12 G σ) := by
  unfold wp_X12_checkOne_31 at h
  refine aw_aload_n 0 dX12_checkOne_31 rfl rfl ?_
  refine aw_getf (v := .ref 5) fX12_22 0 rfl rfl dX12_checkOne_32 ?_
  refine aw_iload_n 1 dX12_checkOne_35 rfl rfl ?_
  refine aw_iald 5 (n := 9000) (f := σ.1.1.2.2.1) rfl h.1 dX12_checkOne_36 ?_
  have h := h.2
  refine aw_sipush (v := (301 : Int32)) dX12_checkOne_37 (by decide) ?_
  refine aw_icmp_ne 47 dX12_checkOne_40 (by decide) (fun c34 => ?_) (fun c34 => ?_)
  · have h := h.1 c34
    refine aw_iconst (v := (0 : Int32)) dX12_checkOne_47 (by decide) ?_
    exact aw_X12_checkOne_48 hd hdg hrc  h
  · have h := h.2 c34
    refine aw_iconst (v := (1 : Int32)) dX12_checkOne_43 (by decide) ?_
    refine aw_goto 48 dX12_checkOne_44 (by decide) ?_
    exact aw_X12_checkOne_48 hd hdg hrc  h
def wp_X12_checkOne_327 (rc : Nat → WSX12 → List Int32 → (Int32 → WSX12 → Prop) → Prop)  (post : WSX12 → Prop) (σ : WSX12) (x1 : Int32) (x2 : Int32) : Prop :=
  (vp_in x1 9000 ∧ ((¬ (σ.1.1.2.2.1 (x1).toNatClampNeg) = (9 : Int32) → post σ) ∧ ((σ.1.1.2.2.1 (x1).toNatClampNeg) = (9 : Int32) → (vp_in x1 9000 ∧ (vp_in (σ.1.1.2.2.2.2 (x1).toNatClampNeg) 9000 ∧ rc 0 σ [(σ.1.2.1.1.1 ((σ.1.1.2.2.2.2 (x1).toNatClampNeg)).toNatClampNeg), x2] (fun _ τ39 => post τ39))))))
theorem aw_X12_checkOne_327 {G : aw_G} {d : Nat} (hd : 404 ≤ d) {dg : Nat} (hdg : dg + 1 ≤ d) {rc : Nat → WSX12 → List Int32 → (Int32 → WSX12 → Prop) → Prop} (hrc : ∀ (k : Nat) (σ : WSX12) (xs : List Int32) (po : Int32 → WSX12 → Prop), rc k σ xs po → AC G (Mg_ca k) dg 0 0 25 (.ref 0 :: xs.map .int) (wX12 G σ) (aw_pv (wX12 G) (fun τ => po 0 τ))) {post : WSX12 → Prop}  {σ : WSX12} {x1 : Int32} {x2 : Int32} (h : wp_X12_checkOne_327 rc  post σ x1 x2) : AW G MX12_checkOne d 0 0 25 (aw_pv (wX12 G) post) 327 [(0, .ref 0), (1, .int x1), (2, .int x2)] [] (wX12 G σ) := by
  unfold wp_X12_checkOne_327 at h
  refine aw_aload_n 0 dX12_checkOne_327 rfl rfl ?_
  refine aw_getf (v := .ref 5) fX12_22 0 rfl rfl dX12_checkOne_328 ?_
  refine aw_iload_n 1 dX12_checkOne_331 rfl rfl ?_
  refine aw_iald 5 (n := 9000) (f := σ.1.1.2.2.1) rfl h.1 dX12_checkOne_332 ?_
  have h := h.2
  refine aw_bipush (v := (9 : Int32)) dX12_checkOne_333 (by decide) ?_
  refine aw_icmp_ne 455 dX12_checkOne_335 (by decide) (fun c40 => ?_) (fun c40 => ?_)
  · have h := h.1 c40
    exact aw_vret rfl dX12_checkOne_455 ⟨σ, rfl, rfl, h⟩
  · have h := h.2 c40
    refine aw_aload_n 0 dX12_checkOne_338 rfl rfl ?_
    refine aw_aload_n 0 dX12_checkOne_339 rfl rfl ?_
    refine aw_getf (v := .ref 8) fX12_31 0 rfl rfl dX12_checkOne_340 ?_
    refine aw_aload_n 0 dX12_checkOne_343 rfl rfl ?_
    refine aw_getf (v := .ref 7) fX12_28 0 rfl rfl dX12_checkOne_344 ?_
    refine aw_iload_n 1 dX12_checkOne_347 rfl rfl ?_
    refine aw_iald 7 (n := 9000) (f := σ.1.1.2.2.2.2) rfl h.1 dX12_checkOne_348 ?_
    have h := h.2
    refine aw_iald 8 (n := 9000) (f := σ.1.2.1.1.1) rfl h.1 dX12_checkOne_349 ?_
    have h := h.2
    refine aw_iload_n 2 dX12_checkOne_350 rfl rfl ?_
    refine aw_callVT (mc1 := 0) (ms1 := 0) (mc := 0) (ms := 0) (st := []) (q := 0) (As := [.int (σ.1.2.1.1.1 ((σ.1.1.2.2.2.2 (x1).toNatClampNeg)).toNatClampNeg), .int x2]) lX12_236 insX12_checkAll selX12_checkAll ⟨TX12, 50, rfl⟩ (by omega) (hrc 0 _ [(σ.1.2.1.1.1 ((σ.1.1.2.2.2.2 (x1).toNatClampNeg)).toNatClampNeg), x2] _ h) (Nat.le_of_ble_eq_true rfl) rfl rfl rfl dX12_checkOne_351 rfl (fun _ _ hh => ?_)
    obtain ⟨τ39, rfl, rfl, h⟩ := hh
    refine aw_stk (st' := []) rfl ?_
    refine aw_goto 455 dX12_checkOne_354 (by decide) ?_
    exact aw_vret rfl dX12_checkOne_455 ⟨τ39, rfl, rfl, h⟩
def wp_X12_checkOne_323 (rc : Nat → WSX12 → List Int32 → (Int32 → WSX12 → Prop) → Prop)  (post : WSX12 → Prop) (σ : WSX12) (x1 : Int32) (x2 : Int32) (x3 : Int32) (s0 : Int32) : Prop :=
  wp_X12_wrong σ s0 x3 (fun τ42 => wp_X12_checkOne_327 rc  post τ42 x1 x2)
theorem aw_X12_checkOne_323 {G : aw_G} {d : Nat} (hd : 404 ≤ d) {dg : Nat} (hdg : dg + 1 ≤ d) {rc : Nat → WSX12 → List Int32 → (Int32 → WSX12 → Prop) → Prop} (hrc : ∀ (k : Nat) (σ : WSX12) (xs : List Int32) (po : Int32 → WSX12 → Prop), rc k σ xs po → AC G (Mg_ca k) dg 0 0 25 (.ref 0 :: xs.map .int) (wX12 G σ) (aw_pv (wX12 G) (fun τ => po 0 τ))) {post : WSX12 → Prop}  {σ : WSX12} {x1 : Int32} {x2 : Int32} {x3 : Int32} {s0 : Int32} (h : wp_X12_checkOne_323 rc  post σ x1 x2 x3 s0) : AW G MX12_checkOne d 0 0 25 (aw_pv (wX12 G) post) 323 [(0, .ref 0), (1, .int x1), (2, .int x2), (3, .int x3)] [.int s0, .ref 0] (wX12 G σ) := by
  unfold wp_X12_checkOne_323 at h
  refine aw_iload_n 3 dX12_checkOne_323 rfl rfl ?_
  refine aw_callVT (mc1 := 0) (ms1 := 0) (mc := 0) (ms := 0) (st := []) (q := 0) (As := [.int s0, .int x3]) lX12_201 insX12_wrong selX12_wrong ⟨TX12, 50, rfl⟩ (by omega) (kX12_wrong (d := 0) (by omega) h) (Nat.le_of_ble_eq_true rfl) rfl rfl rfl dX12_checkOne_324 rfl (fun _ _ hh => ?_)
  obtain ⟨τ42, rfl, rfl, h⟩ := hh
  refine aw_stk (st' := []) rfl ?_
  refine aw_lvsub (lv' := [(0, .ref 0), (1, .int x1), (2, .int x2)]) [0, 1, 2] rfl ?_
  exact aw_X12_checkOne_327 hd hdg hrc  h
def wp_X12_checkOne_272 (rc : Nat → WSX12 → List Int32 → (Int32 → WSX12 → Prop) → Prop)  (post : WSX12 → Prop) (σ : WSX12) (x1 : Int32) (x2 : Int32) (x3 : Int32) : Prop :=
  (vp_in x1 9000 ∧ (∃ n37, n37 ≤ 400 ∧ wg_ck n37 0 σ [(σ.1.1.2.2.2.2 (x1).toNatClampNeg), x2] (fun _ τ36 => ((¬ τ36.2.1.2.1.1 = 0 → wp_X12_checkOne_327 rc  post τ36 x1 x2) ∧ (τ36.2.1.2.1.1 = 0 → (vp_in x1 9000 ∧ (vp_in (τ36.1.1.2.2.2.2 (x1).toNatClampNeg) 9000 ∧ (((τ36.1.2.1.1.2.1 ((τ36.1.1.2.2.2.2 (x1).toNatClampNeg)).toNatClampNeg) = 0 → wp_X12_checkOne_327 rc  post τ36 x1 x2) ∧ (¬ (τ36.1.2.1.1.2.1 ((τ36.1.1.2.2.2.2 (x1).toNatClampNeg)).toNatClampNeg) = 0 → (vp_in x1 9000 ∧ ((¬ (τ36.1.1.2.2.1 (x1).toNatClampNeg) = (6 : Int32) → wp_X12_checkOne_323 rc  post τ36 x1 x2 x3 (6 : Int32)) ∧ ((τ36.1.1.2.2.1 (x1).toNatClampNeg) = (6 : Int32) → wp_X12_checkOne_323 rc  post τ36 x1 x2 x3 (7 : Int32)))))))))))))
theorem aw_X12_checkOne_272 {G : aw_G} {d : Nat} (hd : 404 ≤ d) {dg : Nat} (hdg : dg + 1 ≤ d) {rc : Nat → WSX12 → List Int32 → (Int32 → WSX12 → Prop) → Prop} (hrc : ∀ (k : Nat) (σ : WSX12) (xs : List Int32) (po : Int32 → WSX12 → Prop), rc k σ xs po → AC G (Mg_ca k) dg 0 0 25 (.ref 0 :: xs.map .int) (wX12 G σ) (aw_pv (wX12 G) (fun τ => po 0 τ))) {post : WSX12 → Prop}  {σ : WSX12} {x1 : Int32} {x2 : Int32} {x3 : Int32} (h : wp_X12_checkOne_272 rc  post σ x1 x2 x3) : AW G MX12_checkOne d 0 0 25 (aw_pv (wX12 G) post) 272 [(0, .ref 0), (1, .int x1), (2, .int x2), (3, .int x3)] [] (wX12 G σ) := by
  unfold wp_X12_checkOne_272 at h
  refine aw_aload_n 0 dX12_checkOne_272 rfl rfl ?_
  refine aw_aload_n 0 dX12_checkOne_273 rfl rfl ?_
  refine aw_getf (v := .ref 7) fX12_28 0 rfl rfl dX12_checkOne_274 ?_
  refine aw_iload_n 1 dX12_checkOne_277 rfl rfl ?_
  refine aw_iald 7 (n := 9000) (f := σ.1.1.2.2.2.2) rfl h.1 dX12_checkOne_278 ?_
  have h := h.2
  refine aw_iload_n 2 dX12_checkOne_279 rfl rfl ?_
  obtain ⟨n37, hn37, h⟩ := h
  refine aw_callVT (mc1 := 0) (ms1 := 0) (mc := 0) (ms := 0) (st := []) (q := 0) (As := [.int (σ.1.1.2.2.2.2 (x1).toNatClampNeg), .int x2]) lX12_223 insX12_check selX12_check ⟨TX12, 50, rfl⟩ (by omega) (kg_ck n37 0 _ [(σ.1.1.2.2.2.2 (x1).toNatClampNeg), x2] _ h) (Nat.le_of_ble_eq_true rfl) rfl rfl rfl dX12_checkOne_280 rfl (fun _ _ hh => ?_)
  obtain ⟨τ36, rfl, rfl, h⟩ := hh
  refine aw_stk (st' := []) rfl ?_
  refine aw_aload_n 0 dX12_checkOne_283 rfl rfl ?_
  refine aw_getf (v := .int τ36.2.1.2.1.1) fX12_189 0 rfl rfl dX12_checkOne_284 ?_
  refine aw_if_ne 327 dX12_checkOne_287 (by decide) (fun c45 => ?_) (fun c45 => ?_)
  · have h := h.1 c45
    refine aw_lvsub (lv' := [(0, .ref 0), (1, .int x1), (2, .int x2)]) [0, 1, 2] rfl ?_
    exact aw_X12_checkOne_327 hd hdg hrc  h
  · have h := h.2 c45
    refine aw_aload_n 0 dX12_checkOne_290 rfl rfl ?_
    refine aw_getf (v := .ref 9) fX12_34 0 rfl rfl dX12_checkOne_291 ?_
    refine aw_aload_n 0 dX12_checkOne_294 rfl rfl ?_
    refine aw_getf (v := .ref 7) fX12_28 0 rfl rfl dX12_checkOne_295 ?_
    refine aw_iload_n 1 dX12_checkOne_298 rfl rfl ?_
    refine aw_iald 7 (n := 9000) (f := τ36.1.1.2.2.2.2) rfl h.1 dX12_checkOne_299 ?_
    have h := h.2
    refine aw_zald 9 (n := 9000) (f := τ36.1.2.1.1.2.1) rfl h.1 dX12_checkOne_300 ?_
    have h := h.2
    refine aw_if_eq 327 dX12_checkOne_301 (by decide) (fun c44 => ?_) (fun c44 => ?_)
    · have h := h.1 c44
      refine aw_lvsub (lv' := [(0, .ref 0), (1, .int x1), (2, .int x2)]) [0, 1, 2] rfl ?_
      exact aw_X12_checkOne_327 hd hdg hrc  h
    · have h := h.2 c44
      refine aw_aload_n 0 dX12_checkOne_304 rfl rfl ?_
      refine aw_aload_n 0 dX12_checkOne_305 rfl rfl ?_
      refine aw_getf (v := .ref 5) fX12_22 0 rfl rfl dX12_checkOne_306 ?_
      refine aw_iload_n 1 dX12_checkOne_309 rfl rfl ?_
      refine aw_iald 5 (n := 9000) (f := τ36.1.1.2.2.1) rfl h.1 dX12_checkOne_310 ?_
      have h := h.2
      refine aw_bipush (v := (6 : Int32)) dX12_checkOne_311 (by decide) ?_
      refine aw_icmp_ne 321 dX12_checkOne_313 (by decide) (fun c43 => ?_) (fun c43 => ?_)
      · have h := h.1 c43
        refine aw_bipush (v := (6 : Int32)) dX12_checkOne_321 (by decide) ?_
        exact aw_X12_checkOne_323 hd hdg hrc  h
      · have h := h.2 c43
        refine aw_bipush (v := (7 : Int32)) dX12_checkOne_316 (by decide) ?_
        refine aw_goto 323 dX12_checkOne_318 (by decide) ?_
        exact aw_X12_checkOne_323 hd hdg hrc  h
def wp_X12_checkOne_261 (rc : Nat → WSX12 → List Int32 → (Int32 → WSX12 → Prop) → Prop)  (post : WSX12 → Prop) (σ : WSX12) (x1 : Int32) (x2 : Int32) (x3 : Int32) : Prop :=
  ((x2 = 0 → wp_X12_checkOne_272 rc  post σ x1 x2 x3) ∧ (¬ x2 = 0 → wp_X12_wrong σ (8 : Int32) x3 (fun τ47 => wp_X12_checkOne_272 rc  post τ47 x1 x2 x3)))
theorem aw_X12_checkOne_261 {G : aw_G} {d : Nat} (hd : 404 ≤ d) {dg : Nat} (hdg : dg + 1 ≤ d) {rc : Nat → WSX12 → List Int32 → (Int32 → WSX12 → Prop) → Prop} (hrc : ∀ (k : Nat) (σ : WSX12) (xs : List Int32) (po : Int32 → WSX12 → Prop), rc k σ xs po → AC G (Mg_ca k) dg 0 0 25 (.ref 0 :: xs.map .int) (wX12 G σ) (aw_pv (wX12 G) (fun τ => po 0 τ))) {post : WSX12 → Prop}  {σ : WSX12} {x1 : Int32} {x2 : Int32} {x3 : Int32} (h : wp_X12_checkOne_261 rc  post σ x1 x2 x3) : AW G MX12_checkOne d 0 0 25 (aw_pv (wX12 G) post) 261 [(0, .ref 0), (1, .int x1), (2, .int x2), (3, .int x3)] [] (wX12 G σ) := by
  unfold wp_X12_checkOne_261 at h
  refine aw_iload_n 2 dX12_checkOne_261 rfl rfl ?_
  refine aw_if_eq 272 dX12_checkOne_262 (by decide) (fun c48 => ?_) (fun c48 => ?_)
  · have h := h.1 c48
    exact aw_X12_checkOne_272 hd hdg hrc  h
  · have h := h.2 c48
    refine aw_aload_n 0 dX12_checkOne_265 rfl rfl ?_
    refine aw_bipush (v := (8 : Int32)) dX12_checkOne_266 (by decide) ?_
    refine aw_iload_n 3 dX12_checkOne_268 rfl rfl ?_
    refine aw_callVT (mc1 := 0) (ms1 := 0) (mc := 0) (ms := 0) (st := []) (q := 0) (As := [.int (8 : Int32), .int x3]) lX12_201 insX12_wrong selX12_wrong ⟨TX12, 50, rfl⟩ (by omega) (kX12_wrong (d := 0) (by omega) h) (Nat.le_of_ble_eq_true rfl) rfl rfl rfl dX12_checkOne_269 rfl (fun _ _ hh => ?_)
    obtain ⟨τ47, rfl, rfl, h⟩ := hh
    refine aw_stk (st' := []) rfl ?_
    exact aw_X12_checkOne_272 hd hdg hrc  h
def wp_X12_checkOne_440 (rc : Nat → WSX12 → List Int32 → (Int32 → WSX12 → Prop) → Prop) (rec_413 : WSX12 × Int32 × Int32 × Int32 → Prop) (post : WSX12 → Prop) (σ : WSX12) (x1 : Int32) (x2 : Int32) (x4 : Int32) (s0 : Int32) (s1 : Int32) : Prop :=
  rc 0 σ [s1, s0] (fun _ τ55 => (vp_in x4 9000 ∧ (∀ y56 : Int32, y56 = (τ55.1.2.1.1.1 (x4).toNatClampNeg) → rec_413 (τ55, x1, x2, y56))))
theorem aw_X12_checkOne_440 {G : aw_G} {d : Nat} (hd : 404 ≤ d) {dg : Nat} (hdg : dg + 1 ≤ d) {rc : Nat → WSX12 → List Int32 → (Int32 → WSX12 → Prop) → Prop} (hrc : ∀ (k : Nat) (σ : WSX12) (xs : List Int32) (po : Int32 → WSX12 → Prop), rc k σ xs po → AC G (Mg_ca k) dg 0 0 25 (.ref 0 :: xs.map .int) (wX12 G σ) (aw_pv (wX12 G) (fun τ => po 0 τ))) {rec_413 : WSX12 × Int32 × Int32 × Int32 → Prop} {post : WSX12 → Prop} (hrec_413 : ∀ a : WSX12 × Int32 × Int32 × Int32, rec_413 a → AW G MX12_checkOne d 0 0 25 (aw_pv (wX12 G) post) 413 [(0, .ref 0), (1, .int a.2.1), (2, .int a.2.2.1), (4, .int a.2.2.2)] [] (wX12 G a.1)) {σ : WSX12} {x1 : Int32} {x2 : Int32} {x4 : Int32} {s0 : Int32} {s1 : Int32} (h : wp_X12_checkOne_440 rc rec_413 post σ x1 x2 x4 s0 s1) : AW G MX12_checkOne d 0 0 25 (aw_pv (wX12 G) post) 440 [(0, .ref 0), (1, .int x1), (2, .int x2), (4, .int x4)] [.int s0, .int s1, .ref 0] (wX12 G σ) := by
  unfold wp_X12_checkOne_440 at h
  refine aw_callVT (mc1 := 0) (ms1 := 0) (mc := 0) (ms := 0) (st := []) (q := 0) (As := [.int s1, .int s0]) lX12_236 insX12_checkAll selX12_checkAll ⟨TX12, 50, rfl⟩ (by omega) (hrc 0 _ [s1, s0] _ h) (Nat.le_of_ble_eq_true rfl) rfl rfl rfl dX12_checkOne_440 rfl (fun _ _ hh => ?_)
  obtain ⟨τ55, rfl, rfl, h⟩ := hh
  refine aw_stk (st' := []) rfl ?_
  refine aw_aload_n 0 dX12_checkOne_443 rfl rfl ?_
  refine aw_getf (v := .ref 8) fX12_31 0 rfl rfl dX12_checkOne_444 ?_
  refine aw_iload 3 dX12_checkOne_447 rfl ?_
  refine aw_iald 8 (n := 9000) (f := τ55.1.2.1.1.1) rfl h.1 dX12_checkOne_449 ?_
  have h := h.2
  refine aw_topi (fun y56 ey56 => ?_)
  have h := h y56 ey56
  refine aw_istore (lv' := [(4, .int y56), (0, .ref 0), (1, .int x1), (2, .int x2)]) dX12_checkOne_450 (by decide) rfl ?_
  refine aw_goto 413 dX12_checkOne_452 (by decide) ?_
  refine aw_lvsub (lv' := [(0, .ref 0), (1, .int x1), (2, .int x2), (4, .int y56)]) [1, 2, 3, 0] rfl ?_
  exact hrec_413 (τ55, x1, x2, y56) h
def wp_X12_checkOne_435 (rc : Nat → WSX12 → List Int32 → (Int32 → WSX12 → Prop) → Prop) (rec_413 : WSX12 × Int32 × Int32 × Int32 → Prop) (post : WSX12 → Prop) (σ : WSX12) (x1 : Int32) (x2 : Int32) (x4 : Int32) (s0 : Int32) : Prop :=
  wp_X12_checkOne_440 rc rec_413 post σ x1 x2 x4 (1 : Int32) s0
theorem aw_X12_checkOne_435 {G : aw_G} {d : Nat} (hd : 404 ≤ d) {dg : Nat} (hdg : dg + 1 ≤ d) {rc : Nat → WSX12 → List Int32 → (Int32 → WSX12 → Prop) → Prop} (hrc : ∀ (k : Nat) (σ : WSX12) (xs : List Int32) (po : Int32 → WSX12 → Prop), rc k σ xs po → AC G (Mg_ca k) dg 0 0 25 (.ref 0 :: xs.map .int) (wX12 G σ) (aw_pv (wX12 G) (fun τ => po 0 τ))) {rec_413 : WSX12 × Int32 × Int32 × Int32 → Prop} {post : WSX12 → Prop} (hrec_413 : ∀ a : WSX12 × Int32 × Int32 × Int32, rec_413 a → AW G MX12_checkOne d 0 0 25 (aw_pv (wX12 G) post) 413 [(0, .ref 0), (1, .int a.2.1), (2, .int a.2.2.1), (4, .int a.2.2.2)] [] (wX12 G a.1)) {σ : WSX12} {x1 : Int32} {x2 : Int32} {x4 : Int32} {s0 : Int32} (h : wp_X12_checkOne_435 rc rec_413 post σ x1 x2 x4 s0) : AW G MX12_checkOne d 0 0 25 (aw_pv (wX12 G) post) 435 [(0, .ref 0), (1, .int x1), (2, .int x2), (4, .int x4)] [.int s0, .ref 0] (wX12 G σ) := by
  unfold wp_X12_checkOne_435 at h
  refine aw_iconst (v := (1 : Int32)) dX12_checkOne_435 (by decide) ?_
  refine aw_goto 440 dX12_checkOne_436 (by decide) ?_
  exact aw_X12_checkOne_440 hd hdg hrc hrec_413 h
def wb_X12_checkOne_413 (rc : Nat → WSX12 → List Int32 → (Int32 → WSX12 → Prop) → Prop)  (post : WSX12 → Prop) (rec_413 : WSX12 × Int32 × Int32 × Int32 → Prop) (σ : WSX12) (x1 : Int32) (x2 : Int32) (x4 : Int32) : Prop :=
  ((x4 = ((-1) : Int32) → post σ) ∧ (¬ x4 = ((-1) : Int32) → ((¬ x2 = 0 → wp_X12_checkOne_435 rc rec_413 post σ x1 x2 x4 x4) ∧ (x2 = 0 → (vp_in x1 9000 ∧ (((σ.1.2.1.1.2.1 (x1).toNatClampNeg) = 0 → wp_X12_checkOne_440 rc rec_413 post σ x1 x2 x4 (0 : Int32) x4) ∧ (¬ (σ.1.2.1.1.2.1 (x1).toNatClampNeg) = 0 → wp_X12_checkOne_435 rc rec_413 post σ x1 x2 x4 x4)))))))
def wp_X12_checkOne_413 (rc : Nat → WSX12 → List Int32 → (Int32 → WSX12 → Prop) → Prop)  (post : WSX12 → Prop) (n : Nat) (σ : WSX12) (x1 : Int32) (x2 : Int32) (x4 : Int32) : Prop := aw_loop (fun r (a : WSX12 × Int32 × Int32 × Int32) => wb_X12_checkOne_413 rc  post r a.1 a.2.1 a.2.2.1 a.2.2.2) n (σ, x1, x2, x4)
theorem aw_X12_checkOne_413 {G : aw_G} {d : Nat} (hd : 404 ≤ d) {dg : Nat} (hdg : dg + 1 ≤ d) {rc : Nat → WSX12 → List Int32 → (Int32 → WSX12 → Prop) → Prop} (hrc : ∀ (k : Nat) (σ : WSX12) (xs : List Int32) (po : Int32 → WSX12 → Prop), rc k σ xs po → AC G (Mg_ca k) dg 0 0 25 (.ref 0 :: xs.map .int) (wX12 G σ) (aw_pv (wX12 G) (fun τ => po 0 τ))) {post : WSX12 → Prop}  : ∀ (n : Nat) (σ : WSX12) (x1 : Int32) (x2 : Int32) (x4 : Int32), wp_X12_checkOne_413 rc  post n σ x1 x2 x4 → AW G MX12_checkOne d 0 0 25 (aw_pv (wX12 G) post) 413 [(0, .ref 0), (1, .int x1), (2, .int x2), (4, .int x4)] [] (wX12 G σ) := by
  intro n
  induction n with
  | zero => intro σ x1 x2 x4 h; exact h.elim
  | succ n ih =>
    intro σ x1 x2 x4 h
    have hrec_413 : ∀ a : WSX12 × Int32 × Int32 × Int32, aw_loop (fun r (a : WSX12 × Int32 × Int32 × Int32) => wb_X12_checkOne_413 rc  post r a.1 a.2.1 a.2.2.1 a.2.2.2) n a → AW G MX12_checkOne d 0 0 25 (aw_pv (wX12 G) post) 413 [(0, .ref 0), (1, .int a.2.1), (2, .int a.2.2.1), (4, .int a.2.2.2)] [] (wX12 G a.1) := fun a h => ih a.1 a.2.1 a.2.2.1 a.2.2.2 h
    have h : wb_X12_checkOne_413 rc  post (aw_loop (fun r (a : WSX12 × Int32 × Int32 × Int32) => wb_X12_checkOne_413 rc  post r a.1 a.2.1 a.2.2.1 a.2.2.2) n) σ x1 x2 x4 := h
    unfold wb_X12_checkOne_413 at h
    refine aw_iload 3 dX12_checkOne_413 rfl ?_
    refine aw_iconst (v := ((-1) : Int32)) dX12_checkOne_415 (by decide) ?_
    refine aw_icmp_eq 455 dX12_checkOne_416 (by decide) (fun c59 => ?_) (fun c59 => ?_)
    · have h := h.1 c59
      exact aw_vret rfl dX12_checkOne_455 ⟨σ, rfl, rfl, h⟩
    · have h := h.2 c59
      refine aw_aload_n 0 dX12_checkOne_419 rfl rfl ?_
      refine aw_iload 3 dX12_checkOne_420 rfl ?_
      refine aw_iload_n 2 dX12_checkOne_422 rfl rfl ?_
      refine aw_if_ne 435 dX12_checkOne_423 (by decide) (fun c58 => ?_) (fun c58 => ?_)
      · have h := h.1 c58
        exact aw_X12_checkOne_435 hd hdg hrc hrec_413 h
      · have h := h.2 c58
        refine aw_aload_n 0 dX12_checkOne_426 rfl rfl ?_
        refine aw_getf (v := .ref 9) fX12_34 0 rfl rfl dX12_checkOne_427 ?_
        refine aw_iload_n 1 dX12_checkOne_430 rfl rfl ?_
        refine aw_zald 9 (n := 9000) (f := σ.1.2.1.1.2.1) rfl h.1 dX12_checkOne_431 ?_
        have h := h.2
        refine aw_if_eq 439 dX12_checkOne_432 (by decide) (fun c57 => ?_) (fun c57 => ?_)
        · have h := h.1 c57
          refine aw_iconst (v := (0 : Int32)) dX12_checkOne_439 (by decide) ?_
          exact aw_X12_checkOne_440 hd hdg hrc hrec_413 h
        · have h := h.2 c57
          exact aw_X12_checkOne_435 hd hdg hrc hrec_413 h
def wp_X12_checkOne_399 (rc : Nat → WSX12 → List Int32 → (Int32 → WSX12 → Prop) → Prop)  (post : WSX12 → Prop) (σ : WSX12) (x1 : Int32) (x2 : Int32) (s0 : Int32) (s1 : Int32) : Prop :=
  (vp_in s1 9000 ∧ ∀ y52 : Nat → Int32, y52 = upd σ.1.2.1.1.2.1 (s1).toNatClampNeg (vp_nar .boolean s0) → (vp_in x1 9000 ∧ (vp_in (σ.1.1.2.2.2.2 (x1).toNatClampNeg) 9000 ∧ (∀ y53 : Int32, y53 = (σ.1.2.1.1.1 ((σ.1.1.2.2.2.2 (x1).toNatClampNeg)).toNatClampNeg) → (∃ n60, wp_X12_checkOne_413 rc  post n60 ((σ.1.1, (((σ.1.2.1.1.1, (y52, σ.1.2.1.1.2.2)), σ.1.2.1.2), σ.1.2.2)), σ.2) x1 x2 y53)))))
theorem aw_X12_checkOne_399 {G : aw_G} {d : Nat} (hd : 404 ≤ d) {dg : Nat} (hdg : dg + 1 ≤ d) {rc : Nat → WSX12 → List Int32 → (Int32 → WSX12 → Prop) → Prop} (hrc : ∀ (k : Nat) (σ : WSX12) (xs : List Int32) (po : Int32 → WSX12 → Prop), rc k σ xs po → AC G (Mg_ca k) dg 0 0 25 (.ref 0 :: xs.map .int) (wX12 G σ) (aw_pv (wX12 G) (fun τ => po 0 τ))) {post : WSX12 → Prop}  {σ : WSX12} {x1 : Int32} {x2 : Int32} {s0 : Int32} {s1 : Int32} (h : wp_X12_checkOne_399 rc  post σ x1 x2 s0 s1) : AW G MX12_checkOne d 0 0 25 (aw_pv (wX12 G) post) 399 [(0, .ref 0), (1, .int x1), (2, .int x2)] [.int s0, .int s1, .ref 9] (wX12 G σ) := by
  unfold wp_X12_checkOne_399 at h
  refine aw_zast 9 (n := 9000) (f := σ.1.2.1.1.2.1) (w' := fun y52 => (wX12 G ((σ.1.1, (((σ.1.2.1.1.1, (y52, σ.1.2.1.1.2.2)), σ.1.2.1.2), σ.1.2.2)), σ.2))) rfl h.1 (fun _ => rfl) dX12_checkOne_399 (fun y52 ey52 => ?_)
  have h := h.2 y52 ey52
  refine aw_aload_n 0 dX12_checkOne_400 rfl rfl ?_
  refine aw_getf (v := .ref 8) fX12_31 0 rfl rfl dX12_checkOne_401 ?_
  refine aw_aload_n 0 dX12_checkOne_404 rfl rfl ?_
  refine aw_getf (v := .ref 7) fX12_28 0 rfl rfl dX12_checkOne_405 ?_
  refine aw_iload_n 1 dX12_checkOne_408 rfl rfl ?_
  refine aw_iald 7 (n := 9000) (f := σ.1.1.2.2.2.2) rfl h.1 dX12_checkOne_409 ?_
  have h := h.2
  refine aw_iald 8 (n := 9000) (f := σ.1.2.1.1.1) rfl h.1 dX12_checkOne_410 ?_
  have h := h.2
  refine aw_topi (fun y53 ey53 => ?_)
  have h := h y53 ey53
  refine aw_istore (lv' := [(4, .int y53), (0, .ref 0), (1, .int x1), (2, .int x2)]) dX12_checkOne_411 (by decide) rfl ?_
  refine aw_lvsub (lv' := [(0, .ref 0), (1, .int x1), (2, .int x2), (4, .int y53)]) [1, 2, 3, 0] rfl ?_
  obtain ⟨n60, h⟩ := h
  exact aw_X12_checkOne_413 hd hdg hrc  n60 ((σ.1.1, (((σ.1.2.1.1.1, (y52, σ.1.2.1.1.2.2)), σ.1.2.1.2), σ.1.2.2)), σ.2) x1 x2 y53 h
def wp_X12_checkOne_398 (rc : Nat → WSX12 → List Int32 → (Int32 → WSX12 → Prop) → Prop)  (post : WSX12 → Prop) (σ : WSX12) (x1 : Int32) (x2 : Int32) (s0 : Int32) : Prop :=
  wp_X12_checkOne_399 rc  post σ x1 x2 (0 : Int32) s0
theorem aw_X12_checkOne_398 {G : aw_G} {d : Nat} (hd : 404 ≤ d) {dg : Nat} (hdg : dg + 1 ≤ d) {rc : Nat → WSX12 → List Int32 → (Int32 → WSX12 → Prop) → Prop} (hrc : ∀ (k : Nat) (σ : WSX12) (xs : List Int32) (po : Int32 → WSX12 → Prop), rc k σ xs po → AC G (Mg_ca k) dg 0 0 25 (.ref 0 :: xs.map .int) (wX12 G σ) (aw_pv (wX12 G) (fun τ => po 0 τ))) {post : WSX12 → Prop}  {σ : WSX12} {x1 : Int32} {x2 : Int32} {s0 : Int32} (h : wp_X12_checkOne_398 rc  post σ x1 x2 s0) : AW G MX12_checkOne d 0 0 25 (aw_pv (wX12 G) post) 398 [(0, .ref 0), (1, .int x1), (2, .int x2)] [.int s0, .ref 9] (wX12 G σ) := by
  unfold wp_X12_checkOne_398 at h
  refine aw_iconst (v := (0 : Int32)) dX12_checkOne_398 (by decide) ?_
  exact aw_X12_checkOne_399 hd hdg hrc  h
def wp_X12_checkOne (rc : Nat → WSX12 → List Int32 → (Int32 → WSX12 → Prop) → Prop) (σ : WSX12) (a1 : Int32) (a2 : Int32) (post : WSX12 → Prop) : Prop :=
  (vp_in a1 9000 ∧ (∀ y1 : Int32, y1 = (σ.1.1.2.2.2.1 (a1).toNatClampNeg) → (vp_in a1 9000 ∧ (((σ.1.1.2.2.1 (a1).toNatClampNeg) = (300 : Int32) → wp_X12_checkOne_31 rc  post σ a1 a2 y1) ∧ (¬ (σ.1.1.2.2.1 (a1).toNatClampNeg) = (300 : Int32) → (vp_in a1 9000 ∧ ((¬ (σ.1.1.2.2.1 (a1).toNatClampNeg) = (301 : Int32) → (vp_in a1 9000 ∧ (((σ.1.1.2.2.1 (a1).toNatClampNeg) = (6 : Int32) → wp_X12_checkOne_261 rc  post σ a1 a2 y1) ∧ (¬ (σ.1.1.2.2.1 (a1).toNatClampNeg) = (6 : Int32) → (vp_in a1 9000 ∧ ((¬ (σ.1.1.2.2.1 (a1).toNatClampNeg) = (9 : Int32) → (vp_in a1 9000 ∧ (∃ n51, n51 ≤ 400 ∧ wg_ck n51 0 σ [(σ.1.1.2.2.2.2 (a1).toNatClampNeg), a2] (fun _ τ50 => ((¬ τ50.2.1.2.1.1 = 0 → wp_X12_checkOne_398 rc  post τ50 a1 a2 a1) ∧ (τ50.2.1.2.1.1 = 0 → (vp_in a1 9000 ∧ (vp_in (τ50.1.1.2.2.2.2 (a1).toNatClampNeg) 9000 ∧ (((τ50.1.2.1.1.2.1 ((τ50.1.1.2.2.2.2 (a1).toNatClampNeg)).toNatClampNeg) = 0 → wp_X12_checkOne_398 rc  post τ50 a1 a2 a1) ∧ (¬ (τ50.1.2.1.1.2.1 ((τ50.1.1.2.2.2.2 (a1).toNatClampNeg)).toNatClampNeg) = 0 → wp_X12_checkOne_399 rc  post τ50 a1 a2 (1 : Int32) a1)))))))))) ∧ ((σ.1.1.2.2.1 (a1).toNatClampNeg) = (9 : Int32) → wp_X12_checkOne_261 rc  post σ a1 a2 y1))))))) ∧ ((σ.1.1.2.2.1 (a1).toNatClampNeg) = (301 : Int32) → wp_X12_checkOne_31 rc  post σ a1 a2 y1))))))))
theorem kX12_checkOne {G : aw_G} {d : Nat} (hd : 404 ≤ d) {dg : Nat} (hdg : dg + 1 ≤ d) {rc : Nat → WSX12 → List Int32 → (Int32 → WSX12 → Prop) → Prop} (hrc : ∀ (k : Nat) (σ : WSX12) (xs : List Int32) (po : Int32 → WSX12 → Prop), rc k σ xs po → AC G (Mg_ca k) dg 0 0 25 (.ref 0 :: xs.map .int) (wX12 G σ) (aw_pv (wX12 G) (fun τ => po 0 τ))) {σ : WSX12} {a1 : Int32} {a2 : Int32} {post : WSX12 → Prop} (h : wp_X12_checkOne rc σ a1 a2 post) : AC G MX12_checkOne d 0 0 25 [.ref 0, .int a1, .int a2] (wX12 G σ) (aw_pv (wX12 G) post) := by
  refine AC.of (lv := [(0, .ref 0), (1, .int a1), (2, .int a2)]) (by decide) (Nat.le_of_ble_eq_true rfl) rfl ?_
  unfold wp_X12_checkOne at h
  refine aw_aload_n 0 dX12_checkOne_0 rfl rfl ?_
  refine aw_getf (v := .ref 6) fX12_25 0 rfl rfl dX12_checkOne_1 ?_
  refine aw_iload_n 1 dX12_checkOne_4 rfl rfl ?_
  refine aw_iald 6 (n := 9000) (f := σ.1.1.2.2.2.1) rfl h.1 dX12_checkOne_5 ?_
  have h := h.2
  refine aw_topi (fun y1 ey1 => ?_)
  have h := h y1 ey1
  refine aw_istore_n (lv' := [(3, .int y1), (0, .ref 0), (1, .int a1), (2, .int a2)]) dX12_checkOne_6 rfl (by decide) rfl ?_
  refine aw_aload_n 1 dX12_checkOne_7 rfl rfl ?_
  refine aw_getf (v := .ref 5) fX12_22 0 rfl rfl dX12_checkOne_8 ?_
  refine aw_iload_n 2 dX12_checkOne_11 rfl rfl ?_
  refine aw_iald 5 (n := 9000) (f := σ.1.1.2.2.1) rfl h.1 dX12_checkOne_12 ?_
  have h := h.2
  refine aw_sipush (v := (300 : Int32)) dX12_checkOne_13 (by decide) ?_
  refine aw_icmp_eq 31 dX12_checkOne_16 (by decide) (fun c66 => ?_) (fun c66 => ?_)
  · have h := h.1 c66
    refine aw_lvsub (lv' := [(0, .ref 0), (1, .int a1), (2, .int a2), (3, .int y1)]) [1, 2, 3, 0] rfl ?_
    exact aw_X12_checkOne_31 hd hdg hrc  h
  · have h := h.2 c66
    refine aw_aload_n 1 dX12_checkOne_19 rfl rfl ?_
    refine aw_getf (v := .ref 5) fX12_22 0 rfl rfl dX12_checkOne_20 ?_
    refine aw_iload_n 2 dX12_checkOne_23 rfl rfl ?_
    refine aw_iald 5 (n := 9000) (f := σ.1.1.2.2.1) rfl h.1 dX12_checkOne_24 ?_
    have h := h.2
    refine aw_sipush (v := (301 : Int32)) dX12_checkOne_25 (by decide) ?_
    refine aw_icmp_ne 239 dX12_checkOne_28 (by decide) (fun c65 => ?_) (fun c65 => ?_)
    · have h := h.1 c65
      refine aw_aload_n 1 dX12_checkOne_239 rfl rfl ?_
      refine aw_getf (v := .ref 5) fX12_22 0 rfl rfl dX12_checkOne_240 ?_
      refine aw_iload_n 2 dX12_checkOne_243 rfl rfl ?_
      refine aw_iald 5 (n := 9000) (f := σ.1.1.2.2.1) rfl h.1 dX12_checkOne_244 ?_
      have h := h.2
      refine aw_bipush (v := (6 : Int32)) dX12_checkOne_245 (by decide) ?_
      refine aw_icmp_eq 261 dX12_checkOne_247 (by decide) (fun c64 => ?_) (fun c64 => ?_)
      · have h := h.1 c64
        refine aw_lvsub (lv' := [(0, .ref 0), (1, .int a1), (2, .int a2), (3, .int y1)]) [1, 2, 3, 0] rfl ?_
        exact aw_X12_checkOne_261 hd hdg hrc  h
      · have h := h.2 c64
        refine aw_aload_n 1 dX12_checkOne_250 rfl rfl ?_
        refine aw_getf (v := .ref 5) fX12_22 0 rfl rfl dX12_checkOne_251 ?_
        refine aw_iload_n 2 dX12_checkOne_254 rfl rfl ?_
        refine aw_iald 5 (n := 9000) (f := σ.1.1.2.2.1) rfl h.1 dX12_checkOne_255 ?_
        have h := h.2
        refine aw_bipush (v := (9 : Int32)) dX12_checkOne_256 (by decide) ?_
        refine aw_icmp_ne 357 dX12_checkOne_258 (by decide) (fun c63 => ?_) (fun c63 => ?_)
        · have h := h.1 c63
          refine aw_aload_n 1 dX12_checkOne_357 rfl rfl ?_
          refine aw_aload_n 1 dX12_checkOne_358 rfl rfl ?_
          refine aw_getf (v := .ref 7) fX12_28 0 rfl rfl dX12_checkOne_359 ?_
          refine aw_iload_n 2 dX12_checkOne_362 rfl rfl ?_
          refine aw_iald 7 (n := 9000) (f := σ.1.1.2.2.2.2) rfl h.1 dX12_checkOne_363 ?_
          have h := h.2
          refine aw_iload_n 3 dX12_checkOne_364 rfl rfl ?_
          obtain ⟨n51, hn51, h⟩ := h
          refine aw_callVT (mc1 := 0) (ms1 := 0) (mc := 0) (ms := 0) (st := []) (q := 0) (As := [.int (σ.1.1.2.2.2.2 (a1).toNatClampNeg), .int a2]) lX12_223 insX12_check selX12_check ⟨TX12, 50, rfl⟩ (by omega) (kg_ck n51 0 _ [(σ.1.1.2.2.2.2 (a1).toNatClampNeg), a2] _ h) (Nat.le_of_ble_eq_true rfl) rfl rfl rfl dX12_checkOne_365 rfl (fun _ _ hh => ?_)
          obtain ⟨τ50, rfl, rfl, h⟩ := hh
          refine aw_stk (st' := []) rfl ?_
          refine aw_aload_n 1 dX12_checkOne_368 rfl rfl ?_
          refine aw_getf (v := .ref 9) fX12_34 0 rfl rfl dX12_checkOne_369 ?_
          refine aw_iload_n 2 dX12_checkOne_372 rfl rfl ?_
          refine aw_aload_n 1 dX12_checkOne_373 rfl rfl ?_
          refine aw_getf (v := .int τ50.2.1.2.1.1) fX12_189 0 rfl rfl dX12_checkOne_374 ?_
          refine aw_if_ne 398 dX12_checkOne_377 (by decide) (fun c62 => ?_) (fun c62 => ?_)
          · have h := h.1 c62
            refine aw_lvsub (lv' := [(0, .ref 0), (1, .int a1), (2, .int a2)]) [1, 2, 3] rfl ?_
            exact aw_X12_checkOne_398 hd hdg hrc  h
          · have h := h.2 c62
            refine aw_aload_n 1 dX12_checkOne_380 rfl rfl ?_
            refine aw_getf (v := .ref 9) fX12_34 0 rfl rfl dX12_checkOne_381 ?_
            refine aw_aload_n 1 dX12_checkOne_384 rfl rfl ?_
            refine aw_getf (v := .ref 7) fX12_28 0 rfl rfl dX12_checkOne_385 ?_
            refine aw_iload_n 2 dX12_checkOne_388 rfl rfl ?_
            refine aw_iald 7 (n := 9000) (f := τ50.1.1.2.2.2.2) rfl h.1 dX12_checkOne_389 ?_
            have h := h.2
            refine aw_zald 9 (n := 9000) (f := τ50.1.2.1.1.2.1) rfl h.1 dX12_checkOne_390 ?_
            have h := h.2
            refine aw_if_eq 398 dX12_checkOne_391 (by decide) (fun c61 => ?_) (fun c61 => ?_)
            · have h := h.1 c61
              refine aw_lvsub (lv' := [(0, .ref 0), (1, .int a1), (2, .int a2)]) [1, 2, 3] rfl ?_
              exact aw_X12_checkOne_398 hd hdg hrc  h
            · have h := h.2 c61
              refine aw_iconst (v := (1 : Int32)) dX12_checkOne_394 (by decide) ?_
              refine aw_goto 399 dX12_checkOne_395 (by decide) ?_
              refine aw_lvsub (lv' := [(0, .ref 0), (1, .int a1), (2, .int a2)]) [1, 2, 3] rfl ?_
              exact aw_X12_checkOne_399 hd hdg hrc  h
        · have h := h.2 c63
          refine aw_lvsub (lv' := [(0, .ref 0), (1, .int a1), (2, .int a2), (3, .int y1)]) [1, 2, 3, 0] rfl ?_
          exact aw_X12_checkOne_261 hd hdg hrc  h
    · have h := h.2 c65
      refine aw_lvsub (lv' := [(0, .ref 0), (1, .int a1), (2, .int a2), (3, .int y1)]) [1, 2, 3, 0] rfl ?_
      exact aw_X12_checkOne_31 hd hdg hrc  h
def wg_ca : Nat → Nat → WSX12 → List Int32 → (Int32 → WSX12 → Prop) → Prop
  | 0, _, _, _, _ => False
  | n + 1, k, σ, xs, po => match k, xs with
    | 0, [a0, a1] => wp_X12_checkAll (wg_ca n) σ a0 a1 (po 0)
    | 1, [a0, a1] => wp_X12_checkOne (wg_ca n) σ a0 a1 (po 0)
    | _, _ => False
theorem kg_ca {G : aw_G} : ∀ (n k : Nat) (σ : WSX12) (xs : List Int32) (po : Int32 → WSX12 → Prop), wg_ca n k σ xs po → AC G (Mg_ca k) (404 + n) 0 0 25 (.ref 0 :: xs.map .int) (wX12 G σ) (aw_pv (wX12 G) (fun τ => po 0 τ)) := by
  intro n
  induction n with
  | zero => intro k σ xs po h; exact h.elim
  | succ n ih =>
    intro k σ xs po h
    unfold wg_ca at h
    split at h
    · exact kX12_checkAll (d := 404 + (n + 1)) (by omega) (dg := 404 + n) (by omega) ih h
    · exact kX12_checkOne (d := 404 + (n + 1)) (by omega) (dg := 404 + n) (by omega) ih h
    · exact h.elim
def wb_X12_load_186  (post : Int32 → WSX12 → Prop) (rec_186 : WSX12 × Int32 → Prop) (σ : WSX12) (x2 : Int32) : Prop :=
  (((200 : Int32) ≤ x2 → post (0 : Int32) σ) ∧ (¬ (200 : Int32) ≤ x2 → (vp_in x2 200 ∧ ∀ y8 : Nat → Int32, y8 = upd σ.2.1.1.1.1 (x2).toNatClampNeg (0 : Int32) → rec_186 ((σ.1, ((((y8, σ.2.1.1.1.2), σ.2.1.1.2), σ.2.1.2), σ.2.2)), (x2 + 1)))))
def wp_X12_load_186  (post : Int32 → WSX12 → Prop) (n : Nat) (σ : WSX12) (x2 : Int32) : Prop := aw_loop (fun r (a : WSX12 × Int32) => wb_X12_load_186  post r a.1 a.2) n (σ, x2)
theorem aw_X12_load_186 {G : aw_G} {d : Nat} (hd : 805 ≤ d) {post : Int32 → WSX12 → Prop}  : ∀ (n : Nat) (σ : WSX12) (x2 : Int32), wp_X12_load_186  post n σ x2 → AW G MX12_load d 0 0 25 (aw_pi (wX12 G) post) 186 [(0, .ref 0), (2, .int x2)] [] (wX12 G σ) := by
  intro n
  induction n with
  | zero => intro σ x2 h; exact h.elim
  | succ n ih =>
    intro σ x2 h
    have hrec_186 : ∀ a : WSX12 × Int32, aw_loop (fun r (a : WSX12 × Int32) => wb_X12_load_186  post r a.1 a.2) n a → AW G MX12_load d 0 0 25 (aw_pi (wX12 G) post) 186 [(0, .ref 0), (2, .int a.2)] [] (wX12 G a.1) := fun a h => ih a.1 a.2 h
    have h : wb_X12_load_186  post (aw_loop (fun r (a : WSX12 × Int32) => wb_X12_load_186  post r a.1 a.2) n) σ x2 := h
    unfold wb_X12_load_186 at h
    refine aw_iload_n 1 dX12_load_186 rfl rfl ?_
    refine aw_sipush (v := (200 : Int32)) dX12_load_187 (by decide) ?_
    refine aw_icmp_ge 206 dX12_load_190 (by decide) (fun c9 => ?_) (fun c9 => ?_)
    · have h := h.1 c9
      refine aw_iconst (v := (0 : Int32)) dX12_load_206 (by decide) ?_
      exact aw_iret rfl dX12_load_207 ⟨_, σ, rfl, rfl, h⟩
    · have h := h.2 c9
      refine aw_aload_n 0 dX12_load_193 rfl rfl ?_
      refine aw_getf (v := .ref 17) fX12_59 0 rfl rfl dX12_load_194 ?_
      refine aw_iload_n 1 dX12_load_197 rfl rfl ?_
      refine aw_iconst (v := (0 : Int32)) dX12_load_198 (by decide) ?_
      refine aw_iast 17 (n := 200) (f := σ.2.1.1.1.1) (w' := fun y8 => (wX12 G (σ.1, ((((y8, σ.2.1.1.1.2), σ.2.1.1.2), σ.2.1.2), σ.2.2)))) rfl h.1 (fun _ => rfl) dX12_load_199 (fun y8 ey8 => ?_)
      have h := h.2 y8 ey8
      refine aw_iinc 1 (v := (x2 + 1)) (lv' := [(2, .int (x2 + 1)), (0, .ref 0)]) dX12_load_200 rfl rfl (by decide) rfl ?_
      refine aw_goto 186 dX12_load_203 (by decide) ?_
      refine aw_lvsub (lv' := [(0, .ref 0), (2, .int (x2 + 1))]) [1, 0] rfl ?_
      exact hrec_186 ((σ.1, ((((y8, σ.2.1.1.1.2), σ.2.1.1.2), σ.2.1.2), σ.2.2)), (x2 + 1)) h
def wb_X12_load_21  (post : Int32 → WSX12 → Prop) (rec_21 : WSX12 × Int32 × Int32 → Prop) (σ : WSX12) (x1 : Int32) (x2 : Int32) : Prop :=
  ((x1 ≤ x2 → wp_X12_cut (((((σ.1.1.1.1.1, ((0 : Int32), σ.1.1.1.1.2.2)), σ.1.1.1.2), ((σ.1.1.2.1.1, (σ.1.1.2.1.2.1, (0 : Int32))), σ.1.1.2.2)), ((σ.1.2.1.1, ((0 : Int32), σ.1.2.1.2.2)), (σ.1.2.2.1, (((0 : Int32), (0 : Int32)), ((0 : Int32), σ.1.2.2.2.2.2))))), ((((σ.2.1.1.1.1, (σ.2.1.1.1.2.1, (0 : Int32))), σ.2.1.1.2), (((0 : Int32), ((0 : Int32), σ.2.1.2.1.2.2)), σ.2.1.2.2)), σ.2.2))  (fun τ2 => wp_X12_program τ2  (fun r3 τ4 => ((τ4.1.1.2.1.2.1 = 0 → (∃ n7, n7 ≤ 400 ∧ wg_ca n7 0 (τ4.1, ((((τ4.2.1.1.1.1, (r3, τ4.2.1.1.1.2.2)), τ4.2.1.1.2), τ4.2.1.2), τ4.2.2)) [r3, (0 : Int32)] (fun _ τ6 => ((τ6.2.1.2.1.1 = 0 → (∃ n10, wp_X12_load_186  post n10 (τ6.1, ((((τ6.2.1.1.1.1, (τ6.2.1.1.1.2.1, (1 : Int32))), (((-1) : Int32), (((-1) : Int32), τ6.2.1.1.2.2.2))), τ6.2.1.2), τ6.2.2)) (0 : Int32))) ∧ (¬ τ6.2.1.2.1.1 = 0 → (vp_in τ6.2.1.1.2.2.2 3002 ∧ (∀ y11 : Int32, y11 = (τ6.1.1.1.2.2.1 (τ6.2.1.1.2.2.2).toNatClampNeg) → post ((-3) : Int32) (τ6.1, (((τ6.2.1.1.1, (y11, (τ6.2.1.2.1.1, τ6.2.1.1.2.2.2))), τ6.2.1.2), τ6.2.2))))))))) ∧ (¬ τ4.1.1.2.1.2.1 = 0 → (vp_in τ4.1.1.2.1.1 3002 ∧ (∀ y13 : Int32, y13 = (τ4.1.1.1.2.2.1 (τ4.1.1.2.1.1).toNatClampNeg) → post ((-2) : Int32) (τ4.1, ((((τ4.2.1.1.1.1, (r3, τ4.2.1.1.1.2.2)), (y13, ((0 : Int32), τ4.2.1.1.2.2.2))), τ4.2.1.2), τ4.2.2))))))))) ∧ (¬ x1 ≤ x2 → (vp_in x2 3000 ∧ (vp_in x2 3000 ∧ ∀ y15 : Nat → Int32, y15 = upd σ.2.2.1.2.1 (x2).toNatClampNeg (σ.1.1.1.1.1 (x2).toNatClampNeg) → rec_21 ((σ.1, (σ.2.1, ((σ.2.2.1.1, (y15, σ.2.2.1.2.2)), σ.2.2.2))), x1, (x2 + 1))))))
def wp_X12_load_21  (post : Int32 → WSX12 → Prop) (n : Nat) (σ : WSX12) (x1 : Int32) (x2 : Int32) : Prop := aw_loop (fun r (a : WSX12 × Int32 × Int32) => wb_X12_load_21  post r a.1 a.2.1 a.2.2) n (σ, x1, x2)
theorem aw_X12_load_21 {G : aw_G} {d : Nat} (hd : 805 ≤ d) {post : Int32 → WSX12 → Prop}  : ∀ (n : Nat) (σ : WSX12) (x1 : Int32) (x2 : Int32), wp_X12_load_21  post n σ x1 x2 → AW G MX12_load d 0 0 25 (aw_pi (wX12 G) post) 21 [(0, .ref 0), (1, .int x1), (2, .int x2)] [] (wX12 G σ) := by
  intro n
  induction n with
  | zero => intro σ x1 x2 h; exact h.elim
  | succ n ih =>
    intro σ x1 x2 h
    have hrec_21 : ∀ a : WSX12 × Int32 × Int32, aw_loop (fun r (a : WSX12 × Int32 × Int32) => wb_X12_load_21  post r a.1 a.2.1 a.2.2) n a → AW G MX12_load d 0 0 25 (aw_pi (wX12 G) post) 21 [(0, .ref 0), (1, .int a.2.1), (2, .int a.2.2)] [] (wX12 G a.1) := fun a h => ih a.1 a.2.1 a.2.2 h
    have h : wb_X12_load_21  post (aw_loop (fun r (a : WSX12 × Int32 × Int32) => wb_X12_load_21  post r a.1 a.2.1 a.2.2) n) σ x1 x2 := h
    unfold wb_X12_load_21 at h
    refine aw_iload_n 2 dX12_load_21 rfl rfl ?_
    refine aw_iload_n 1 dX12_load_22 rfl rfl ?_
    refine aw_icmp_ge 44 dX12_load_23 (by decide) (fun c16 => ?_) (fun c16 => ?_)
    · have h := h.1 c16
      refine aw_aload_n 0 dX12_load_44 rfl rfl ?_
      refine aw_iconst (v := (0 : Int32)) dX12_load_45 (by decide) ?_
      refine aw_putf fX12_90 0 (w' := (wX12 G (((((σ.1.1.1.1.1, ((0 : Int32), σ.1.1.1.1.2.2)), σ.1.1.1.2), σ.1.1.2), σ.1.2), σ.2))) rfl (fun _ => ⟨rfl, rfl⟩) (Nat.le_of_ble_eq_true rfl) rfl dX12_load_46 ?_
      refine aw_aload_n 0 dX12_load_49 rfl rfl ?_
      refine aw_iconst (v := (0 : Int32)) dX12_load_50 (by decide) ?_
      refine aw_putf fX12_239 0 (w' := (wX12 G (((((σ.1.1.1.1.1, ((0 : Int32), σ.1.1.1.1.2.2)), σ.1.1.1.2), σ.1.1.2), σ.1.2), ((((σ.2.1.1.1.1, (σ.2.1.1.1.2.1, (0 : Int32))), σ.2.1.1.2), σ.2.1.2), σ.2.2)))) rfl (fun _ => ⟨rfl, rfl⟩) (Nat.le_of_ble_eq_true rfl) rfl dX12_load_51 ?_
      refine aw_aload_n 0 dX12_load_54 rfl rfl ?_
      refine aw_iconst (v := (0 : Int32)) dX12_load_55 (by decide) ?_
      refine aw_putf fX12_242 0 (w' := (wX12 G (((((σ.1.1.1.1.1, ((0 : Int32), σ.1.1.1.1.2.2)), σ.1.1.1.2), σ.1.1.2), σ.1.2), ((((σ.2.1.1.1.1, (σ.2.1.1.1.2.1, (0 : Int32))), σ.2.1.1.2), ((σ.2.1.2.1.1, ((0 : Int32), σ.2.1.2.1.2.2)), σ.2.1.2.2)), σ.2.2)))) rfl (fun _ => ⟨rfl, rfl⟩) (Nat.le_of_ble_eq_true rfl) rfl dX12_load_56 ?_
      refine aw_aload_n 0 dX12_load_59 rfl rfl ?_
      refine aw_iconst (v := (0 : Int32)) dX12_load_60 (by decide) ?_
      refine aw_putf fX12_158 0 (w' := (wX12 G (((((σ.1.1.1.1.1, ((0 : Int32), σ.1.1.1.1.2.2)), σ.1.1.1.2), ((σ.1.1.2.1.1, (σ.1.1.2.1.2.1, (0 : Int32))), σ.1.1.2.2)), σ.1.2), ((((σ.2.1.1.1.1, (σ.2.1.1.1.2.1, (0 : Int32))), σ.2.1.1.2), ((σ.2.1.2.1.1, ((0 : Int32), σ.2.1.2.1.2.2)), σ.2.1.2.2)), σ.2.2)))) rfl (fun _ => ⟨rfl, rfl⟩) (Nat.le_of_ble_eq_true rfl) rfl dX12_load_61 ?_
      refine aw_aload_n 0 dX12_load_64 rfl rfl ?_
      refine aw_iconst (v := (0 : Int32)) dX12_load_65 (by decide) ?_
      refine aw_putf fX12_195 0 (w' := (wX12 G (((((σ.1.1.1.1.1, ((0 : Int32), σ.1.1.1.1.2.2)), σ.1.1.1.2), ((σ.1.1.2.1.1, (σ.1.1.2.1.2.1, (0 : Int32))), σ.1.1.2.2)), ((σ.1.2.1.1, ((0 : Int32), σ.1.2.1.2.2)), σ.1.2.2)), ((((σ.2.1.1.1.1, (σ.2.1.1.1.2.1, (0 : Int32))), σ.2.1.1.2), ((σ.2.1.2.1.1, ((0 : Int32), σ.2.1.2.1.2.2)), σ.2.1.2.2)), σ.2.2)))) rfl (fun _ => ⟨rfl, rfl⟩) (Nat.le_of_ble_eq_true rfl) rfl dX12_load_66 ?_
      refine aw_aload_n 0 dX12_load_69 rfl rfl ?_
      refine aw_iconst (v := (0 : Int32)) dX12_load_70 (by decide) ?_
      refine aw_putf fX12_207 0 (w' := (wX12 G (((((σ.1.1.1.1.1, ((0 : Int32), σ.1.1.1.1.2.2)), σ.1.1.1.2), ((σ.1.1.2.1.1, (σ.1.1.2.1.2.1, (0 : Int32))), σ.1.1.2.2)), ((σ.1.2.1.1, ((0 : Int32), σ.1.2.1.2.2)), (σ.1.2.2.1, (((0 : Int32), σ.1.2.2.2.1.2), σ.1.2.2.2.2)))), ((((σ.2.1.1.1.1, (σ.2.1.1.1.2.1, (0 : Int32))), σ.2.1.1.2), ((σ.2.1.2.1.1, ((0 : Int32), σ.2.1.2.1.2.2)), σ.2.1.2.2)), σ.2.2)))) rfl (fun _ => ⟨rfl, rfl⟩) (Nat.le_of_ble_eq_true rfl) rfl dX12_load_71 ?_
      refine aw_aload_n 0 dX12_load_74 rfl rfl ?_
      refine aw_iconst (v := (0 : Int32)) dX12_load_75 (by decide) ?_
      refine aw_putf fX12_210 0 (w' := (wX12 G (((((σ.1.1.1.1.1, ((0 : Int32), σ.1.1.1.1.2.2)), σ.1.1.1.2), ((σ.1.1.2.1.1, (σ.1.1.2.1.2.1, (0 : Int32))), σ.1.1.2.2)), ((σ.1.2.1.1, ((0 : Int32), σ.1.2.1.2.2)), (σ.1.2.2.1, (((0 : Int32), (0 : Int32)), σ.1.2.2.2.2)))), ((((σ.2.1.1.1.1, (σ.2.1.1.1.2.1, (0 : Int32))), σ.2.1.1.2), ((σ.2.1.2.1.1, ((0 : Int32), σ.2.1.2.1.2.2)), σ.2.1.2.2)), σ.2.2)))) rfl (fun _ => ⟨rfl, rfl⟩) (Nat.le_of_ble_eq_true rfl) rfl dX12_load_76 ?_
      refine aw_aload_n 0 dX12_load_79 rfl rfl ?_
      refine aw_iconst (v := (0 : Int32)) dX12_load_80 (by decide) ?_
      refine aw_putf fX12_213 0 (w' := (wX12 G (((((σ.1.1.1.1.1, ((0 : Int32), σ.1.1.1.1.2.2)), σ.1.1.1.2), ((σ.1.1.2.1.1, (σ.1.1.2.1.2.1, (0 : Int32))), σ.1.1.2.2)), ((σ.1.2.1.1, ((0 : Int32), σ.1.2.1.2.2)), (σ.1.2.2.1, (((0 : Int32), (0 : Int32)), ((0 : Int32), σ.1.2.2.2.2.2))))), ((((σ.2.1.1.1.1, (σ.2.1.1.1.2.1, (0 : Int32))), σ.2.1.1.2), ((σ.2.1.2.1.1, ((0 : Int32), σ.2.1.2.1.2.2)), σ.2.1.2.2)), σ.2.2)))) rfl (fun _ => ⟨rfl, rfl⟩) (Nat.le_of_ble_eq_true rfl) rfl dX12_load_81 ?_
      refine aw_aload_n 0 dX12_load_84 rfl rfl ?_
      refine aw_iconst (v := (0 : Int32)) dX12_load_85 (by decide) ?_
      refine aw_putf fX12_189 0 (w' := (wX12 G (((((σ.1.1.1.1.1, ((0 : Int32), σ.1.1.1.1.2.2)), σ.1.1.1.2), ((σ.1.1.2.1.1, (σ.1.1.2.1.2.1, (0 : Int32))), σ.1.1.2.2)), ((σ.1.2.1.1, ((0 : Int32), σ.1.2.1.2.2)), (σ.1.2.2.1, (((0 : Int32), (0 : Int32)), ((0 : Int32), σ.1.2.2.2.2.2))))), ((((σ.2.1.1.1.1, (σ.2.1.1.1.2.1, (0 : Int32))), σ.2.1.1.2), (((0 : Int32), ((0 : Int32), σ.2.1.2.1.2.2)), σ.2.1.2.2)), σ.2.2)))) rfl (fun _ => ⟨rfl, rfl⟩) (Nat.le_of_ble_eq_true rfl) rfl dX12_load_86 ?_
      refine aw_aload_n 0 dX12_load_89 rfl rfl ?_
      refine aw_callVT (mc1 := 0) (ms1 := 0) (mc := 0) (ms := 0) (st := []) (q := 0) (As := []) lX12_245 insX12_cut selX12_cut ⟨TX12, 50, rfl⟩ (by omega) (kX12_cut (d := 7) (by omega) h) (Nat.le_of_ble_eq_true rfl) rfl rfl rfl dX12_load_90 rfl (fun _ _ hh => ?_)
      obtain ⟨τ2, rfl, rfl, h⟩ := hh
      refine aw_stk (st' := []) rfl ?_
      refine aw_aload_n 0 dX12_load_93 rfl rfl ?_
      refine aw_aload_n 0 dX12_load_94 rfl rfl ?_
      refine aw_callVT (mc1 := 0) (ms1 := 0) (mc := 0) (ms := 0) (st := [.ref 0]) (q := 0) (As := []) lX12_248 insX12_program selX12_program ⟨TX12, 50, rfl⟩ (by omega) (kX12_program (d := 402) (by omega) h) (Nat.le_of_ble_eq_true rfl) rfl rfl rfl dX12_load_95 rfl (fun _ _ hh => ?_)
      obtain ⟨r3, τ4, rfl, rfl, h⟩ := hh
      refine aw_stk (st' := [.int r3, .ref 0]) rfl ?_
      refine aw_putf fX12_251 0 (w' := (wX12 G (τ4.1, ((((τ4.2.1.1.1.1, (r3, τ4.2.1.1.1.2.2)), τ4.2.1.1.2), τ4.2.1.2), τ4.2.2)))) rfl (fun _ => ⟨rfl, rfl⟩) (Nat.le_of_ble_eq_true rfl) rfl dX12_load_98 ?_
      refine aw_aload_n 0 dX12_load_101 rfl rfl ?_
      refine aw_getf (v := .int τ4.1.1.2.1.2.1) fX12_154 0 rfl rfl dX12_load_102 ?_
      refine aw_if_eq 129 dX12_load_105 (by decide) (fun c14 => ?_) (fun c14 => ?_)
      · have h := h.1 c14
        refine aw_aload_n 0 dX12_load_129 rfl rfl ?_
        refine aw_aload_n 0 dX12_load_130 rfl rfl ?_
        refine aw_getf (v := .int r3) fX12_251 0 rfl rfl dX12_load_131 ?_
        refine aw_iconst (v := (0 : Int32)) dX12_load_134 (by decide) ?_
        obtain ⟨n7, hn7, h⟩ := h
        refine aw_callVT (mc1 := 0) (ms1 := 0) (mc := 0) (ms := 0) (st := []) (q := 0) (As := [.int r3, .int (0 : Int32)]) lX12_236 insX12_checkAll selX12_checkAll ⟨TX12, 50, rfl⟩ (by omega) (kg_ca n7 0 _ [r3, (0 : Int32)] _ h) (Nat.le_of_ble_eq_true rfl) rfl rfl rfl dX12_load_135 rfl (fun _ _ hh => ?_)
        obtain ⟨τ6, rfl, rfl, h⟩ := hh
        refine aw_stk (st' := []) rfl ?_
        refine aw_aload_n 0 dX12_load_138 rfl rfl ?_
        refine aw_getf (v := .int τ6.2.1.2.1.1) fX12_189 0 rfl rfl dX12_load_139 ?_
        refine aw_if_eq 169 dX12_load_142 (by decide) (fun c12 => ?_) (fun c12 => ?_)
        · have h := h.1 c12
          refine aw_aload_n 0 dX12_load_169 rfl rfl ?_
          refine aw_iconst (v := ((-1) : Int32)) dX12_load_170 (by decide) ?_
          refine aw_putf fX12_62 0 (w' := (wX12 G (τ6.1, (((τ6.2.1.1.1, (((-1) : Int32), τ6.2.1.1.2.2)), τ6.2.1.2), τ6.2.2)))) rfl (fun _ => ⟨rfl, rfl⟩) (Nat.le_of_ble_eq_true rfl) rfl dX12_load_171 ?_
          refine aw_aload_n 0 dX12_load_174 rfl rfl ?_
          refine aw_iconst (v := ((-1) : Int32)) dX12_load_175 (by decide) ?_
          refine aw_putf fX12_66 0 (w' := (wX12 G (τ6.1, (((τ6.2.1.1.1, (((-1) : Int32), (((-1) : Int32), τ6.2.1.1.2.2.2))), τ6.2.1.2), τ6.2.2)))) rfl (fun _ => ⟨rfl, rfl⟩) (Nat.le_of_ble_eq_true rfl) rfl dX12_load_176 ?_
          refine aw_aload_n 0 dX12_load_179 rfl rfl ?_
          refine aw_iconst (v := (1 : Int32)) dX12_load_180 (by decide) ?_
          refine aw_putf fX12_239 0 (w' := (wX12 G (τ6.1, ((((τ6.2.1.1.1.1, (τ6.2.1.1.1.2.1, (1 : Int32))), (((-1) : Int32), (((-1) : Int32), τ6.2.1.1.2.2.2))), τ6.2.1.2), τ6.2.2)))) rfl (fun _ => ⟨rfl, rfl⟩) (Nat.le_of_ble_eq_true rfl) rfl dX12_load_181 ?_
          refine aw_iconst (v := (0 : Int32)) dX12_load_184 (by decide) ?_
          refine aw_istore_n (lv' := [(2, .int (0 : Int32)), (0, .ref 0), (1, .int x1)]) dX12_load_185 rfl (by decide) rfl ?_
          refine aw_lvsub (lv' := [(0, .ref 0), (2, .int (0 : Int32))]) [1, 0] rfl ?_
          obtain ⟨n10, h⟩ := h
          exact aw_X12_load_186 hd  n10 (τ6.1, ((((τ6.2.1.1.1.1, (τ6.2.1.1.1.2.1, (1 : Int32))), (((-1) : Int32), (((-1) : Int32), τ6.2.1.1.2.2.2))), τ6.2.1.2), τ6.2.2)) (0 : Int32) h
        · have h := h.2 c12
          refine aw_aload_n 0 dX12_load_145 rfl rfl ?_
          refine aw_aload_n 0 dX12_load_146 rfl rfl ?_
          refine aw_getf (v := .ref 3) fX12_16 0 rfl rfl dX12_load_147 ?_
          refine aw_aload_n 0 dX12_load_150 rfl rfl ?_
          refine aw_getf (v := .int τ6.2.1.1.2.2.2) fX12_192 0 rfl rfl dX12_load_151 ?_
          refine aw_iald 3 (n := 3002) (f := τ6.1.1.1.2.2.1) rfl h.1 dX12_load_154 ?_
          have h := h.2
          refine aw_topi (fun y11 ey11 => ?_)
          have h := h y11 ey11
          refine aw_putf fX12_62 0 (w' := (wX12 G (τ6.1, (((τ6.2.1.1.1, (y11, τ6.2.1.1.2.2)), τ6.2.1.2), τ6.2.2)))) rfl (fun _ => ⟨rfl, rfl⟩) (Nat.le_of_ble_eq_true rfl) rfl dX12_load_155 ?_
          refine aw_aload_n 0 dX12_load_158 rfl rfl ?_
          refine aw_aload_n 0 dX12_load_159 rfl rfl ?_
          refine aw_getf (v := .int τ6.2.1.2.1.1) fX12_189 0 rfl rfl dX12_load_160 ?_
          refine aw_putf fX12_66 0 (w' := (wX12 G (τ6.1, (((τ6.2.1.1.1, (y11, (τ6.2.1.2.1.1, τ6.2.1.1.2.2.2))), τ6.2.1.2), τ6.2.2)))) rfl (fun _ => ⟨rfl, rfl⟩) (Nat.le_of_ble_eq_true rfl) rfl dX12_load_163 ?_
          refine aw_bipush (v := ((-3) : Int32)) dX12_load_166 (by decide) ?_
          exact aw_iret rfl dX12_load_168 ⟨_, (τ6.1, (((τ6.2.1.1.1, (y11, (τ6.2.1.2.1.1, τ6.2.1.1.2.2.2))), τ6.2.1.2), τ6.2.2)), rfl, rfl, h⟩
      · have h := h.2 c14
        refine aw_aload_n 0 dX12_load_108 rfl rfl ?_
        refine aw_aload_n 0 dX12_load_109 rfl rfl ?_
        refine aw_getf (v := .ref 3) fX12_16 0 rfl rfl dX12_load_110 ?_
        refine aw_aload_n 0 dX12_load_113 rfl rfl ?_
        refine aw_getf (v := .int τ4.1.1.2.1.1) fX12_151 0 rfl rfl dX12_load_114 ?_
        refine aw_iald 3 (n := 3002) (f := τ4.1.1.1.2.2.1) rfl h.1 dX12_load_117 ?_
        have h := h.2
        refine aw_topi (fun y13 ey13 => ?_)
        have h := h y13 ey13
        refine aw_putf fX12_62 0 (w' := (wX12 G (τ4.1, ((((τ4.2.1.1.1.1, (r3, τ4.2.1.1.1.2.2)), (y13, τ4.2.1.1.2.2)), τ4.2.1.2), τ4.2.2)))) rfl (fun _ => ⟨rfl, rfl⟩) (Nat.le_of_ble_eq_true rfl) rfl dX12_load_118 ?_
        refine aw_aload_n 0 dX12_load_121 rfl rfl ?_
        refine aw_iconst (v := (0 : Int32)) dX12_load_122 (by decide) ?_
        refine aw_putf fX12_66 0 (w' := (wX12 G (τ4.1, ((((τ4.2.1.1.1.1, (r3, τ4.2.1.1.1.2.2)), (y13, ((0 : Int32), τ4.2.1.1.2.2.2))), τ4.2.1.2), τ4.2.2)))) rfl (fun _ => ⟨rfl, rfl⟩) (Nat.le_of_ble_eq_true rfl) rfl dX12_load_123 ?_
        refine aw_bipush (v := ((-2) : Int32)) dX12_load_126 (by decide) ?_
        exact aw_iret rfl dX12_load_128 ⟨_, (τ4.1, ((((τ4.2.1.1.1.1, (r3, τ4.2.1.1.1.2.2)), (y13, ((0 : Int32), τ4.2.1.1.2.2.2))), τ4.2.1.2), τ4.2.2)), rfl, rfl, h⟩
    · have h := h.2 c16
      refine aw_aload_n 0 dX12_load_26 rfl rfl ?_
      refine aw_getf (v := .ref 20) fX12_75 0 rfl rfl dX12_load_27 ?_
      refine aw_iload_n 2 dX12_load_30 rfl rfl ?_
      refine aw_aload_n 0 dX12_load_31 rfl rfl ?_
      refine aw_getf (v := .ref 1) fX12_7 0 rfl rfl dX12_load_32 ?_
      refine aw_iload_n 2 dX12_load_35 rfl rfl ?_
      refine aw_iald 1 (n := 3000) (f := σ.1.1.1.1.1) rfl h.1 dX12_load_36 ?_
      have h := h.2
      refine aw_iast 20 (n := 3000) (f := σ.2.2.1.2.1) (w' := fun y15 => (wX12 G (σ.1, (σ.2.1, ((σ.2.2.1.1, (y15, σ.2.2.1.2.2)), σ.2.2.2))))) rfl h.1 (fun _ => rfl) dX12_load_37 (fun y15 ey15 => ?_)
      have h := h.2 y15 ey15
      refine aw_iinc 2 (v := (x2 + 1)) (lv' := [(2, .int (x2 + 1)), (0, .ref 0), (1, .int x1)]) dX12_load_38 rfl rfl (by decide) rfl ?_
      refine aw_goto 21 dX12_load_41 (by decide) ?_
      refine aw_lvsub (lv' := [(0, .ref 0), (1, .int x1), (2, .int (x2 + 1))]) [1, 2, 0] rfl ?_
      exact hrec_21 ((σ.1, (σ.2.1, ((σ.2.2.1.1, (y15, σ.2.2.1.2.2)), σ.2.2.2))), x1, (x2 + 1)) h
def wp_X12_load (σ : WSX12) (a1 : Int32) (post : Int32 → WSX12 → Prop) : Prop :=
  ((a1 < 0 → post ((-1) : Int32) σ) ∧ (¬ a1 < 0 → ((a1 ≤ σ.1.1.1.1.2.1 → (∃ n17, wp_X12_load_21  post n17 (((((σ.1.1.1.1.1, (σ.1.1.1.1.2.1, a1)), σ.1.1.1.2), σ.1.1.2), σ.1.2), σ.2) a1 (0 : Int32))) ∧ (¬ a1 ≤ σ.1.1.1.1.2.1 → post ((-1) : Int32) σ))))
theorem kX12_load {G : aw_G} {d : Nat} (hd : 805 ≤ d) {σ : WSX12} {a1 : Int32} {post : Int32 → WSX12 → Prop} (h : wp_X12_load σ a1 post) : AC G MX12_load d 0 0 25 [.ref 0, .int a1] (wX12 G σ) (aw_pi (wX12 G) post) := by
  refine AC.of (lv := [(0, .ref 0), (1, .int a1)]) (by decide) (Nat.le_of_ble_eq_true rfl) rfl ?_
  unfold wp_X12_load at h
  refine aw_iload_n 1 dX12_load_0 rfl rfl ?_
  refine aw_if_lt 12 dX12_load_1 (by decide) (fun c19 => ?_) (fun c19 => ?_)
  · have h := h.1 c19
    refine aw_iconst (v := ((-1) : Int32)) dX12_load_12 (by decide) ?_
    exact aw_iret rfl dX12_load_13 ⟨_, σ, rfl, rfl, h⟩
  · have h := h.2 c19
    refine aw_iload_n 1 dX12_load_4 rfl rfl ?_
    refine aw_aload_n 0 dX12_load_5 rfl rfl ?_
    refine aw_getf (v := .int σ.1.1.1.1.2.1) fX12_90 0 rfl rfl dX12_load_6 ?_
    refine aw_icmp_le 14 dX12_load_9 (by decide) (fun c18 => ?_) (fun c18 => ?_)
    · have h := h.1 c18
      refine aw_aload_n 0 dX12_load_14 rfl rfl ?_
      refine aw_iload_n 1 dX12_load_15 rfl rfl ?_
      refine aw_putf fX12_93 0 (w' := (wX12 G (((((σ.1.1.1.1.1, (σ.1.1.1.1.2.1, a1)), σ.1.1.1.2), σ.1.1.2), σ.1.2), σ.2))) rfl (fun _ => ⟨rfl, rfl⟩) (Nat.le_of_ble_eq_true rfl) rfl dX12_load_16 ?_
      refine aw_iconst (v := (0 : Int32)) dX12_load_19 (by decide) ?_
      refine aw_istore_n (lv' := [(2, .int (0 : Int32)), (0, .ref 0), (1, .int a1)]) dX12_load_20 rfl (by decide) rfl ?_
      refine aw_lvsub (lv' := [(0, .ref 0), (1, .int a1), (2, .int (0 : Int32))]) [1, 2, 0] rfl ?_
      obtain ⟨n17, h⟩ := h
      exact aw_X12_load_21 hd  n17 (((((σ.1.1.1.1.1, (σ.1.1.1.1.2.1, a1)), σ.1.1.1.2), σ.1.1.2), σ.1.2), σ.2) a1 (0 : Int32) h
    · have h := h.2 c18
      refine aw_iconst (v := ((-1) : Int32)) dX12_load_12 (by decide) ?_
      exact aw_iret rfl dX12_load_13 ⟨_, σ, rfl, rfl, h⟩
def wp_X12_told (σ : WSX12) (a1 : Int32) (post : Int32 → WSX12 → Prop) : Prop :=
  ((¬ a1 = 0 → ((¬ a1 = (1 : Int32) → post ((-1) : Int32) σ) ∧ (a1 = (1 : Int32) → post σ.2.1.1.2.2.1 σ))) ∧ (a1 = 0 → post σ.2.1.1.2.1 σ))
theorem kX12_told {G : aw_G} {d : Nat} (hd : 0 ≤ d) {σ : WSX12} {a1 : Int32} {post : Int32 → WSX12 → Prop} (h : wp_X12_told σ a1 post) : AC G MX12_told d 0 0 25 [.ref 0, .int a1] (wX12 G σ) (aw_pi (wX12 G) post) := by
  refine AC.of (lv := [(0, .ref 0), (1, .int a1)]) (by decide) (Nat.le_of_ble_eq_true rfl) rfl ?_
  unfold wp_X12_told at h
  refine aw_iload_n 1 dX12_told_0 rfl rfl ?_
  refine aw_if_ne 11 dX12_told_1 (by decide) (fun c2 => ?_) (fun c2 => ?_)
  · have h := h.1 c2
    refine aw_iload_n 1 dX12_told_11 rfl rfl ?_
    refine aw_iconst (v := (1 : Int32)) dX12_told_12 (by decide) ?_
    refine aw_icmp_ne 23 dX12_told_13 (by decide) (fun c1 => ?_) (fun c1 => ?_)
    · have h := h.1 c1
      refine aw_iconst (v := ((-1) : Int32)) dX12_told_23 (by decide) ?_
      exact aw_iret rfl dX12_told_24 ⟨_, σ, rfl, rfl, h⟩
    · have h := h.2 c1
      refine aw_aload_n 0 dX12_told_16 rfl rfl ?_
      refine aw_getf (v := .int σ.2.1.1.2.2.1) fX12_66 0 rfl rfl dX12_told_17 ?_
      refine aw_goto 24 dX12_told_20 (by decide) ?_
      exact aw_iret rfl dX12_told_24 ⟨_, σ, rfl, rfl, h⟩
  · have h := h.2 c2
    refine aw_aload_n 0 dX12_told_4 rfl rfl ?_
    refine aw_getf (v := .int σ.2.1.1.2.1) fX12_62 0 rfl rfl dX12_told_5 ?_
    refine aw_goto 24 dX12_told_8 (by decide) ?_
    exact aw_iret rfl dX12_told_24 ⟨_, σ, rfl, rfl, h⟩
def wp_X12_count (σ : WSX12) (a1 : Int32) (post : Int32 → WSX12 → Prop) : Prop :=
  ((¬ σ.2.1.1.1.2.2 = 0 → ((¬ a1 = 0 → ((¬ a1 = (1 : Int32) → ((¬ a1 = (2 : Int32) → post ((-1) : Int32) σ) ∧ (a1 = (2 : Int32) → post σ.1.2.2.2.2.1 σ))) ∧ (a1 = (1 : Int32) → post σ.1.2.2.2.1.2 σ))) ∧ (a1 = 0 → post σ.1.2.2.2.1.1 σ))) ∧ (σ.2.1.1.1.2.2 = 0 → post ((-1) : Int32) σ))
theorem kX12_count {G : aw_G} {d : Nat} (hd : 0 ≤ d) {σ : WSX12} {a1 : Int32} {post : Int32 → WSX12 → Prop} (h : wp_X12_count σ a1 post) : AC G MX12_count d 0 0 25 [.ref 0, .int a1] (wX12 G σ) (aw_pi (wX12 G) post) := by
  refine AC.of (lv := [(0, .ref 0), (1, .int a1)]) (by decide) (Nat.le_of_ble_eq_true rfl) rfl ?_
  unfold wp_X12_count at h
  refine aw_aload_n 0 dX12_count_0 rfl rfl ?_
  refine aw_getf (v := .int σ.2.1.1.1.2.2) fX12_239 0 rfl rfl dX12_count_1 ?_
  refine aw_if_ne 11 dX12_count_4 (by decide) (fun c4 => ?_) (fun c4 => ?_)
  · have h := h.1 c4
    refine aw_iload_n 1 dX12_count_11 rfl rfl ?_
    refine aw_if_ne 22 dX12_count_12 (by decide) (fun c3 => ?_) (fun c3 => ?_)
    · have h := h.1 c3
      refine aw_iload_n 1 dX12_count_22 rfl rfl ?_
      refine aw_iconst (v := (1 : Int32)) dX12_count_23 (by decide) ?_
      refine aw_icmp_ne 34 dX12_count_24 (by decide) (fun c2 => ?_) (fun c2 => ?_)
      · have h := h.1 c2
        refine aw_iload_n 1 dX12_count_34 rfl rfl ?_
        refine aw_iconst (v := (2 : Int32)) dX12_count_35 (by decide) ?_
        refine aw_icmp_ne 46 dX12_count_36 (by decide) (fun c1 => ?_) (fun c1 => ?_)
        · have h := h.1 c1
          refine aw_iconst (v := ((-1) : Int32)) dX12_count_46 (by decide) ?_
          exact aw_iret rfl dX12_count_47 ⟨_, σ, rfl, rfl, h⟩
        · have h := h.2 c1
          refine aw_aload_n 0 dX12_count_39 rfl rfl ?_
          refine aw_getf (v := .int σ.1.2.2.2.2.1) fX12_213 0 rfl rfl dX12_count_40 ?_
          refine aw_goto 47 dX12_count_43 (by decide) ?_
          exact aw_iret rfl dX12_count_47 ⟨_, σ, rfl, rfl, h⟩
      · have h := h.2 c2
        refine aw_aload_n 0 dX12_count_27 rfl rfl ?_
        refine aw_getf (v := .int σ.1.2.2.2.1.2) fX12_210 0 rfl rfl dX12_count_28 ?_
        refine aw_goto 47 dX12_count_31 (by decide) ?_
        exact aw_iret rfl dX12_count_47 ⟨_, σ, rfl, rfl, h⟩
    · have h := h.2 c3
      refine aw_aload_n 0 dX12_count_15 rfl rfl ?_
      refine aw_getf (v := .int σ.1.2.2.2.1.1) fX12_207 0 rfl rfl dX12_count_16 ?_
      refine aw_goto 47 dX12_count_19 (by decide) ?_
      exact aw_iret rfl dX12_count_47 ⟨_, σ, rfl, rfl, h⟩
  · have h := h.2 c4
    refine aw_iconst (v := ((-1) : Int32)) dX12_count_7 (by decide) ?_
    refine aw_goto 47 dX12_count_8 (by decide) ?_
    exact aw_iret rfl dX12_count_47 ⟨_, σ, rfl, rfl, h⟩
def wp_X12_input (σ : WSX12) (a1 : Int32) (a2 : Int32) (post : Int32 → WSX12 → Prop) : Prop :=
  ((σ.2.1.1.1.2.2 = 0 → post (0 : Int32) σ) ∧ (¬ σ.2.1.1.1.2.2 = 0 → ((a1 < 0 → post (0 : Int32) σ) ∧ (¬ a1 < 0 → ((a1 < σ.1.2.2.2.1.2 → (vp_in a1 200 ∧ ∀ y1 : Nat → Int32, y1 = upd σ.2.1.1.1.1 (a1).toNatClampNeg a2 → post (1 : Int32) (σ.1, ((((y1, σ.2.1.1.1.2), σ.2.1.1.2), σ.2.1.2), σ.2.2)))) ∧ (¬ a1 < σ.1.2.2.2.1.2 → post (0 : Int32) σ))))))
theorem kX12_input {G : aw_G} {d : Nat} (hd : 0 ≤ d) {σ : WSX12} {a1 : Int32} {a2 : Int32} {post : Int32 → WSX12 → Prop} (h : wp_X12_input σ a1 a2 post) : AC G MX12_input d 0 0 25 [.ref 0, .int a1, .int a2] (wX12 G σ) (aw_pi (wX12 G) post) := by
  refine AC.of (lv := [(0, .ref 0), (1, .int a1), (2, .int a2)]) (by decide) (Nat.le_of_ble_eq_true rfl) rfl ?_
  unfold wp_X12_input at h
  refine aw_aload_n 0 dX12_input_0 rfl rfl ?_
  refine aw_getf (v := .int σ.2.1.1.1.2.2) fX12_239 0 rfl rfl dX12_input_1 ?_
  refine aw_if_eq 19 dX12_input_4 (by decide) (fun c4 => ?_) (fun c4 => ?_)
  · have h := h.1 c4
    refine aw_iconst (v := (0 : Int32)) dX12_input_19 (by decide) ?_
    exact aw_zret rfl rfl dX12_input_20 ⟨_, σ, rfl, rfl, h⟩
  · have h := h.2 c4
    refine aw_iload_n 1 dX12_input_7 rfl rfl ?_
    refine aw_if_lt 19 dX12_input_8 (by decide) (fun c3 => ?_) (fun c3 => ?_)
    · have h := h.1 c3
      refine aw_iconst (v := (0 : Int32)) dX12_input_19 (by decide) ?_
      exact aw_zret rfl rfl dX12_input_20 ⟨_, σ, rfl, rfl, h⟩
    · have h := h.2 c3
      refine aw_iload_n 1 dX12_input_11 rfl rfl ?_
      refine aw_aload_n 0 dX12_input_12 rfl rfl ?_
      refine aw_getf (v := .int σ.1.2.2.2.1.2) fX12_210 0 rfl rfl dX12_input_13 ?_
      refine aw_icmp_lt 21 dX12_input_16 (by decide) (fun c2 => ?_) (fun c2 => ?_)
      · have h := h.1 c2
        refine aw_aload_n 0 dX12_input_21 rfl rfl ?_
        refine aw_getf (v := .ref 17) fX12_59 0 rfl rfl dX12_input_22 ?_
        refine aw_iload_n 1 dX12_input_25 rfl rfl ?_
        refine aw_iload_n 2 dX12_input_26 rfl rfl ?_
        refine aw_iast 17 (n := 200) (f := σ.2.1.1.1.1) (w' := fun y1 => (wX12 G (σ.1, ((((y1, σ.2.1.1.1.2), σ.2.1.1.2), σ.2.1.2), σ.2.2)))) rfl h.1 (fun _ => rfl) dX12_input_27 (fun y1 ey1 => ?_)
        have h := h.2 y1 ey1
        refine aw_iconst (v := (1 : Int32)) dX12_input_28 (by decide) ?_
        exact aw_zret rfl rfl dX12_input_29 ⟨_, (σ.1, ((((y1, σ.2.1.1.1.2), σ.2.1.1.2), σ.2.1.2), σ.2.2)), rfl, rfl, h⟩
      · have h := h.2 c2
        refine aw_iconst (v := (0 : Int32)) dX12_input_19 (by decide) ?_
        exact aw_zret rfl rfl dX12_input_20 ⟨_, σ, rfl, rfl, h⟩
def wp_X12_stop (σ : WSX12) (a1 : Int32) (a2 : Int32) (post : WSX12 → Prop) : Prop :=
  ((¬ σ.2.2.1.1.2.1 = 0 → post σ) ∧ (σ.2.2.1.1.2.1 = 0 → (vp_in a2 3002 ∧ (∀ y1 : Int32, y1 = (σ.1.1.1.2.2.1 (a2).toNatClampNeg) → post (σ.1, (σ.2.1, (((σ.2.2.1.1.1, (a1, y1)), σ.2.2.1.2), σ.2.2.2)))))))
theorem kX12_stop {G : aw_G} {d : Nat} (hd : 0 ≤ d) {σ : WSX12} {a1 : Int32} {a2 : Int32} {post : WSX12 → Prop} (h : wp_X12_stop σ a1 a2 post) : AC G MX12_stop d 0 0 25 [.ref 0, .int a1, .int a2] (wX12 G σ) (aw_pv (wX12 G) post) := by
  refine AC.of (lv := [(0, .ref 0), (1, .int a1), (2, .int a2)]) (by decide) (Nat.le_of_ble_eq_true rfl) rfl ?_
  unfold wp_X12_stop at h
  refine aw_aload_n 0 dX12_stop_0 rfl rfl ?_
  refine aw_getf (v := .int σ.2.2.1.1.2.1) fX12_254 0 rfl rfl dX12_stop_1 ?_
  refine aw_if_ne 22 dX12_stop_4 (by decide) (fun c2 => ?_) (fun c2 => ?_)
  · have h := h.1 c2
    exact aw_vret rfl dX12_stop_22 ⟨σ, rfl, rfl, h⟩
  · have h := h.2 c2
    refine aw_aload_n 0 dX12_stop_7 rfl rfl ?_
    refine aw_iload_n 1 dX12_stop_8 rfl rfl ?_
    refine aw_putf fX12_254 0 (w' := (wX12 G (σ.1, (σ.2.1, (((σ.2.2.1.1.1, (a1, σ.2.2.1.1.2.2)), σ.2.2.1.2), σ.2.2.2))))) rfl (fun _ => ⟨rfl, rfl⟩) (Nat.le_of_ble_eq_true rfl) rfl dX12_stop_9 ?_
    refine aw_aload_n 0 dX12_stop_12 rfl rfl ?_
    refine aw_aload_n 0 dX12_stop_13 rfl rfl ?_
    refine aw_getf (v := .ref 3) fX12_16 0 rfl rfl dX12_stop_14 ?_
    refine aw_iload_n 2 dX12_stop_17 rfl rfl ?_
    refine aw_iald 3 (n := 3002) (f := σ.1.1.1.2.2.1) rfl h.1 dX12_stop_18 ?_
    have h := h.2
    refine aw_topi (fun y1 ey1 => ?_)
    have h := h y1 ey1
    refine aw_putf fX12_257 0 (w' := (wX12 G (σ.1, (σ.2.1, (((σ.2.2.1.1.1, (a1, y1)), σ.2.2.1.2), σ.2.2.2))))) rfl (fun _ => ⟨rfl, rfl⟩) (Nat.le_of_ble_eq_true rfl) rfl dX12_stop_19 ?_
    exact aw_vret rfl dX12_stop_22 ⟨(σ.1, (σ.2.1, (((σ.2.2.1.1.1, (a1, y1)), σ.2.2.1.2), σ.2.2.2))), rfl, rfl, h⟩
def wp_X12_quotient (σ : WSX12) (a1 : Int32) (a2 : Int32) (post : Int32 → WSX12 → Prop) : Prop :=
  ((¬ a2 = 0 → (¬ a2 = 0 ∧ post (a1 / a2) σ)) ∧ (a2 = 0 → post ((-1) : Int32) σ))
theorem kX12_quotient {G : aw_G} {d : Nat} (hd : 0 ≤ d) {σ : WSX12} {a1 : Int32} {a2 : Int32} {post : Int32 → WSX12 → Prop} (h : wp_X12_quotient σ a1 a2 post) : AC G MX12_quotient d 0 0 25 [.ref 0, .int a1, .int a2] (wX12 G σ) (aw_pi (wX12 G) post) := by
  refine AC.of (lv := [(0, .ref 0), (1, .int a1), (2, .int a2)]) (by decide) (Nat.le_of_ble_eq_true rfl) rfl ?_
  unfold wp_X12_quotient at h
  refine aw_iload_n 2 dX12_quotient_0 rfl rfl ?_
  refine aw_if_ne 8 dX12_quotient_1 (by decide) (fun c1 => ?_) (fun c1 => ?_)
  · have h := h.1 c1
    refine aw_iload_n 1 dX12_quotient_8 rfl rfl ?_
    refine aw_iload_n 2 dX12_quotient_9 rfl rfl ?_
    refine aw_idiv dX12_quotient_10 h.1 ?_
    have h := h.2
    exact aw_iret rfl dX12_quotient_11 ⟨_, σ, rfl, rfl, h⟩
  · have h := h.2 c1
    refine aw_iconst (v := ((-1) : Int32)) dX12_quotient_4 (by decide) ?_
    refine aw_goto 11 dX12_quotient_5 (by decide) ?_
    exact aw_iret rfl dX12_quotient_11 ⟨_, σ, rfl, rfl, h⟩
def wp_X12_rest (σ : WSX12) (a1 : Int32) (a2 : Int32) (post : Int32 → WSX12 → Prop) : Prop :=
  ((¬ a2 = 0 → (¬ a2 = 0 ∧ post (a1 - a1 / a2 * a2) σ)) ∧ (a2 = 0 → post a1 σ))
theorem kX12_rest {G : aw_G} {d : Nat} (hd : 0 ≤ d) {σ : WSX12} {a1 : Int32} {a2 : Int32} {post : Int32 → WSX12 → Prop} (h : wp_X12_rest σ a1 a2 post) : AC G MX12_rest d 0 0 25 [.ref 0, .int a1, .int a2] (wX12 G σ) (aw_pi (wX12 G) post) := by
  refine AC.of (lv := [(0, .ref 0), (1, .int a1), (2, .int a2)]) (by decide) (Nat.le_of_ble_eq_true rfl) rfl ?_
  unfold wp_X12_rest at h
  refine aw_iload_n 2 dX12_rest_0 rfl rfl ?_
  refine aw_if_ne 8 dX12_rest_1 (by decide) (fun c1 => ?_) (fun c1 => ?_)
  · have h := h.1 c1
    refine aw_iload_n 1 dX12_rest_8 rfl rfl ?_
    refine aw_iload_n 2 dX12_rest_9 rfl rfl ?_
    refine aw_irem dX12_rest_10 h.1 ?_
    have h := h.2
    exact aw_iret rfl dX12_rest_11 ⟨_, σ, rfl, rfl, h⟩
  · have h := h.2 c1
    refine aw_iload_n 1 dX12_rest_4 rfl rfl ?_
    refine aw_goto 11 dX12_rest_5 (by decide) ?_
    exact aw_iret rfl dX12_rest_11 ⟨_, σ, rfl, rfl, h⟩
def wp_X12_two (σ : WSX12) (a1 : Int32) (a2 : Int32) (a3 : Int32) (post : Int32 → WSX12 → Prop) : Prop :=
  ((a1 = (38 : Int32) → post (a2 &&& a3) σ) ∧ (¬ a1 = (38 : Int32) → ((a1 = (42 : Int32) → post (a2 * a3) σ) ∧ (¬ a1 = (42 : Int32) → ((a1 = (43 : Int32) → post (a2 + a3) σ) ∧ (¬ a1 = (43 : Int32) → ((a1 = (45 : Int32) → post (a2 - a3) σ) ∧ (¬ a1 = (45 : Int32) → ((a1 = (47 : Int32) → wp_X12_quotient σ a2 a3 (fun r6 τ7 => post r6 τ7)) ∧ (¬ a1 = (47 : Int32) → ((a1 = (60 : Int32) → ((a3 ≤ a2 → post (0 : Int32) σ) ∧ (¬ a3 ≤ a2 → post (1 : Int32) σ))) ∧ (¬ a1 = (60 : Int32) → ((a1 = (94 : Int32) → post (a2 ^^^ a3) σ) ∧ (¬ a1 = (94 : Int32) → ((a1 = (124 : Int32) → post (a2 ||| a3) σ) ∧ (¬ a1 = (124 : Int32) → ((a1 = (200 : Int32) → ((a3 < a2 → post (0 : Int32) σ) ∧ (¬ a3 < a2 → post (1 : Int32) σ))) ∧ (¬ a1 = (200 : Int32) → ((a1 = (201 : Int32) → ((¬ a2 = a3 → post (0 : Int32) σ) ∧ (a2 = a3 → post (1 : Int32) σ))) ∧ (¬ a1 = (201 : Int32) → ((a1 = (202 : Int32) → post (a2 <<< ((a3 &&& (31 : Int32)) &&& 31)) σ) ∧ (¬ a1 = (202 : Int32) → ((a1 = (203 : Int32) → post (a2 >>> ((a3 &&& (31 : Int32)) &&& 31)) σ) ∧ (¬ a1 = (203 : Int32) → wp_X12_rest σ a2 a3 (fun r18 τ19 => post r18 τ19)))))))))))))))))))))))))
theorem kX12_two {G : aw_G} {d : Nat} (hd : 1 ≤ d) {σ : WSX12} {a1 : Int32} {a2 : Int32} {a3 : Int32} {post : Int32 → WSX12 → Prop} (h : wp_X12_two σ a1 a2 a3 post) : AC G MX12_two d 0 0 25 [.ref 0, .int a1, .int a2, .int a3] (wX12 G σ) (aw_pi (wX12 G) post) := by
  refine AC.of (lv := [(0, .ref 0), (1, .int a1), (2, .int a2), (3, .int a3)]) (by decide) (Nat.le_of_ble_eq_true rfl) rfl ?_
  unfold wp_X12_two at h
  refine aw_iload_n 1 dX12_two_0 rfl rfl ?_
  by_cases c1 : a1 = (38 : Int32)
  · refine aw_lookup 116 (off := 115) dX12_two_1 (by decide) (aw_swh (a := 38) c1 rfl) (by decide) ?_
    have h := h.1 c1
    refine aw_iload_n 2 dX12_two_116 rfl rfl ?_
    refine aw_iload_n 3 dX12_two_117 rfl rfl ?_
    refine aw_iand dX12_two_118 ?_
    exact aw_iret rfl dX12_two_119 ⟨_, σ, rfl, rfl, h⟩
  have h := h.2 c1
  by_cases c2 : a1 = (42 : Int32)
  · refine aw_lookup 175 (off := 174) dX12_two_1 (by decide) ((lv_osw (a := 38) c1 rfl).trans (aw_swh (a := 42) c2 rfl)) (by decide) ?_
    have h := h.1 c2
    refine aw_iload_n 2 dX12_two_175 rfl rfl ?_
    refine aw_iload_n 3 dX12_two_176 rfl rfl ?_
    refine aw_imul dX12_two_177 ?_
    exact aw_iret rfl dX12_two_178 ⟨_, σ, rfl, rfl, h⟩
  have h := h.2 c2
  by_cases c3 : a1 = (43 : Int32)
  · refine aw_lookup 167 (off := 166) dX12_two_1 (by decide) ((lv_osw (a := 38) c1 rfl).trans ((lv_osw (a := 42) c2 rfl).trans (aw_swh (a := 43) c3 rfl))) (by decide) ?_
    have h := h.1 c3
    refine aw_iload_n 2 dX12_two_167 rfl rfl ?_
    refine aw_iload_n 3 dX12_two_168 rfl rfl ?_
    refine aw_iadd dX12_two_169 ?_
    exact aw_iret rfl dX12_two_170 ⟨_, σ, rfl, rfl, h⟩
  have h := h.2 c3
  by_cases c4 : a1 = (45 : Int32)
  · refine aw_lookup 171 (off := 170) dX12_two_1 (by decide) ((lv_osw (a := 38) c1 rfl).trans ((lv_osw (a := 42) c2 rfl).trans ((lv_osw (a := 43) c3 rfl).trans (aw_swh (a := 45) c4 rfl)))) (by decide) ?_
    have h := h.1 c4
    refine aw_iload_n 2 dX12_two_171 rfl rfl ?_
    refine aw_iload_n 3 dX12_two_172 rfl rfl ?_
    refine aw_isub dX12_two_173 ?_
    exact aw_iret rfl dX12_two_174 ⟨_, σ, rfl, rfl, h⟩
  have h := h.2 c4
  by_cases c5 : a1 = (47 : Int32)
  · refine aw_lookup 179 (off := 178) dX12_two_1 (by decide) ((lv_osw (a := 38) c1 rfl).trans ((lv_osw (a := 42) c2 rfl).trans ((lv_osw (a := 43) c3 rfl).trans ((lv_osw (a := 45) c4 rfl).trans (aw_swh (a := 47) c5 rfl))))) (by decide) ?_
    have h := h.1 c5
    refine aw_aload_n 0 dX12_two_179 rfl rfl ?_
    refine aw_iload_n 2 dX12_two_180 rfl rfl ?_
    refine aw_iload_n 3 dX12_two_181 rfl rfl ?_
    refine aw_callVT (mc1 := 0) (ms1 := 0) (mc := 0) (ms := 0) (st := []) (q := 0) (As := [.int a2, .int a3]) lX12_260 insX12_quotient selX12_quotient ⟨TX12, 50, rfl⟩ (by omega) (kX12_quotient (d := 0) (by omega) h) (Nat.le_of_ble_eq_true rfl) rfl rfl rfl dX12_two_182 rfl (fun _ _ hh => ?_)
    obtain ⟨r6, τ7, rfl, rfl, h⟩ := hh
    refine aw_stk (st' := [.int r6]) rfl ?_
    exact aw_iret rfl dX12_two_185 ⟨_, τ7, rfl, rfl, h⟩
  have h := h.2 c5
  by_cases c8 : a1 = (60 : Int32)
  · refine aw_lookup 131 (off := 130) dX12_two_1 (by decide) ((lv_osw (a := 38) c1 rfl).trans ((lv_osw (a := 42) c2 rfl).trans ((lv_osw (a := 43) c3 rfl).trans ((lv_osw (a := 45) c4 rfl).trans ((lv_osw (a := 47) c5 rfl).trans (aw_swh (a := 60) c8 rfl)))))) (by decide) ?_
    have h := h.1 c8
    refine aw_iload_n 2 dX12_two_131 rfl rfl ?_
    refine aw_iload_n 3 dX12_two_132 rfl rfl ?_
    refine aw_icmp_ge 140 dX12_two_133 (by decide) (fun c9 => ?_) (fun c9 => ?_)
    · have h := h.1 c9
      refine aw_iconst (v := (0 : Int32)) dX12_two_140 (by decide) ?_
      exact aw_iret rfl dX12_two_141 ⟨_, σ, rfl, rfl, h⟩
    · have h := h.2 c9
      refine aw_iconst (v := (1 : Int32)) dX12_two_136 (by decide) ?_
      refine aw_goto 141 dX12_two_137 (by decide) ?_
      exact aw_iret rfl dX12_two_141 ⟨_, σ, rfl, rfl, h⟩
  have h := h.2 c8
  by_cases c10 : a1 = (94 : Int32)
  · refine aw_lookup 112 (off := 111) dX12_two_1 (by decide) ((lv_osw (a := 38) c1 rfl).trans ((lv_osw (a := 42) c2 rfl).trans ((lv_osw (a := 43) c3 rfl).trans ((lv_osw (a := 45) c4 rfl).trans ((lv_osw (a := 47) c5 rfl).trans ((lv_osw (a := 60) c8 rfl).trans (aw_swh (a := 94) c10 rfl))))))) (by decide) ?_
    have h := h.1 c10
    refine aw_iload_n 2 dX12_two_112 rfl rfl ?_
    refine aw_iload_n 3 dX12_two_113 rfl rfl ?_
    refine aw_ixor dX12_two_114 ?_
    exact aw_iret rfl dX12_two_115 ⟨_, σ, rfl, rfl, h⟩
  have h := h.2 c10
  by_cases c11 : a1 = (124 : Int32)
  · refine aw_lookup 108 (off := 107) dX12_two_1 (by decide) ((lv_osw (a := 38) c1 rfl).trans ((lv_osw (a := 42) c2 rfl).trans ((lv_osw (a := 43) c3 rfl).trans ((lv_osw (a := 45) c4 rfl).trans ((lv_osw (a := 47) c5 rfl).trans ((lv_osw (a := 60) c8 rfl).trans ((lv_osw (a := 94) c10 rfl).trans (aw_swh (a := 124) c11 rfl)))))))) (by decide) ?_
    have h := h.1 c11
    refine aw_iload_n 2 dX12_two_108 rfl rfl ?_
    refine aw_iload_n 3 dX12_two_109 rfl rfl ?_
    refine aw_ior dX12_two_110 ?_
    exact aw_iret rfl dX12_two_111 ⟨_, σ, rfl, rfl, h⟩
  have h := h.2 c11
  by_cases c12 : a1 = (200 : Int32)
  · refine aw_lookup 142 (off := 141) dX12_two_1 (by decide) ((lv_osw (a := 38) c1 rfl).trans ((lv_osw (a := 42) c2 rfl).trans ((lv_osw (a := 43) c3 rfl).trans ((lv_osw (a := 45) c4 rfl).trans ((lv_osw (a := 47) c5 rfl).trans ((lv_osw (a := 60) c8 rfl).trans ((lv_osw (a := 94) c10 rfl).trans ((lv_osw (a := 124) c11 rfl).trans (aw_swh (a := 200) c12 rfl))))))))) (by decide) ?_
    have h := h.1 c12
    refine aw_iload_n 2 dX12_two_142 rfl rfl ?_
    refine aw_iload_n 3 dX12_two_143 rfl rfl ?_
    refine aw_icmp_gt 151 dX12_two_144 (by decide) (fun c13 => ?_) (fun c13 => ?_)
    · have h := h.1 c13
      refine aw_iconst (v := (0 : Int32)) dX12_two_151 (by decide) ?_
      exact aw_iret rfl dX12_two_152 ⟨_, σ, rfl, rfl, h⟩
    · have h := h.2 c13
      refine aw_iconst (v := (1 : Int32)) dX12_two_147 (by decide) ?_
      refine aw_goto 152 dX12_two_148 (by decide) ?_
      exact aw_iret rfl dX12_two_152 ⟨_, σ, rfl, rfl, h⟩
  have h := h.2 c12
  by_cases c14 : a1 = (201 : Int32)
  · refine aw_lookup 120 (off := 119) dX12_two_1 (by decide) ((lv_osw (a := 38) c1 rfl).trans ((lv_osw (a := 42) c2 rfl).trans ((lv_osw (a := 43) c3 rfl).trans ((lv_osw (a := 45) c4 rfl).trans ((lv_osw (a := 47) c5 rfl).trans ((lv_osw (a := 60) c8 rfl).trans ((lv_osw (a := 94) c10 rfl).trans ((lv_osw (a := 124) c11 rfl).trans ((lv_osw (a := 200) c12 rfl).trans (aw_swh (a := 201) c14 rfl)))))))))) (by decide) ?_
    have h := h.1 c14
    refine aw_iload_n 2 dX12_two_120 rfl rfl ?_
    refine aw_iload_n 3 dX12_two_121 rfl rfl ?_
    refine aw_icmp_ne 129 dX12_two_122 (by decide) (fun c15 => ?_) (fun c15 => ?_)
    · have h := h.1 c15
      refine aw_iconst (v := (0 : Int32)) dX12_two_129 (by decide) ?_
      exact aw_iret rfl dX12_two_130 ⟨_, σ, rfl, rfl, h⟩
    · have h := h.2 c15
      refine aw_iconst (v := (1 : Int32)) dX12_two_125 (by decide) ?_
      refine aw_goto 130 dX12_two_126 (by decide) ?_
      exact aw_iret rfl dX12_two_130 ⟨_, σ, rfl, rfl, h⟩
  have h := h.2 c14
  by_cases c16 : a1 = (202 : Int32)
  · refine aw_lookup 153 (off := 152) dX12_two_1 (by decide) ((lv_osw (a := 38) c1 rfl).trans ((lv_osw (a := 42) c2 rfl).trans ((lv_osw (a := 43) c3 rfl).trans ((lv_osw (a := 45) c4 rfl).trans ((lv_osw (a := 47) c5 rfl).trans ((lv_osw (a := 60) c8 rfl).trans ((lv_osw (a := 94) c10 rfl).trans ((lv_osw (a := 124) c11 rfl).trans ((lv_osw (a := 200) c12 rfl).trans ((lv_osw (a := 201) c14 rfl).trans (aw_swh (a := 202) c16 rfl))))))))))) (by decide) ?_
    have h := h.1 c16
    refine aw_iload_n 2 dX12_two_153 rfl rfl ?_
    refine aw_iload_n 3 dX12_two_154 rfl rfl ?_
    refine aw_bipush (v := (31 : Int32)) dX12_two_155 (by decide) ?_
    refine aw_iand dX12_two_157 ?_
    refine aw_ishl dX12_two_158 ?_
    exact aw_iret rfl dX12_two_159 ⟨_, σ, rfl, rfl, h⟩
  have h := h.2 c16
  by_cases c17 : a1 = (203 : Int32)
  · refine aw_lookup 160 (off := 159) dX12_two_1 (by decide) ((lv_osw (a := 38) c1 rfl).trans ((lv_osw (a := 42) c2 rfl).trans ((lv_osw (a := 43) c3 rfl).trans ((lv_osw (a := 45) c4 rfl).trans ((lv_osw (a := 47) c5 rfl).trans ((lv_osw (a := 60) c8 rfl).trans ((lv_osw (a := 94) c10 rfl).trans ((lv_osw (a := 124) c11 rfl).trans ((lv_osw (a := 200) c12 rfl).trans ((lv_osw (a := 201) c14 rfl).trans ((lv_osw (a := 202) c16 rfl).trans (aw_swh (a := 203) c17 rfl)))))))))))) (by decide) ?_
    have h := h.1 c17
    refine aw_iload_n 2 dX12_two_160 rfl rfl ?_
    refine aw_iload_n 3 dX12_two_161 rfl rfl ?_
    refine aw_bipush (v := (31 : Int32)) dX12_two_162 (by decide) ?_
    refine aw_iand dX12_two_164 ?_
    refine aw_ishr dX12_two_165 ?_
    exact aw_iret rfl dX12_two_166 ⟨_, σ, rfl, rfl, h⟩
  have h := h.2 c17
  refine aw_lookup 186 (off := 185) dX12_two_1 (by decide) ((lv_osw (a := 38) c1 rfl).trans ((lv_osw (a := 42) c2 rfl).trans ((lv_osw (a := 43) c3 rfl).trans ((lv_osw (a := 45) c4 rfl).trans ((lv_osw (a := 47) c5 rfl).trans ((lv_osw (a := 60) c8 rfl).trans ((lv_osw (a := 94) c10 rfl).trans ((lv_osw (a := 124) c11 rfl).trans ((lv_osw (a := 200) c12 rfl).trans ((lv_osw (a := 201) c14 rfl).trans ((lv_osw (a := 202) c16 rfl).trans ((lv_osw (a := 203) c17 rfl).trans rfl)))))))))))) (by decide) ?_
  refine aw_aload_n 0 dX12_two_186 rfl rfl ?_
  refine aw_iload_n 2 dX12_two_187 rfl rfl ?_
  refine aw_iload_n 3 dX12_two_188 rfl rfl ?_
  refine aw_callVT (mc1 := 0) (ms1 := 0) (mc := 0) (ms := 0) (st := []) (q := 0) (As := [.int a2, .int a3]) lX12_263 insX12_rest selX12_rest ⟨TX12, 50, rfl⟩ (by omega) (kX12_rest (d := 0) (by omega) h) (Nat.le_of_ble_eq_true rfl) rfl rfl rfl dX12_two_189 rfl (fun _ _ hh => ?_)
  obtain ⟨r18, τ19, rfl, rfl, h⟩ := hh
  refine aw_stk (st' := [.int r18]) rfl ?_
  exact aw_iret rfl dX12_two_192 ⟨_, τ19, rfl, rfl, h⟩
def Mg_ev (k : Nat) : aw_M := match k with
  | 0 => MX12_eval
  | _ => MX12_evalPart
def wp_X12_eval_65 (rc : Nat → WSX12 → List Int32 → (Int32 → WSX12 → Prop) → Prop) (rec_12 : WSX12 × Int32 × Int32 × Int32 → Prop) (post : Int32 → WSX12 → Prop) (σ : WSX12) (x1 : Int32) (x2 : Int32) (s0 : Int32) : Prop :=
  rec_12 (σ, x1, x2, s0)
theorem aw_X12_eval_65 {G : aw_G} {d : Nat} (hd : 2 ≤ d) {dg : Nat} (hdg : dg + 1 ≤ d) {rc : Nat → WSX12 → List Int32 → (Int32 → WSX12 → Prop) → Prop} (hrc : ∀ (k : Nat) (σ : WSX12) (xs : List Int32) (po : Int32 → WSX12 → Prop), rc k σ xs po → AC G (Mg_ev k) dg 0 0 25 (.ref 0 :: xs.map .int) (wX12 G σ) (aw_pi (wX12 G) po)) {rec_12 : WSX12 × Int32 × Int32 × Int32 → Prop} {post : Int32 → WSX12 → Prop} (hrec_12 : ∀ a : WSX12 × Int32 × Int32 × Int32, rec_12 a → AW G MX12_eval d 0 0 25 (aw_pi (wX12 G) post) 12 [(0, .ref 0), (1, .int a.2.1), (2, .int a.2.2.1), (3, .int a.2.2.2)] [] (wX12 G a.1)) {σ : WSX12} {x1 : Int32} {x2 : Int32} {s0 : Int32} (h : wp_X12_eval_65 rc rec_12 post σ x1 x2 s0) : AW G MX12_eval d 0 0 25 (aw_pi (wX12 G) post) 65 [(0, .ref 0), (1, .int x1), (2, .int x2)] [.int s0] (wX12 G σ) := by
  unfold wp_X12_eval_65 at h
  refine aw_istore_n (lv' := [(3, .int s0), (0, .ref 0), (1, .int x1), (2, .int x2)]) dX12_eval_65 rfl (by decide) rfl ?_
  refine aw_goto 12 dX12_eval_66 (by decide) ?_
  refine aw_lvsub (lv' := [(0, .ref 0), (1, .int x1), (2, .int x2), (3, .int s0)]) [1, 2, 3, 0] rfl ?_
  exact hrec_12 (σ, x1, x2, s0) h
def wb_X12_eval_12 (rc : Nat → WSX12 → List Int32 → (Int32 → WSX12 → Prop) → Prop)  (post : Int32 → WSX12 → Prop) (rec_12 : WSX12 × Int32 × Int32 × Int32 → Prop) (σ : WSX12) (x1 : Int32) (x2 : Int32) (x3 : Int32) : Prop :=
  ((x2 = x1 → post x3 σ) ∧ (¬ x2 = x1 → (vp_in x2 9000 ∧ (∀ y5 : Int32, y5 = (σ.2.2.1.2.2.1 (x2).toNatClampNeg) → (vp_in y5 9000 ∧ (vp_in (σ.1.1.2.2.2.2 (y5).toNatClampNeg) 9000 ∧ rc 0 σ [(σ.1.2.1.1.1 ((σ.1.1.2.2.2.2 (y5).toNatClampNeg)).toNatClampNeg)] (fun r6 τ7 => ((¬ τ7.2.2.1.1.2.1 = 0 → wp_X12_eval_65 rc rec_12 post τ7 x1 y5 (0 : Int32)) ∧ (τ7.2.2.1.1.2.1 = 0 → (vp_in y5 9000 ∧ wp_X12_two τ7 (τ7.1.1.2.2.1 (y5).toNatClampNeg) x3 r6 (fun r8 τ9 => wp_X12_eval_65 rc rec_12 post τ9 x1 y5 r8)))))))))))
def wp_X12_eval_12 (rc : Nat → WSX12 → List Int32 → (Int32 → WSX12 → Prop) → Prop)  (post : Int32 → WSX12 → Prop) (n : Nat) (σ : WSX12) (x1 : Int32) (x2 : Int32) (x3 : Int32) : Prop := aw_loop (fun r (a : WSX12 × Int32 × Int32 × Int32) => wb_X12_eval_12 rc  post r a.1 a.2.1 a.2.2.1 a.2.2.2) n (σ, x1, x2, x3)
theorem aw_X12_eval_12 {G : aw_G} {d : Nat} (hd : 2 ≤ d) {dg : Nat} (hdg : dg + 1 ≤ d) {rc : Nat → WSX12 → List Int32 → (Int32 → WSX12 → Prop) → Prop} (hrc : ∀ (k : Nat) (σ : WSX12) (xs : List Int32) (po : Int32 → WSX12 → Prop), rc k σ xs po → AC G (Mg_ev k) dg 0 0 25 (.ref 0 :: xs.map .int) (wX12 G σ) (aw_pi (wX12 G) po)) {post : Int32 → WSX12 → Prop}  : ∀ (n : Nat) (σ : WSX12) (x1 : Int32) (x2 : Int32) (x3 : Int32), wp_X12_eval_12 rc  post n σ x1 x2 x3 → AW G MX12_eval d 0 0 25 (aw_pi (wX12 G) post) 12 [(0, .ref 0), (1, .int x1), (2, .int x2), (3, .int x3)] [] (wX12 G σ) := by
  intro n
  induction n with
  | zero => intro σ x1 x2 x3 h; exact h.elim
  | succ n ih =>
    intro σ x1 x2 x3 h
    have hrec_12 : ∀ a : WSX12 × Int32 × Int32 × Int32, aw_loop (fun r (a : WSX12 × Int32 × Int32 × Int32) => wb_X12_eval_12 rc  post r a.1 a.2.1 a.2.2.1 a.2.2.2) n a → AW G MX12_eval d 0 0 25 (aw_pi (wX12 G) post) 12 [(0, .ref 0), (1, .int a.2.1), (2, .int a.2.2.1), (3, .int a.2.2.2)] [] (wX12 G a.1) := fun a h => ih a.1 a.2.1 a.2.2.1 a.2.2.2 h
    have h : wb_X12_eval_12 rc  post (aw_loop (fun r (a : WSX12 × Int32 × Int32 × Int32) => wb_X12_eval_12 rc  post r a.1 a.2.1 a.2.2.1 a.2.2.2) n) σ x1 x2 x3 := h
    unfold wb_X12_eval_12 at h
    refine aw_iload_n 2 dX12_eval_12 rfl rfl ?_
    refine aw_iload_n 1 dX12_eval_13 rfl rfl ?_
    refine aw_icmp_eq 69 dX12_eval_14 (by decide) (fun c11 => ?_) (fun c11 => ?_)
    · have h := h.1 c11
      refine aw_iload_n 3 dX12_eval_69 rfl rfl ?_
      exact aw_iret rfl dX12_eval_70 ⟨_, σ, rfl, rfl, h⟩
    · have h := h.2 c11
      refine aw_aload_n 0 dX12_eval_17 rfl rfl ?_
      refine aw_getf (v := .ref 21) fX12_78 0 rfl rfl dX12_eval_18 ?_
      refine aw_iload_n 2 dX12_eval_21 rfl rfl ?_
      refine aw_iald 21 (n := 9000) (f := σ.2.2.1.2.2.1) rfl h.1 dX12_eval_22 ?_
      have h := h.2
      refine aw_topi (fun y5 ey5 => ?_)
      have h := h y5 ey5
      refine aw_istore_n (lv' := [(2, .int y5), (0, .ref 0), (1, .int x1), (3, .int x3)]) dX12_eval_23 rfl (by decide) rfl ?_
      refine aw_aload_n 1 dX12_eval_24 rfl rfl ?_
      refine aw_aload_n 1 dX12_eval_25 rfl rfl ?_
      refine aw_getf (v := .ref 8) fX12_31 0 rfl rfl dX12_eval_26 ?_
      refine aw_aload_n 1 dX12_eval_29 rfl rfl ?_
      refine aw_getf (v := .ref 7) fX12_28 0 rfl rfl dX12_eval_30 ?_
      refine aw_iload_n 0 dX12_eval_33 rfl rfl ?_
      refine aw_iald 7 (n := 9000) (f := σ.1.1.2.2.2.2) rfl h.1 dX12_eval_34 ?_
      have h := h.2
      refine aw_iald 8 (n := 9000) (f := σ.1.2.1.1.1) rfl h.1 dX12_eval_35 ?_
      have h := h.2
      refine aw_callVT (mc1 := 0) (ms1 := 0) (mc := 0) (ms := 0) (st := []) (q := 0) (As := [.int (σ.1.2.1.1.1 ((σ.1.1.2.2.2.2 (y5).toNatClampNeg)).toNatClampNeg)]) lX12_269 insX12_eval selX12_eval ⟨TX12, 50, rfl⟩ (by omega) (hrc 0 _ [(σ.1.2.1.1.1 ((σ.1.1.2.2.2.2 (y5).toNatClampNeg)).toNatClampNeg)] _ h) (Nat.le_of_ble_eq_true rfl) rfl rfl rfl dX12_eval_36 rfl (fun _ _ hh => ?_)
      obtain ⟨r6, τ7, rfl, rfl, h⟩ := hh
      refine aw_stk (st' := [.int r6]) rfl ?_
      refine aw_istore (lv' := [(4, .int r6), (2, .int y5), (0, .ref 0), (1, .int x1), (3, .int x3)]) dX12_eval_39 (by decide) rfl ?_
      refine aw_aload_n 2 dX12_eval_41 rfl rfl ?_
      refine aw_getf (v := .int τ7.2.2.1.1.2.1) fX12_254 0 rfl rfl dX12_eval_42 ?_
      refine aw_if_ne 64 dX12_eval_45 (by decide) (fun c10 => ?_) (fun c10 => ?_)
      · have h := h.1 c10
        refine aw_iconst (v := (0 : Int32)) dX12_eval_64 (by decide) ?_
        refine aw_lvsub (lv' := [(0, .ref 0), (1, .int x1), (2, .int y5)]) [2, 3, 1] rfl ?_
        exact aw_X12_eval_65 hd hdg hrc hrec_12 h
      · have h := h.2 c10
        refine aw_aload_n 2 dX12_eval_48 rfl rfl ?_
        refine aw_aload_n 2 dX12_eval_49 rfl rfl ?_
        refine aw_getf (v := .ref 5) fX12_22 0 rfl rfl dX12_eval_50 ?_
        refine aw_iload_n 1 dX12_eval_53 rfl rfl ?_
        refine aw_iald 5 (n := 9000) (f := τ7.1.1.2.2.1) rfl h.1 dX12_eval_54 ?_
        have h := h.2
        refine aw_iload_n 4 dX12_eval_55 rfl rfl ?_
        refine aw_iload 0 dX12_eval_56 rfl ?_
        refine aw_callVT (mc1 := 0) (ms1 := 0) (mc := 0) (ms := 0) (st := []) (q := 0) (As := [.int (τ7.1.1.2.2.1 (y5).toNatClampNeg), .int x3, .int r6]) lX12_272 insX12_two selX12_two ⟨TX12, 50, rfl⟩ (by omega) (kX12_two (d := 1) (by omega) h) (Nat.le_of_ble_eq_true rfl) rfl rfl rfl dX12_eval_58 rfl (fun _ _ hh => ?_)
        obtain ⟨r8, τ9, rfl, rfl, h⟩ := hh
        refine aw_stk (st' := [.int r8]) rfl ?_
        refine aw_goto 65 dX12_eval_61 (by decide) ?_
        refine aw_lvsub (lv' := [(0, .ref 0), (1, .int x1), (2, .int y5)]) [2, 3, 1] rfl ?_
        exact aw_X12_eval_65 hd hdg hrc hrec_12 h
def wp_X12_eval (rc : Nat → WSX12 → List Int32 → (Int32 → WSX12 → Prop) → Prop) (σ : WSX12) (a1 : Int32) (post : Int32 → WSX12 → Prop) : Prop :=
  wp_X12_leftmost σ a1 (fun r1 τ2 => rc 1 τ2 [r1] (fun r3 τ4 => (∃ n12, wp_X12_eval_12 rc  post n12 τ4 a1 r1 r3)))
theorem kX12_eval {G : aw_G} {d : Nat} (hd : 2 ≤ d) {dg : Nat} (hdg : dg + 1 ≤ d) {rc : Nat → WSX12 → List Int32 → (Int32 → WSX12 → Prop) → Prop} (hrc : ∀ (k : Nat) (σ : WSX12) (xs : List Int32) (po : Int32 → WSX12 → Prop), rc k σ xs po → AC G (Mg_ev k) dg 0 0 25 (.ref 0 :: xs.map .int) (wX12 G σ) (aw_pi (wX12 G) po)) {σ : WSX12} {a1 : Int32} {post : Int32 → WSX12 → Prop} (h : wp_X12_eval rc σ a1 post) : AC G MX12_eval d 0 0 25 [.ref 0, .int a1] (wX12 G σ) (aw_pi (wX12 G) post) := by
  refine AC.of (lv := [(0, .ref 0), (1, .int a1)]) (by decide) (Nat.le_of_ble_eq_true rfl) rfl ?_
  unfold wp_X12_eval at h
  refine aw_aload_n 0 dX12_eval_0 rfl rfl ?_
  refine aw_iload_n 1 dX12_eval_1 rfl rfl ?_
  refine aw_callVT (mc1 := 0) (ms1 := 0) (mc := 0) (ms := 0) (st := []) (q := 0) (As := [.int a1]) lX12_216 insX12_leftmost selX12_leftmost ⟨TX12, 50, rfl⟩ (by omega) (kX12_leftmost (d := 1) (by omega) h) (Nat.le_of_ble_eq_true rfl) rfl rfl rfl dX12_eval_2 rfl (fun _ _ hh => ?_)
  obtain ⟨r1, τ2, rfl, rfl, h⟩ := hh
  refine aw_stk (st' := [.int r1]) rfl ?_
  refine aw_istore_n (lv' := [(2, .int r1), (0, .ref 0), (1, .int a1)]) dX12_eval_5 rfl (by decide) rfl ?_
  refine aw_aload_n 1 dX12_eval_6 rfl rfl ?_
  refine aw_iload_n 0 dX12_eval_7 rfl rfl ?_
  refine aw_callVT (mc1 := 0) (ms1 := 0) (mc := 0) (ms := 0) (st := []) (q := 0) (As := [.int r1]) lX12_266 insX12_evalPart selX12_evalPart ⟨TX12, 50, rfl⟩ (by omega) (hrc 1 _ [r1] _ h) (Nat.le_of_ble_eq_true rfl) rfl rfl rfl dX12_eval_8 rfl (fun _ _ hh => ?_)
  obtain ⟨r3, τ4, rfl, rfl, h⟩ := hh
  refine aw_stk (st' := [.int r3]) rfl ?_
  refine aw_istore_n (lv' := [(3, .int r3), (2, .int r1), (0, .ref 0), (1, .int a1)]) dX12_eval_11 rfl (by decide) rfl ?_
  refine aw_lvsub (lv' := [(0, .ref 0), (1, .int a1), (2, .int r1), (3, .int r3)]) [2, 3, 1, 0] rfl ?_
  obtain ⟨n12, h⟩ := h
  exact aw_X12_eval_12 hd hdg hrc  n12 τ4 a1 r1 r3 h
def wp_X12_evalPart_152 (rc : Nat → WSX12 → List Int32 → (Int32 → WSX12 → Prop) → Prop)  (post : Int32 → WSX12 → Prop) (σ : WSX12) (x2 : Int32) (x3 : Int32) : Prop :=
  ((¬ σ.2.2.1.1.2.1 = 0 → post (0 : Int32) σ) ∧ (σ.2.2.1.1.2.1 = 0 → (vp_in x3 1500 ∧ (vp_in ((σ.1.2.2.1.1 (x3).toNatClampNeg) + x2) 200 ∧ post (σ.2.1.2.1.2.2 (((σ.1.2.2.1.1 (x3).toNatClampNeg) + x2)).toNatClampNeg) σ))))
theorem aw_X12_evalPart_152 {G : aw_G} {d : Nat} (hd : 2 ≤ d) {dg : Nat} (hdg : dg + 1 ≤ d) {rc : Nat → WSX12 → List Int32 → (Int32 → WSX12 → Prop) → Prop} (hrc : ∀ (k : Nat) (σ : WSX12) (xs : List Int32) (po : Int32 → WSX12 → Prop), rc k σ xs po → AC G (Mg_ev k) dg 0 0 25 (.ref 0 :: xs.map .int) (wX12 G σ) (aw_pi (wX12 G) po)) {post : Int32 → WSX12 → Prop}  {σ : WSX12} {x2 : Int32} {x3 : Int32} (h : wp_X12_evalPart_152 rc  post σ x2 x3) : AW G MX12_evalPart d 0 0 25 (aw_pi (wX12 G) post) 152 [(0, .ref 0), (2, .int x2), (3, .int x3)] [] (wX12 G σ) := by
  unfold wp_X12_evalPart_152 at h
  refine aw_aload_n 0 dX12_evalPart_152 rfl rfl ?_
  refine aw_getf (v := .int σ.2.2.1.1.2.1) fX12_254 0 rfl rfl dX12_evalPart_153 ?_
  refine aw_if_ne 175 dX12_evalPart_156 (by decide) (fun c12 => ?_) (fun c12 => ?_)
  · have h := h.1 c12
    refine aw_iconst (v := (0 : Int32)) dX12_evalPart_175 (by decide) ?_
    exact aw_iret rfl dX12_evalPart_176 ⟨_, σ, rfl, rfl, h⟩
  · have h := h.2 c12
    refine aw_aload_n 0 dX12_evalPart_159 rfl rfl ?_
    refine aw_getf (v := .ref 18) fX12_69 0 rfl rfl dX12_evalPart_160 ?_
    refine aw_aload_n 0 dX12_evalPart_163 rfl rfl ?_
    refine aw_getf (v := .ref 13) fX12_47 0 rfl rfl dX12_evalPart_164 ?_
    refine aw_iload_n 2 dX12_evalPart_167 rfl rfl ?_
    refine aw_iald 13 (n := 1500) (f := σ.1.2.2.1.1) rfl h.1 dX12_evalPart_168 ?_
    have h := h.2
    refine aw_iload_n 1 dX12_evalPart_169 rfl rfl ?_
    refine aw_iadd dX12_evalPart_170 ?_
    refine aw_iald 18 (n := 200) (f := σ.2.1.2.1.2.2) rfl h.1 dX12_evalPart_171 ?_
    have h := h.2
    refine aw_goto 176 dX12_evalPart_172 (by decide) ?_
    exact aw_iret rfl dX12_evalPart_176 ⟨_, σ, rfl, rfl, h⟩
def wp_X12_evalPart_136 (rc : Nat → WSX12 → List Int32 → (Int32 → WSX12 → Prop) → Prop)  (post : Int32 → WSX12 → Prop) (σ : WSX12) (x1 : Int32) (x2 : Int32) (x3 : Int32) : Prop :=
  (vp_in x1 9000 ∧ (vp_in (σ.1.1.2.2.2.2 (x1).toNatClampNeg) 9000 ∧ wp_X12_stop σ (1 : Int32) (σ.1.1.2.2.2.1 ((σ.1.1.2.2.2.2 (x1).toNatClampNeg)).toNatClampNeg) (fun τ14 => wp_X12_evalPart_152 rc  post τ14 x2 x3)))
theorem aw_X12_evalPart_136 {G : aw_G} {d : Nat} (hd : 2 ≤ d) {dg : Nat} (hdg : dg + 1 ≤ d) {rc : Nat → WSX12 → List Int32 → (Int32 → WSX12 → Prop) → Prop} (hrc : ∀ (k : Nat) (σ : WSX12) (xs : List Int32) (po : Int32 → WSX12 → Prop), rc k σ xs po → AC G (Mg_ev k) dg 0 0 25 (.ref 0 :: xs.map .int) (wX12 G σ) (aw_pi (wX12 G) po)) {post : Int32 → WSX12 → Prop}  {σ : WSX12} {x1 : Int32} {x2 : Int32} {x3 : Int32} (h : wp_X12_evalPart_136 rc  post σ x1 x2 x3) : AW G MX12_evalPart d 0 0 25 (aw_pi (wX12 G) post) 136 [(0, .ref 0), (1, .int x1), (2, .int x2), (3, .int x3)] [] (wX12 G σ) := by
  unfold wp_X12_evalPart_136 at h
  refine aw_aload_n 0 dX12_evalPart_136 rfl rfl ?_
  refine aw_iconst (v := (1 : Int32)) dX12_evalPart_137 (by decide) ?_
  refine aw_aload_n 0 dX12_evalPart_138 rfl rfl ?_
  refine aw_getf (v := .ref 6) fX12_25 0 rfl rfl dX12_evalPart_139 ?_
  refine aw_aload_n 0 dX12_evalPart_142 rfl rfl ?_
  refine aw_getf (v := .ref 7) fX12_28 0 rfl rfl dX12_evalPart_143 ?_
  refine aw_iload_n 1 dX12_evalPart_146 rfl rfl ?_
  refine aw_iald 7 (n := 9000) (f := σ.1.1.2.2.2.2) rfl h.1 dX12_evalPart_147 ?_
  have h := h.2
  refine aw_iald 6 (n := 9000) (f := σ.1.1.2.2.2.1) rfl h.1 dX12_evalPart_148 ?_
  have h := h.2
  refine aw_callVT (mc1 := 0) (ms1 := 0) (mc := 0) (ms := 0) (st := []) (q := 0) (As := [.int (1 : Int32), .int (σ.1.1.2.2.2.1 ((σ.1.1.2.2.2.2 (x1).toNatClampNeg)).toNatClampNeg)]) lX12_276 insX12_stop selX12_stop ⟨TX12, 50, rfl⟩ (by omega) (kX12_stop (d := 0) (by omega) h) (Nat.le_of_ble_eq_true rfl) rfl rfl rfl dX12_evalPart_149 rfl (fun _ _ hh => ?_)
  obtain ⟨τ14, rfl, rfl, h⟩ := hh
  refine aw_stk (st' := []) rfl ?_
  refine aw_lvsub (lv' := [(0, .ref 0), (2, .int x2), (3, .int x3)]) [0, 2, 3] rfl ?_
  exact aw_X12_evalPart_152 hd hdg hrc  h
def wp_X12_evalPart (rc : Nat → WSX12 → List Int32 → (Int32 → WSX12 → Prop) → Prop) (σ : WSX12) (a1 : Int32) (post : Int32 → WSX12 → Prop) : Prop :=
  ((σ.2.2.1.1.2.1 = 0 → (vp_in a1 9000 ∧ (((σ.1.1.2.2.1 (a1).toNatClampNeg) = (1 : Int32) → (vp_in a1 9000 ∧ (vp_in (σ.1.2.1.1.2.2 (a1).toNatClampNeg) 1500 ∧ (vp_in (σ.1.2.2.1.1 ((σ.1.2.1.1.2.2 (a1).toNatClampNeg)).toNatClampNeg) 200 ∧ post (σ.2.1.2.1.2.2 ((σ.1.2.2.1.1 ((σ.1.2.1.1.2.2 (a1).toNatClampNeg)).toNatClampNeg)).toNatClampNeg) σ)))) ∧ (¬ (σ.1.1.2.2.1 (a1).toNatClampNeg) = (1 : Int32) → (((σ.1.1.2.2.1 (a1).toNatClampNeg) = (2 : Int32) → (vp_in a1 9000 ∧ wp_X12_number σ (σ.1.1.2.2.2.1 (a1).toNatClampNeg) (fun r3 τ4 => post r3 τ4))) ∧ (¬ (σ.1.1.2.2.1 (a1).toNatClampNeg) = (2 : Int32) → (((σ.1.1.2.2.1 (a1).toNatClampNeg) = (126 : Int32) → (vp_in a1 9000 ∧ rc 0 σ [(σ.1.1.2.2.2.2 (a1).toNatClampNeg)] (fun r6 τ7 => post (r6 ^^^ ((-1) : Int32)) τ7))) ∧ (¬ (σ.1.1.2.2.1 (a1).toNatClampNeg) = (126 : Int32) → (((σ.1.1.2.2.1 (a1).toNatClampNeg) = (303 : Int32) → (vp_in a1 9000 ∧ (vp_in (σ.1.1.2.2.2.2 (a1).toNatClampNeg) 9000 ∧ rc 0 σ [(σ.1.2.1.1.1 ((σ.1.1.2.2.2.2 (a1).toNatClampNeg)).toNatClampNeg)] (fun r9 τ10 => (vp_in a1 9000 ∧ (∀ y11 : Int32, y11 = (τ10.1.2.1.1.2.2 (a1).toNatClampNeg) → ((¬ τ10.2.2.1.1.2.1 = 0 → wp_X12_evalPart_152 rc  post τ10 r9 y11) ∧ (τ10.2.2.1.1.2.1 = 0 → ((r9 < 0 → wp_X12_evalPart_136 rc  post τ10 a1 r9 y11) ∧ (¬ r9 < 0 → (vp_in y11 1500 ∧ ((r9 < (τ10.1.2.1.2.2.2 (y11).toNatClampNeg) → wp_X12_evalPart_152 rc  post τ10 r9 y11) ∧ (¬ r9 < (τ10.1.2.1.2.2.2 (y11).toNatClampNeg) → wp_X12_evalPart_136 rc  post τ10 a1 r9 y11))))))))))))) ∧ (¬ (σ.1.1.2.2.1 (a1).toNatClampNeg) = (303 : Int32) → (((σ.1.1.2.2.1 (a1).toNatClampNeg) = (304 : Int32) → (vp_in a1 9000 ∧ rc 0 σ [(σ.1.1.2.2.2.2 (a1).toNatClampNeg)] (fun r19 τ20 => post (-r19) τ20))) ∧ (¬ (σ.1.1.2.2.1 (a1).toNatClampNeg) = (304 : Int32) → (vp_in a1 9000 ∧ rc 0 σ [(σ.1.1.2.2.2.2 (a1).toNatClampNeg)] (fun r21 τ22 => ((¬ r21 = 0 → post (0 : Int32) τ22) ∧ (r21 = 0 → post (1 : Int32) τ22)))))))))))))))) ∧ (¬ σ.2.2.1.1.2.1 = 0 → post (0 : Int32) σ))
theorem kX12_evalPart {G : aw_G} {d : Nat} (hd : 2 ≤ d) {dg : Nat} (hdg : dg + 1 ≤ d) {rc : Nat → WSX12 → List Int32 → (Int32 → WSX12 → Prop) → Prop} (hrc : ∀ (k : Nat) (σ : WSX12) (xs : List Int32) (po : Int32 → WSX12 → Prop), rc k σ xs po → AC G (Mg_ev k) dg 0 0 25 (.ref 0 :: xs.map .int) (wX12 G σ) (aw_pi (wX12 G) po)) {σ : WSX12} {a1 : Int32} {post : Int32 → WSX12 → Prop} (h : wp_X12_evalPart rc σ a1 post) : AC G MX12_evalPart d 0 0 25 [.ref 0, .int a1] (wX12 G σ) (aw_pi (wX12 G) post) := by
  refine AC.of (lv := [(0, .ref 0), (1, .int a1)]) (by decide) (Nat.le_of_ble_eq_true rfl) rfl ?_
  unfold wp_X12_evalPart at h
  refine aw_aload_n 0 dX12_evalPart_0 rfl rfl ?_
  refine aw_getf (v := .int σ.2.2.1.1.2.1) fX12_254 0 rfl rfl dX12_evalPart_1 ?_
  refine aw_if_eq 9 dX12_evalPart_4 (by decide) (fun c24 => ?_) (fun c24 => ?_)
  · have h := h.1 c24
    refine aw_aload_n 0 dX12_evalPart_9 rfl rfl ?_
    refine aw_getf (v := .ref 5) fX12_22 0 rfl rfl dX12_evalPart_10 ?_
    refine aw_iload_n 1 dX12_evalPart_13 rfl rfl ?_
    refine aw_iald 5 (n := 9000) (f := σ.1.1.2.2.1) rfl h.1 dX12_evalPart_14 ?_
    have h := h.2
    by_cases c1 : (σ.1.1.2.2.1 (a1).toNatClampNeg) = (1 : Int32)
    · refine aw_lookup 75 (off := 60) dX12_evalPart_15 (by decide) (aw_swh (a := 1) c1 rfl) (by decide) ?_
      have h := h.1 c1
      refine aw_aload_n 0 dX12_evalPart_75 rfl rfl ?_
      refine aw_getf (v := .ref 18) fX12_69 0 rfl rfl dX12_evalPart_76 ?_
      refine aw_aload_n 0 dX12_evalPart_79 rfl rfl ?_
      refine aw_getf (v := .ref 13) fX12_47 0 rfl rfl dX12_evalPart_80 ?_
      refine aw_aload_n 0 dX12_evalPart_83 rfl rfl ?_
      refine aw_getf (v := .ref 10) fX12_38 0 rfl rfl dX12_evalPart_84 ?_
      refine aw_iload_n 1 dX12_evalPart_87 rfl rfl ?_
      refine aw_iald 10 (n := 9000) (f := σ.1.2.1.1.2.2) rfl h.1 dX12_evalPart_88 ?_
      have h := h.2
      refine aw_iald 13 (n := 1500) (f := σ.1.2.2.1.1) rfl h.1 dX12_evalPart_89 ?_
      have h := h.2
      refine aw_iald 18 (n := 200) (f := σ.2.1.2.1.2.2) rfl h.1 dX12_evalPart_90 ?_
      have h := h.2
      exact aw_iret rfl dX12_evalPart_91 ⟨_, σ, rfl, rfl, h⟩
    have h := h.2 c1
    by_cases c2 : (σ.1.1.2.2.1 (a1).toNatClampNeg) = (2 : Int32)
    · refine aw_lookup 64 (off := 49) dX12_evalPart_15 (by decide) ((lv_osw (a := 1) c1 rfl).trans (aw_swh (a := 2) c2 rfl)) (by decide) ?_
      have h := h.1 c2
      refine aw_aload_n 0 dX12_evalPart_64 rfl rfl ?_
      refine aw_aload_n 0 dX12_evalPart_65 rfl rfl ?_
      refine aw_getf (v := .ref 6) fX12_25 0 rfl rfl dX12_evalPart_66 ?_
      refine aw_iload_n 1 dX12_evalPart_69 rfl rfl ?_
      refine aw_iald 6 (n := 9000) (f := σ.1.1.2.2.2.1) rfl h.1 dX12_evalPart_70 ?_
      have h := h.2
      refine aw_callVT (mc1 := 0) (ms1 := 0) (mc := 0) (ms := 0) (st := []) (q := 0) (As := [.int (σ.1.1.2.2.2.1 (a1).toNatClampNeg)]) lX12_204 insX12_number selX12_number ⟨TX12, 50, rfl⟩ (by omega) (kX12_number (d := 1) (by omega) h) (Nat.le_of_ble_eq_true rfl) rfl rfl rfl dX12_evalPart_71 rfl (fun _ _ hh => ?_)
      obtain ⟨r3, τ4, rfl, rfl, h⟩ := hh
      refine aw_stk (st' := [.int r3]) rfl ?_
      exact aw_iret rfl dX12_evalPart_74 ⟨_, τ4, rfl, rfl, h⟩
    have h := h.2 c2
    by_cases c5 : (σ.1.1.2.2.1 (a1).toNatClampNeg) = (126 : Int32)
    · refine aw_lookup 189 (off := 174) dX12_evalPart_15 (by decide) ((lv_osw (a := 1) c1 rfl).trans ((lv_osw (a := 2) c2 rfl).trans (aw_swh (a := 126) c5 rfl))) (by decide) ?_
      have h := h.1 c5
      refine aw_aload_n 0 dX12_evalPart_189 rfl rfl ?_
      refine aw_aload_n 0 dX12_evalPart_190 rfl rfl ?_
      refine aw_getf (v := .ref 7) fX12_28 0 rfl rfl dX12_evalPart_191 ?_
      refine aw_iload_n 1 dX12_evalPart_194 rfl rfl ?_
      refine aw_iald 7 (n := 9000) (f := σ.1.1.2.2.2.2) rfl h.1 dX12_evalPart_195 ?_
      have h := h.2
      refine aw_callVT (mc1 := 0) (ms1 := 0) (mc := 0) (ms := 0) (st := []) (q := 0) (As := [.int (σ.1.1.2.2.2.2 (a1).toNatClampNeg)]) lX12_269 insX12_eval selX12_eval ⟨TX12, 50, rfl⟩ (by omega) (hrc 0 _ [(σ.1.1.2.2.2.2 (a1).toNatClampNeg)] _ h) (Nat.le_of_ble_eq_true rfl) rfl rfl rfl dX12_evalPart_196 rfl (fun _ _ hh => ?_)
      obtain ⟨r6, τ7, rfl, rfl, h⟩ := hh
      refine aw_stk (st' := [.int r6]) rfl ?_
      refine aw_iconst (v := ((-1) : Int32)) dX12_evalPart_199 (by decide) ?_
      refine aw_ixor dX12_evalPart_200 ?_
      exact aw_iret rfl dX12_evalPart_201 ⟨_, τ7, rfl, rfl, h⟩
    have h := h.2 c5
    by_cases c8 : (σ.1.1.2.2.1 (a1).toNatClampNeg) = (303 : Int32)
    · refine aw_lookup 92 (off := 77) dX12_evalPart_15 (by decide) ((lv_osw (a := 1) c1 rfl).trans ((lv_osw (a := 2) c2 rfl).trans ((lv_osw (a := 126) c5 rfl).trans (aw_swh (a := 303) c8 rfl)))) (by decide) ?_
      have h := h.1 c8
      refine aw_aload_n 0 dX12_evalPart_92 rfl rfl ?_
      refine aw_aload_n 0 dX12_evalPart_93 rfl rfl ?_
      refine aw_getf (v := .ref 8) fX12_31 0 rfl rfl dX12_evalPart_94 ?_
      refine aw_aload_n 0 dX12_evalPart_97 rfl rfl ?_
      refine aw_getf (v := .ref 7) fX12_28 0 rfl rfl dX12_evalPart_98 ?_
      refine aw_iload_n 1 dX12_evalPart_101 rfl rfl ?_
      refine aw_iald 7 (n := 9000) (f := σ.1.1.2.2.2.2) rfl h.1 dX12_evalPart_102 ?_
      have h := h.2
      refine aw_iald 8 (n := 9000) (f := σ.1.2.1.1.1) rfl h.1 dX12_evalPart_103 ?_
      have h := h.2
      refine aw_callVT (mc1 := 0) (ms1 := 0) (mc := 0) (ms := 0) (st := []) (q := 0) (As := [.int (σ.1.2.1.1.1 ((σ.1.1.2.2.2.2 (a1).toNatClampNeg)).toNatClampNeg)]) lX12_269 insX12_eval selX12_eval ⟨TX12, 50, rfl⟩ (by omega) (hrc 0 _ [(σ.1.2.1.1.1 ((σ.1.1.2.2.2.2 (a1).toNatClampNeg)).toNatClampNeg)] _ h) (Nat.le_of_ble_eq_true rfl) rfl rfl rfl dX12_evalPart_104 rfl (fun _ _ hh => ?_)
      obtain ⟨r9, τ10, rfl, rfl, h⟩ := hh
      refine aw_stk (st' := [.int r9]) rfl ?_
      refine aw_istore_n (lv' := [(2, .int r9), (0, .ref 0), (1, .int a1)]) dX12_evalPart_107 rfl (by decide) rfl ?_
      refine aw_aload_n 1 dX12_evalPart_108 rfl rfl ?_
      refine aw_getf (v := .ref 10) fX12_38 0 rfl rfl dX12_evalPart_109 ?_
      refine aw_iload_n 2 dX12_evalPart_112 rfl rfl ?_
      refine aw_iald 10 (n := 9000) (f := τ10.1.2.1.1.2.2) rfl h.1 dX12_evalPart_113 ?_
      have h := h.2
      refine aw_topi (fun y11 ey11 => ?_)
      have h := h y11 ey11
      refine aw_istore_n (lv' := [(3, .int y11), (2, .int r9), (0, .ref 0), (1, .int a1)]) dX12_evalPart_114 rfl (by decide) rfl ?_
      refine aw_aload_n 2 dX12_evalPart_115 rfl rfl ?_
      refine aw_getf (v := .int τ10.2.2.1.1.2.1) fX12_254 0 rfl rfl dX12_evalPart_116 ?_
      refine aw_if_ne 152 dX12_evalPart_119 (by decide) (fun c17 => ?_) (fun c17 => ?_)
      · have h := h.1 c17
        refine aw_lvsub (lv' := [(0, .ref 0), (2, .int r9), (3, .int y11)]) [2, 1, 0] rfl ?_
        exact aw_X12_evalPart_152 hd hdg hrc  h
      · have h := h.2 c17
        refine aw_iload_n 1 dX12_evalPart_122 rfl rfl ?_
        refine aw_if_lt 136 dX12_evalPart_123 (by decide) (fun c16 => ?_) (fun c16 => ?_)
        · have h := h.1 c16
          refine aw_lvsub (lv' := [(0, .ref 0), (1, .int a1), (2, .int r9), (3, .int y11)]) [2, 3, 1, 0] rfl ?_
          exact aw_X12_evalPart_136 hd hdg hrc  h
        · have h := h.2 c16
          refine aw_iload_n 1 dX12_evalPart_126 rfl rfl ?_
          refine aw_aload_n 2 dX12_evalPart_127 rfl rfl ?_
          refine aw_getf (v := .ref 12) fX12_44 0 rfl rfl dX12_evalPart_128 ?_
          refine aw_iload_n 0 dX12_evalPart_131 rfl rfl ?_
          refine aw_iald 12 (n := 1500) (f := τ10.1.2.1.2.2.2) rfl h.1 dX12_evalPart_132 ?_
          have h := h.2
          refine aw_icmp_lt 152 dX12_evalPart_133 (by decide) (fun c15 => ?_) (fun c15 => ?_)
          · have h := h.1 c15
            refine aw_lvsub (lv' := [(0, .ref 0), (2, .int r9), (3, .int y11)]) [2, 1, 0] rfl ?_
            exact aw_X12_evalPart_152 hd hdg hrc  h
          · have h := h.2 c15
            refine aw_lvsub (lv' := [(0, .ref 0), (1, .int a1), (2, .int r9), (3, .int y11)]) [2, 3, 1, 0] rfl ?_
            exact aw_X12_evalPart_136 hd hdg hrc  h
    have h := h.2 c8
    by_cases c18 : (σ.1.1.2.2.1 (a1).toNatClampNeg) = (304 : Int32)
    · refine aw_lookup 177 (off := 162) dX12_evalPart_15 (by decide) ((lv_osw (a := 1) c1 rfl).trans ((lv_osw (a := 2) c2 rfl).trans ((lv_osw (a := 126) c5 rfl).trans ((lv_osw (a := 303) c8 rfl).trans (aw_swh (a := 304) c18 rfl))))) (by decide) ?_
      have h := h.1 c18
      refine aw_aload_n 0 dX12_evalPart_177 rfl rfl ?_
      refine aw_aload_n 0 dX12_evalPart_178 rfl rfl ?_
      refine aw_getf (v := .ref 7) fX12_28 0 rfl rfl dX12_evalPart_179 ?_
      refine aw_iload_n 1 dX12_evalPart_182 rfl rfl ?_
      refine aw_iald 7 (n := 9000) (f := σ.1.1.2.2.2.2) rfl h.1 dX12_evalPart_183 ?_
      have h := h.2
      refine aw_callVT (mc1 := 0) (ms1 := 0) (mc := 0) (ms := 0) (st := []) (q := 0) (As := [.int (σ.1.1.2.2.2.2 (a1).toNatClampNeg)]) lX12_269 insX12_eval selX12_eval ⟨TX12, 50, rfl⟩ (by omega) (hrc 0 _ [(σ.1.1.2.2.2.2 (a1).toNatClampNeg)] _ h) (Nat.le_of_ble_eq_true rfl) rfl rfl rfl dX12_evalPart_184 rfl (fun _ _ hh => ?_)
      obtain ⟨r19, τ20, rfl, rfl, h⟩ := hh
      refine aw_stk (st' := [.int r19]) rfl ?_
      refine aw_ineg dX12_evalPart_187 ?_
      exact aw_iret rfl dX12_evalPart_188 ⟨_, τ20, rfl, rfl, h⟩
    have h := h.2 c18
    refine aw_lookup 202 (off := 187) dX12_evalPart_15 (by decide) ((lv_osw (a := 1) c1 rfl).trans ((lv_osw (a := 2) c2 rfl).trans ((lv_osw (a := 126) c5 rfl).trans ((lv_osw (a := 303) c8 rfl).trans ((lv_osw (a := 304) c18 rfl).trans rfl))))) (by decide) ?_
    refine aw_aload_n 0 dX12_evalPart_202 rfl rfl ?_
    refine aw_aload_n 0 dX12_evalPart_203 rfl rfl ?_
    refine aw_getf (v := .ref 7) fX12_28 0 rfl rfl dX12_evalPart_204 ?_
    refine aw_iload_n 1 dX12_evalPart_207 rfl rfl ?_
    refine aw_iald 7 (n := 9000) (f := σ.1.1.2.2.2.2) rfl h.1 dX12_evalPart_208 ?_
    have h := h.2
    refine aw_callVT (mc1 := 0) (ms1 := 0) (mc := 0) (ms := 0) (st := []) (q := 0) (As := [.int (σ.1.1.2.2.2.2 (a1).toNatClampNeg)]) lX12_269 insX12_eval selX12_eval ⟨TX12, 50, rfl⟩ (by omega) (hrc 0 _ [(σ.1.1.2.2.2.2 (a1).toNatClampNeg)] _ h) (Nat.le_of_ble_eq_true rfl) rfl rfl rfl dX12_evalPart_209 rfl (fun _ _ hh => ?_)
    obtain ⟨r21, τ22, rfl, rfl, h⟩ := hh
    refine aw_stk (st' := [.int r21]) rfl ?_
    refine aw_if_ne 219 dX12_evalPart_212 (by decide) (fun c23 => ?_) (fun c23 => ?_)
    · have h := h.1 c23
      refine aw_iconst (v := (0 : Int32)) dX12_evalPart_219 (by decide) ?_
      exact aw_iret rfl dX12_evalPart_220 ⟨_, τ22, rfl, rfl, h⟩
    · have h := h.2 c23
      refine aw_iconst (v := (1 : Int32)) dX12_evalPart_215 (by decide) ?_
      refine aw_goto 220 dX12_evalPart_216 (by decide) ?_
      exact aw_iret rfl dX12_evalPart_220 ⟨_, τ22, rfl, rfl, h⟩
  · have h := h.2 c24
    refine aw_iconst (v := (0 : Int32)) dX12_evalPart_7 (by decide) ?_
    exact aw_iret rfl dX12_evalPart_8 ⟨_, σ, rfl, rfl, h⟩
def wg_ev : Nat → Nat → WSX12 → List Int32 → (Int32 → WSX12 → Prop) → Prop
  | 0, _, _, _, _ => False
  | n + 1, k, σ, xs, po => match k, xs with
    | 0, [a0] => wp_X12_eval (wg_ev n) σ a0 po
    | 1, [a0] => wp_X12_evalPart (wg_ev n) σ a0 po
    | _, _ => False
theorem kg_ev {G : aw_G} : ∀ (n k : Nat) (σ : WSX12) (xs : List Int32) (po : Int32 → WSX12 → Prop), wg_ev n k σ xs po → AC G (Mg_ev k) (2 + n) 0 0 25 (.ref 0 :: xs.map .int) (wX12 G σ) (aw_pi (wX12 G) po) := by
  intro n
  induction n with
  | zero => intro k σ xs po h; exact h.elim
  | succ n ih =>
    intro k σ xs po h
    unfold wg_ev at h
    split at h
    · exact kX12_eval (d := 2 + (n + 1)) (by omega) (dg := 2 + n) (by omega) ih h
    · exact kX12_evalPart (d := 2 + (n + 1)) (by omega) (dg := 2 + n) (by omega) ih h
    · exact h.elim
def wp_X12_step_51  (post : Int32 → WSX12 → Prop) (σ : WSX12) : Prop :=
  ((¬ σ.2.2.1.1.2.1 = 0 → post (0 : Int32) σ) ∧ (σ.2.2.1.1.2.1 = 0 → post (1 : Int32) σ))
theorem aw_X12_step_51 {G : aw_G} {d : Nat} (hd : 1 ≤ d) {post : Int32 → WSX12 → Prop}  {σ : WSX12} (h : wp_X12_step_51  post σ) : AW G MX12_step d 0 0 25 (aw_pi (wX12 G) post) 51 [(0, .ref 0)] [] (wX12 G σ) := by
  unfold wp_X12_step_51 at h
  refine aw_aload_n 0 dX12_step_51 rfl rfl ?_
  refine aw_getf (v := .int σ.2.2.1.1.2.1) fX12_254 0 rfl rfl dX12_step_52 ?_
  refine aw_if_ne 62 dX12_step_55 (by decide) (fun c2 => ?_) (fun c2 => ?_)
  · have h := h.1 c2
    refine aw_iconst (v := (0 : Int32)) dX12_step_62 (by decide) ?_
    exact aw_zret rfl rfl dX12_step_63 ⟨_, σ, rfl, rfl, h⟩
  · have h := h.2 c2
    refine aw_iconst (v := (1 : Int32)) dX12_step_58 (by decide) ?_
    refine aw_goto 63 dX12_step_59 (by decide) ?_
    exact aw_zret rfl rfl dX12_step_63 ⟨_, σ, rfl, rfl, h⟩
def wp_X12_step_47  (post : Int32 → WSX12 → Prop) (σ : WSX12) (s0 : Int32) (s1 : Int32) : Prop :=
  (∀ y1 : Int32, y1 = (s1 + s0) → wp_X12_step_51  post (σ.1, ((σ.2.1.1, (σ.2.1.2.1, (σ.2.1.2.2.1, (σ.2.1.2.2.2.1, y1)))), σ.2.2)))
theorem aw_X12_step_47 {G : aw_G} {d : Nat} (hd : 1 ≤ d) {post : Int32 → WSX12 → Prop}  {σ : WSX12} {s0 : Int32} {s1 : Int32} (h : wp_X12_step_47  post σ s0 s1) : AW G MX12_step d 0 0 25 (aw_pi (wX12 G) post) 47 [(0, .ref 0)] [.int s0, .int s1, .ref 0] (wX12 G σ) := by
  unfold wp_X12_step_47 at h
  refine aw_iadd dX12_step_47 ?_
  refine aw_topi (fun y1 ey1 => ?_)
  have h := h y1 ey1
  refine aw_putf fX12_279 0 (w' := (wX12 G (σ.1, ((σ.2.1.1, (σ.2.1.2.1, (σ.2.1.2.2.1, (σ.2.1.2.2.2.1, y1)))), σ.2.2)))) rfl (fun _ => ⟨rfl, rfl⟩) (Nat.le_of_ble_eq_true rfl) rfl dX12_step_48 ?_
  exact aw_X12_step_51 hd  h
def wp_X12_step_33  (post : Int32 → WSX12 → Prop) (σ : WSX12) (x1 : Int32) : Prop :=
  ((x1 = 0 → wp_X12_step_47  post σ (1 : Int32) σ.2.1.2.2.2.2) ∧ (¬ x1 = 0 → wp_X12_step_47  post σ (0 : Int32) σ.2.1.2.2.2.2))
theorem aw_X12_step_33 {G : aw_G} {d : Nat} (hd : 1 ≤ d) {post : Int32 → WSX12 → Prop}  {σ : WSX12} {x1 : Int32} (h : wp_X12_step_33  post σ x1) : AW G MX12_step d 0 0 25 (aw_pi (wX12 G) post) 33 [(0, .ref 0), (1, .int x1)] [] (wX12 G σ) := by
  unfold wp_X12_step_33 at h
  refine aw_aload_n 0 dX12_step_33 rfl rfl ?_
  refine aw_dup dX12_step_34 rfl ?_
  refine aw_getf (v := .int σ.2.1.2.2.2.2) fX12_279 0 rfl rfl dX12_step_35 ?_
  refine aw_iload_n 1 dX12_step_38 rfl rfl ?_
  refine aw_if_eq 46 dX12_step_39 (by decide) (fun c3 => ?_) (fun c3 => ?_)
  · have h := h.1 c3
    refine aw_iconst (v := (1 : Int32)) dX12_step_46 (by decide) ?_
    refine aw_lvsub (lv' := [(0, .ref 0)]) [0] rfl ?_
    exact aw_X12_step_47 hd  h
  · have h := h.2 c3
    refine aw_iconst (v := (0 : Int32)) dX12_step_42 (by decide) ?_
    refine aw_goto 47 dX12_step_43 (by decide) ?_
    refine aw_lvsub (lv' := [(0, .ref 0)]) [0] rfl ?_
    exact aw_X12_step_47 hd  h
def wp_X12_step (σ : WSX12) (a1 : Int32) (a2 : Int32) (post : Int32 → WSX12 → Prop) : Prop :=
  ((σ.2.2.1.1.2.1 = 0 → ((¬ a1 = 0 → wp_X12_step_33  post σ a1) ∧ (a1 = 0 → ((¬ σ.2.1.2.2.2.2 = σ.2.2.1.1.1 → wp_X12_step_33  post σ a1) ∧ (σ.2.1.2.2.2.2 = σ.2.2.1.1.1 → wp_X12_stop σ (2 : Int32) a2 (fun τ5 => wp_X12_step_51  post τ5)))))) ∧ (¬ σ.2.2.1.1.2.1 = 0 → post (0 : Int32) σ))
theorem kX12_step {G : aw_G} {d : Nat} (hd : 1 ≤ d) {σ : WSX12} {a1 : Int32} {a2 : Int32} {post : Int32 → WSX12 → Prop} (h : wp_X12_step σ a1 a2 post) : AC G MX12_step d 0 0 25 [.ref 0, .int a1, .int a2] (wX12 G σ) (aw_pi (wX12 G) post) := by
  refine AC.of (lv := [(0, .ref 0), (1, .int a1), (2, .int a2)]) (by decide) (Nat.le_of_ble_eq_true rfl) rfl ?_
  unfold wp_X12_step at h
  refine aw_aload_n 0 dX12_step_0 rfl rfl ?_
  refine aw_getf (v := .int σ.2.2.1.1.2.1) fX12_254 0 rfl rfl dX12_step_1 ?_
  refine aw_if_eq 9 dX12_step_4 (by decide) (fun c8 => ?_) (fun c8 => ?_)
  · have h := h.1 c8
    refine aw_iload_n 1 dX12_step_9 rfl rfl ?_
    refine aw_if_ne 33 dX12_step_10 (by decide) (fun c7 => ?_) (fun c7 => ?_)
    · have h := h.1 c7
      refine aw_lvsub (lv' := [(0, .ref 0), (1, .int a1)]) [0, 1] rfl ?_
      exact aw_X12_step_33 hd  h
    · have h := h.2 c7
      refine aw_aload_n 0 dX12_step_13 rfl rfl ?_
      refine aw_getf (v := .int σ.2.1.2.2.2.2) fX12_279 0 rfl rfl dX12_step_14 ?_
      refine aw_aload_n 0 dX12_step_17 rfl rfl ?_
      refine aw_getf (v := .int σ.2.2.1.1.1) fX12_282 0 rfl rfl dX12_step_18 ?_
      refine aw_icmp_ne 33 dX12_step_21 (by decide) (fun c6 => ?_) (fun c6 => ?_)
      · have h := h.1 c6
        refine aw_lvsub (lv' := [(0, .ref 0), (1, .int a1)]) [0, 1] rfl ?_
        exact aw_X12_step_33 hd  h
      · have h := h.2 c6
        refine aw_aload_n 0 dX12_step_24 rfl rfl ?_
        refine aw_iconst (v := (2 : Int32)) dX12_step_25 (by decide) ?_
        refine aw_iload_n 2 dX12_step_26 rfl rfl ?_
        refine aw_callVT (mc1 := 0) (ms1 := 0) (mc := 0) (ms := 0) (st := []) (q := 0) (As := [.int (2 : Int32), .int a2]) lX12_276 insX12_stop selX12_stop ⟨TX12, 50, rfl⟩ (by omega) (kX12_stop (d := 0) (by omega) h) (Nat.le_of_ble_eq_true rfl) rfl rfl rfl dX12_step_27 rfl (fun _ _ hh => ?_)
        obtain ⟨τ5, rfl, rfl, h⟩ := hh
        refine aw_stk (st' := []) rfl ?_
        refine aw_goto 51 dX12_step_30 (by decide) ?_
        refine aw_lvsub (lv' := [(0, .ref 0)]) [0] rfl ?_
        exact aw_X12_step_51 hd  h
  · have h := h.2 c8
    refine aw_iconst (v := (0 : Int32)) dX12_step_7 (by decide) ?_
    exact aw_zret rfl rfl dX12_step_8 ⟨_, σ, rfl, rfl, h⟩
def Mg_ra (k : Nat) : aw_M := match k with
  | 0 => MX12_runAll
  | _ => MX12_runOne
def wp_X12_runAll_59 (rc : Nat → WSX12 → List Int32 → (Int32 → WSX12 → Prop) → Prop) (rec_7 : WSX12 × Int32 × Int32 → Prop) (post : WSX12 → Prop) (σ : WSX12) (x2 : Int32) (x3 : Int32) : Prop :=
  (vp_in x3 9000 ∧ (∀ y2 : Int32, y2 = (σ.1.2.1.1.1 (x3).toNatClampNeg) → rec_7 (σ, x2, y2)))
theorem aw_X12_runAll_59 {G : aw_G} {d : Nat} (hd : 2 ≤ d) {dg : Nat} (hdg : dg + 1 ≤ d) {rc : Nat → WSX12 → List Int32 → (Int32 → WSX12 → Prop) → Prop} (hrc : ∀ (k : Nat) (σ : WSX12) (xs : List Int32) (po : Int32 → WSX12 → Prop), rc k σ xs po → AC G (Mg_ra k) dg 0 0 25 (.ref 0 :: xs.map .int) (wX12 G σ) (aw_pv (wX12 G) (fun τ => po 0 τ))) {rec_7 : WSX12 × Int32 × Int32 → Prop} {post : WSX12 → Prop} (hrec_7 : ∀ a : WSX12 × Int32 × Int32, rec_7 a → AW G MX12_runAll d 0 0 25 (aw_pv (wX12 G) post) 7 [(0, .ref 0), (2, .int a.2.1), (3, .int a.2.2)] [] (wX12 G a.1)) {σ : WSX12} {x2 : Int32} {x3 : Int32} (h : wp_X12_runAll_59 rc rec_7 post σ x2 x3) : AW G MX12_runAll d 0 0 25 (aw_pv (wX12 G) post) 59 [(0, .ref 0), (2, .int x2), (3, .int x3)] [] (wX12 G σ) := by
  unfold wp_X12_runAll_59 at h
  refine aw_aload_n 0 dX12_runAll_59 rfl rfl ?_
  refine aw_getf (v := .ref 8) fX12_31 0 rfl rfl dX12_runAll_60 ?_
  refine aw_iload_n 2 dX12_runAll_63 rfl rfl ?_
  refine aw_iald 8 (n := 9000) (f := σ.1.2.1.1.1) rfl h.1 dX12_runAll_64 ?_
  have h := h.2
  refine aw_topi (fun y2 ey2 => ?_)
  have h := h y2 ey2
  refine aw_istore_n (lv' := [(3, .int y2), (0, .ref 0), (2, .int x2)]) dX12_runAll_65 rfl (by decide) rfl ?_
  refine aw_goto 7 dX12_runAll_66 (by decide) ?_
  refine aw_lvsub (lv' := [(0, .ref 0), (2, .int x2), (3, .int y2)]) [1, 2, 0] rfl ?_
  exact hrec_7 (σ, x2, y2) h
def wb_X12_runAll_7 (rc : Nat → WSX12 → List Int32 → (Int32 → WSX12 → Prop) → Prop)  (post : WSX12 → Prop) (rec_7 : WSX12 × Int32 × Int32 → Prop) (σ : WSX12) (x2 : Int32) (x3 : Int32) : Prop :=
  ((x3 = ((-1) : Int32) → post σ) ∧ (¬ x3 = ((-1) : Int32) → ((¬ σ.2.2.1.1.2.1 = 0 → post σ) ∧ (σ.2.2.1.1.2.1 = 0 → (vp_in x3 9000 ∧ (((σ.1.1.2.2.1 (x3).toNatClampNeg) = (3 : Int32) → wp_X12_runAll_59 rc rec_7 post σ x2 x3) ∧ (¬ (σ.1.1.2.2.1 (x3).toNatClampNeg) = (3 : Int32) → (vp_in x3 9000 ∧ (((σ.1.1.2.2.1 (x3).toNatClampNeg) = (4 : Int32) → wp_X12_runAll_59 rc rec_7 post σ x2 x3) ∧ (¬ (σ.1.1.2.2.1 (x3).toNatClampNeg) = (4 : Int32) → (vp_in x3 9000 ∧ wp_X12_step σ x2 (σ.1.1.2.2.2.1 (x3).toNatClampNeg) (fun r3 τ4 => ((r3 = 0 → wp_X12_runAll_59 rc rec_7 post τ4 x2 x3) ∧ (¬ r3 = 0 → rc 1 τ4 [x3, x2] (fun _ τ6 => wp_X12_runAll_59 rc rec_7 post τ6 x2 x3)))))))))))))))
def wp_X12_runAll_7 (rc : Nat → WSX12 → List Int32 → (Int32 → WSX12 → Prop) → Prop)  (post : WSX12 → Prop) (n : Nat) (σ : WSX12) (x2 : Int32) (x3 : Int32) : Prop := aw_loop (fun r (a : WSX12 × Int32 × Int32) => wb_X12_runAll_7 rc  post r a.1 a.2.1 a.2.2) n (σ, x2, x3)
theorem aw_X12_runAll_7 {G : aw_G} {d : Nat} (hd : 2 ≤ d) {dg : Nat} (hdg : dg + 1 ≤ d) {rc : Nat → WSX12 → List Int32 → (Int32 → WSX12 → Prop) → Prop} (hrc : ∀ (k : Nat) (σ : WSX12) (xs : List Int32) (po : Int32 → WSX12 → Prop), rc k σ xs po → AC G (Mg_ra k) dg 0 0 25 (.ref 0 :: xs.map .int) (wX12 G σ) (aw_pv (wX12 G) (fun τ => po 0 τ))) {post : WSX12 → Prop}  : ∀ (n : Nat) (σ : WSX12) (x2 : Int32) (x3 : Int32), wp_X12_runAll_7 rc  post n σ x2 x3 → AW G MX12_runAll d 0 0 25 (aw_pv (wX12 G) post) 7 [(0, .ref 0), (2, .int x2), (3, .int x3)] [] (wX12 G σ) := by
  intro n
  induction n with
  | zero => intro σ x2 x3 h; exact h.elim
  | succ n ih =>
    intro σ x2 x3 h
    have hrec_7 : ∀ a : WSX12 × Int32 × Int32, aw_loop (fun r (a : WSX12 × Int32 × Int32) => wb_X12_runAll_7 rc  post r a.1 a.2.1 a.2.2) n a → AW G MX12_runAll d 0 0 25 (aw_pv (wX12 G) post) 7 [(0, .ref 0), (2, .int a.2.1), (3, .int a.2.2)] [] (wX12 G a.1) := fun a h => ih a.1 a.2.1 a.2.2 h
    have h : wb_X12_runAll_7 rc  post (aw_loop (fun r (a : WSX12 × Int32 × Int32) => wb_X12_runAll_7 rc  post r a.1 a.2.1 a.2.2) n) σ x2 x3 := h
    unfold wb_X12_runAll_7 at h
    refine aw_iload_n 2 dX12_runAll_7 rfl rfl ?_
    refine aw_iconst (v := ((-1) : Int32)) dX12_runAll_8 (by decide) ?_
    refine aw_icmp_eq 69 dX12_runAll_9 (by decide) (fun c11 => ?_) (fun c11 => ?_)
    · have h := h.1 c11
      exact aw_vret rfl dX12_runAll_69 ⟨σ, rfl, rfl, h⟩
    · have h := h.2 c11
      refine aw_aload_n 0 dX12_runAll_12 rfl rfl ?_
      refine aw_getf (v := .int σ.2.2.1.1.2.1) fX12_254 0 rfl rfl dX12_runAll_13 ?_
      refine aw_if_ne 69 dX12_runAll_16 (by decide) (fun c10 => ?_) (fun c10 => ?_)
      · have h := h.1 c10
        exact aw_vret rfl dX12_runAll_69 ⟨σ, rfl, rfl, h⟩
      · have h := h.2 c10
        refine aw_aload_n 0 dX12_runAll_19 rfl rfl ?_
        refine aw_getf (v := .ref 5) fX12_22 0 rfl rfl dX12_runAll_20 ?_
        refine aw_iload_n 2 dX12_runAll_23 rfl rfl ?_
        refine aw_iald 5 (n := 9000) (f := σ.1.1.2.2.1) rfl h.1 dX12_runAll_24 ?_
        have h := h.2
        refine aw_iconst (v := (3 : Int32)) dX12_runAll_25 (by decide) ?_
        refine aw_icmp_eq 59 dX12_runAll_26 (by decide) (fun c9 => ?_) (fun c9 => ?_)
        · have h := h.1 c9
          exact aw_X12_runAll_59 hd hdg hrc hrec_7 h
        · have h := h.2 c9
          refine aw_aload_n 0 dX12_runAll_29 rfl rfl ?_
          refine aw_getf (v := .ref 5) fX12_22 0 rfl rfl dX12_runAll_30 ?_
          refine aw_iload_n 2 dX12_runAll_33 rfl rfl ?_
          refine aw_iald 5 (n := 9000) (f := σ.1.1.2.2.1) rfl h.1 dX12_runAll_34 ?_
          have h := h.2
          refine aw_iconst (v := (4 : Int32)) dX12_runAll_35 (by decide) ?_
          refine aw_icmp_eq 59 dX12_runAll_36 (by decide) (fun c8 => ?_) (fun c8 => ?_)
          · have h := h.1 c8
            exact aw_X12_runAll_59 hd hdg hrc hrec_7 h
          · have h := h.2 c8
            refine aw_aload_n 0 dX12_runAll_39 rfl rfl ?_
            refine aw_iload_n 1 dX12_runAll_40 rfl rfl ?_
            refine aw_aload_n 0 dX12_runAll_41 rfl rfl ?_
            refine aw_getf (v := .ref 6) fX12_25 0 rfl rfl dX12_runAll_42 ?_
            refine aw_iload_n 2 dX12_runAll_45 rfl rfl ?_
            refine aw_iald 6 (n := 9000) (f := σ.1.1.2.2.2.1) rfl h.1 dX12_runAll_46 ?_
            have h := h.2
            refine aw_callVT (mc1 := 0) (ms1 := 0) (mc := 0) (ms := 0) (st := []) (q := 0) (As := [.int x2, .int (σ.1.1.2.2.2.1 (x3).toNatClampNeg)]) lX12_285 insX12_step selX12_step ⟨TX12, 50, rfl⟩ (by omega) (kX12_step (d := 1) (by omega) h) (Nat.le_of_ble_eq_true rfl) rfl rfl rfl dX12_runAll_47 rfl (fun _ _ hh => ?_)
            obtain ⟨r3, τ4, rfl, rfl, h⟩ := hh
            refine aw_stk (st' := [.int r3]) rfl ?_
            refine aw_if_eq 59 dX12_runAll_50 (by decide) (fun c7 => ?_) (fun c7 => ?_)
            · have h := h.1 c7
              exact aw_X12_runAll_59 hd hdg hrc hrec_7 h
            · have h := h.2 c7
              refine aw_aload_n 0 dX12_runAll_53 rfl rfl ?_
              refine aw_iload_n 2 dX12_runAll_54 rfl rfl ?_
              refine aw_iload_n 1 dX12_runAll_55 rfl rfl ?_
              refine aw_callVT (mc1 := 0) (ms1 := 0) (mc := 0) (ms := 0) (st := []) (q := 0) (As := [.int x3, .int x2]) lX12_289 insX12_runOne selX12_runOne ⟨TX12, 50, rfl⟩ (by omega) (hrc 1 _ [x3, x2] _ h) (Nat.le_of_ble_eq_true rfl) rfl rfl rfl dX12_runAll_56 rfl (fun _ _ hh => ?_)
              obtain ⟨τ6, rfl, rfl, h⟩ := hh
              refine aw_stk (st' := []) rfl ?_
              exact aw_X12_runAll_59 hd hdg hrc hrec_7 h
def wp_X12_runAll (rc : Nat → WSX12 → List Int32 → (Int32 → WSX12 → Prop) → Prop) (σ : WSX12) (a1 : Int32) (a2 : Int32) (post : WSX12 → Prop) : Prop :=
  (vp_in a1 9000 ∧ (∀ y1 : Int32, y1 = (σ.1.1.2.2.2.2 (a1).toNatClampNeg) → (∃ n12, wp_X12_runAll_7 rc  post n12 σ a2 y1)))
theorem kX12_runAll {G : aw_G} {d : Nat} (hd : 2 ≤ d) {dg : Nat} (hdg : dg + 1 ≤ d) {rc : Nat → WSX12 → List Int32 → (Int32 → WSX12 → Prop) → Prop} (hrc : ∀ (k : Nat) (σ : WSX12) (xs : List Int32) (po : Int32 → WSX12 → Prop), rc k σ xs po → AC G (Mg_ra k) dg 0 0 25 (.ref 0 :: xs.map .int) (wX12 G σ) (aw_pv (wX12 G) (fun τ => po 0 τ))) {σ : WSX12} {a1 : Int32} {a2 : Int32} {post : WSX12 → Prop} (h : wp_X12_runAll rc σ a1 a2 post) : AC G MX12_runAll d 0 0 25 [.ref 0, .int a1, .int a2] (wX12 G σ) (aw_pv (wX12 G) post) := by
  refine AC.of (lv := [(0, .ref 0), (1, .int a1), (2, .int a2)]) (by decide) (Nat.le_of_ble_eq_true rfl) rfl ?_
  unfold wp_X12_runAll at h
  refine aw_aload_n 0 dX12_runAll_0 rfl rfl ?_
  refine aw_getf (v := .ref 7) fX12_28 0 rfl rfl dX12_runAll_1 ?_
  refine aw_iload_n 1 dX12_runAll_4 rfl rfl ?_
  refine aw_iald 7 (n := 9000) (f := σ.1.1.2.2.2.2) rfl h.1 dX12_runAll_5 ?_
  have h := h.2
  refine aw_topi (fun y1 ey1 => ?_)
  have h := h y1 ey1
  refine aw_istore_n (lv' := [(3, .int y1), (0, .ref 0), (1, .int a1), (2, .int a2)]) dX12_runAll_6 rfl (by decide) rfl ?_
  refine aw_lvsub (lv' := [(0, .ref 0), (2, .int a2), (3, .int y1)]) [1, 3, 0] rfl ?_
  obtain ⟨n12, h⟩ := h
  exact aw_X12_runAll_7 hd hdg hrc  n12 σ a2 y1 h
def wp_X12_runOne_224 (rc : Nat → WSX12 → List Int32 → (Int32 → WSX12 → Prop) → Prop)  (post : WSX12 → Prop) (σ : WSX12) (x7 : Int32) : Prop :=
  ((¬ σ.2.2.1.1.2.1 = 0 → post σ) ∧ (σ.2.2.1.1.2.1 = 0 → (vp_in σ.2.1.2.2.2.1 100 ∧ ∀ y6 : Nat → Int32, y6 = upd σ.2.1.2.2.1 (σ.2.1.2.2.2.1).toNatClampNeg x7 → (∀ y7 : Int32, y7 = (σ.2.1.2.2.2.1 + (1 : Int32)) → post (σ.1, ((σ.2.1.1, (σ.2.1.2.1, (y6, (y7, σ.2.1.2.2.2.2)))), σ.2.2))))))
theorem aw_X12_runOne_224 {G : aw_G} {d : Nat} (hd : 403 ≤ d) {dg : Nat} (hdg : dg + 1 ≤ d) {rc : Nat → WSX12 → List Int32 → (Int32 → WSX12 → Prop) → Prop} (hrc : ∀ (k : Nat) (σ : WSX12) (xs : List Int32) (po : Int32 → WSX12 → Prop), rc k σ xs po → AC G (Mg_ra k) dg 0 0 25 (.ref 0 :: xs.map .int) (wX12 G σ) (aw_pv (wX12 G) (fun τ => po 0 τ))) {post : WSX12 → Prop}  {σ : WSX12} {x7 : Int32} (h : wp_X12_runOne_224 rc  post σ x7) : AW G MX12_runOne d 0 0 25 (aw_pv (wX12 G) post) 224 [(0, .ref 0), (7, .int x7)] [] (wX12 G σ) := by
  unfold wp_X12_runOne_224 at h
  refine aw_aload_n 0 dX12_runOne_224 rfl rfl ?_
  refine aw_getf (v := .int σ.2.2.1.1.2.1) fX12_254 0 rfl rfl dX12_runOne_225 ?_
  refine aw_if_ne 377 dX12_runOne_228 (by decide) (fun c8 => ?_) (fun c8 => ?_)
  · have h := h.1 c8
    exact aw_vret rfl dX12_runOne_377 ⟨σ, rfl, rfl, h⟩
  · have h := h.2 c8
    refine aw_aload_n 0 dX12_runOne_231 rfl rfl ?_
    refine aw_getf (v := .ref 19) fX12_72 0 rfl rfl dX12_runOne_232 ?_
    refine aw_aload_n 0 dX12_runOne_235 rfl rfl ?_
    refine aw_getf (v := .int σ.2.1.2.2.2.1) fX12_292 0 rfl rfl dX12_runOne_236 ?_
    refine aw_iload 1 dX12_runOne_239 rfl ?_
    refine aw_iast 19 (n := 100) (f := σ.2.1.2.2.1) (w' := fun y6 => (wX12 G (σ.1, ((σ.2.1.1, (σ.2.1.2.1, (y6, σ.2.1.2.2.2))), σ.2.2)))) rfl h.1 (fun _ => rfl) dX12_runOne_241 (fun y6 ey6 => ?_)
    have h := h.2 y6 ey6
    refine aw_aload_n 0 dX12_runOne_242 rfl rfl ?_
    refine aw_dup dX12_runOne_243 rfl ?_
    refine aw_getf (v := .int σ.2.1.2.2.2.1) fX12_292 0 rfl rfl dX12_runOne_244 ?_
    refine aw_iconst (v := (1 : Int32)) dX12_runOne_247 (by decide) ?_
    refine aw_iadd dX12_runOne_248 ?_
    refine aw_topi (fun y7 ey7 => ?_)
    have h := h y7 ey7
    refine aw_putf fX12_292 0 (w' := (wX12 G (σ.1, ((σ.2.1.1, (σ.2.1.2.1, (y6, (y7, σ.2.1.2.2.2.2)))), σ.2.2)))) rfl (fun _ => ⟨rfl, rfl⟩) (Nat.le_of_ble_eq_true rfl) rfl dX12_runOne_249 ?_
    refine aw_goto 377 dX12_runOne_252 (by decide) ?_
    exact aw_vret rfl dX12_runOne_377 ⟨(σ.1, ((σ.2.1.1, (σ.2.1.2.1, (y6, (y7, σ.2.1.2.2.2.2)))), σ.2.2)), rfl, rfl, h⟩
def wb_X12_runOne_255 (rc : Nat → WSX12 → List Int32 → (Int32 → WSX12 → Prop) → Prop)  (post : WSX12 → Prop) (rec_255 : WSX12 × Int32 × Int32 × Int32 → Prop) (σ : WSX12) (x1 : Int32) (x2 : Int32) (x3 : Int32) : Prop :=
  (vp_in x1 9000 ∧ wp_X12_step σ x2 (σ.1.1.2.2.2.1 (x1).toNatClampNeg) (fun r14 τ15 => ((r14 = 0 → post τ15) ∧ (¬ r14 = 0 → (∃ n18, n18 ≤ 400 ∧ wg_ev n18 0 τ15 [x3] (fun r16 τ17 => ((r16 = 0 → post τ17) ∧ (¬ r16 = 0 → ((¬ τ17.2.2.1.1.2.1 = 0 → post τ17) ∧ (τ17.2.2.1.1.2.1 = 0 → (vp_in x3 9000 ∧ rc 0 τ17 [(τ17.1.2.1.1.1 (x3).toNatClampNeg), x2] (fun _ τ20 => rec_255 (τ20, x1, x2, x3)))))))))))))
def wp_X12_runOne_255 (rc : Nat → WSX12 → List Int32 → (Int32 → WSX12 → Prop) → Prop)  (post : WSX12 → Prop) (n : Nat) (σ : WSX12) (x1 : Int32) (x2 : Int32) (x3 : Int32) : Prop := aw_loop (fun r (a : WSX12 × Int32 × Int32 × Int32) => wb_X12_runOne_255 rc  post r a.1 a.2.1 a.2.2.1 a.2.2.2) n (σ, x1, x2, x3)
theorem aw_X12_runOne_255 {G : aw_G} {d : Nat} (hd : 403 ≤ d) {dg : Nat} (hdg : dg + 1 ≤ d) {rc : Nat → WSX12 → List Int32 → (Int32 → WSX12 → Prop) → Prop} (hrc : ∀ (k : Nat) (σ : WSX12) (xs : List Int32) (po : Int32 → WSX12 → Prop), rc k σ xs po → AC G (Mg_ra k) dg 0 0 25 (.ref 0 :: xs.map .int) (wX12 G σ) (aw_pv (wX12 G) (fun τ => po 0 τ))) {post : WSX12 → Prop}  : ∀ (n : Nat) (σ : WSX12) (x1 : Int32) (x2 : Int32) (x3 : Int32), wp_X12_runOne_255 rc  post n σ x1 x2 x3 → AW G MX12_runOne d 0 0 25 (aw_pv (wX12 G) post) 255 [(0, .ref 0), (1, .int x1), (2, .int x2), (3, .int x3)] [] (wX12 G σ) := by
  intro n
  induction n with
  | zero => intro σ x1 x2 x3 h; exact h.elim
  | succ n ih =>
    intro σ x1 x2 x3 h
    have hrec_255 : ∀ a : WSX12 × Int32 × Int32 × Int32, aw_loop (fun r (a : WSX12 × Int32 × Int32 × Int32) => wb_X12_runOne_255 rc  post r a.1 a.2.1 a.2.2.1 a.2.2.2) n a → AW G MX12_runOne d 0 0 25 (aw_pv (wX12 G) post) 255 [(0, .ref 0), (1, .int a.2.1), (2, .int a.2.2.1), (3, .int a.2.2.2)] [] (wX12 G a.1) := fun a h => ih a.1 a.2.1 a.2.2.1 a.2.2.2 h
    have h : wb_X12_runOne_255 rc  post (aw_loop (fun r (a : WSX12 × Int32 × Int32 × Int32) => wb_X12_runOne_255 rc  post r a.1 a.2.1 a.2.2.1 a.2.2.2) n) σ x1 x2 x3 := h
    unfold wb_X12_runOne_255 at h
    refine aw_aload_n 0 dX12_runOne_255 rfl rfl ?_
    refine aw_iload_n 2 dX12_runOne_256 rfl rfl ?_
    refine aw_aload_n 0 dX12_runOne_257 rfl rfl ?_
    refine aw_getf (v := .ref 6) fX12_25 0 rfl rfl dX12_runOne_258 ?_
    refine aw_iload_n 1 dX12_runOne_261 rfl rfl ?_
    refine aw_iald 6 (n := 9000) (f := σ.1.1.2.2.2.1) rfl h.1 dX12_runOne_262 ?_
    have h := h.2
    refine aw_callVT (mc1 := 0) (ms1 := 0) (mc := 0) (ms := 0) (st := []) (q := 0) (As := [.int x2, .int (σ.1.1.2.2.2.1 (x1).toNatClampNeg)]) lX12_285 insX12_step selX12_step ⟨TX12, 50, rfl⟩ (by omega) (kX12_step (d := 1) (by omega) h) (Nat.le_of_ble_eq_true rfl) rfl rfl rfl dX12_runOne_263 rfl (fun _ _ hh => ?_)
    obtain ⟨r14, τ15, rfl, rfl, h⟩ := hh
    refine aw_stk (st' := [.int r14]) rfl ?_
    refine aw_if_eq 377 dX12_runOne_266 (by decide) (fun c23 => ?_) (fun c23 => ?_)
    · have h := h.1 c23
      exact aw_vret rfl dX12_runOne_377 ⟨τ15, rfl, rfl, h⟩
    · have h := h.2 c23
      refine aw_aload_n 0 dX12_runOne_269 rfl rfl ?_
      refine aw_iload_n 3 dX12_runOne_270 rfl rfl ?_
      obtain ⟨n18, hn18, h⟩ := h
      refine aw_callVT (mc1 := 0) (ms1 := 0) (mc := 0) (ms := 0) (st := []) (q := 0) (As := [.int x3]) lX12_269 insX12_eval selX12_eval ⟨TX12, 50, rfl⟩ (by omega) (kg_ev n18 0 _ [x3] _ h) (Nat.le_of_ble_eq_true rfl) rfl rfl rfl dX12_runOne_271 rfl (fun _ _ hh => ?_)
      obtain ⟨r16, τ17, rfl, rfl, h⟩ := hh
      refine aw_stk (st' := [.int r16]) rfl ?_
      refine aw_if_eq 377 dX12_runOne_274 (by decide) (fun c22 => ?_) (fun c22 => ?_)
      · have h := h.1 c22
        exact aw_vret rfl dX12_runOne_377 ⟨τ17, rfl, rfl, h⟩
      · have h := h.2 c22
        refine aw_aload_n 0 dX12_runOne_277 rfl rfl ?_
        refine aw_getf (v := .int τ17.2.2.1.1.2.1) fX12_254 0 rfl rfl dX12_runOne_278 ?_
        refine aw_if_ne 377 dX12_runOne_281 (by decide) (fun c21 => ?_) (fun c21 => ?_)
        · have h := h.1 c21
          exact aw_vret rfl dX12_runOne_377 ⟨τ17, rfl, rfl, h⟩
        · have h := h.2 c21
          refine aw_aload_n 0 dX12_runOne_284 rfl rfl ?_
          refine aw_aload_n 0 dX12_runOne_285 rfl rfl ?_
          refine aw_getf (v := .ref 8) fX12_31 0 rfl rfl dX12_runOne_286 ?_
          refine aw_iload_n 3 dX12_runOne_289 rfl rfl ?_
          refine aw_iald 8 (n := 9000) (f := τ17.1.2.1.1.1) rfl h.1 dX12_runOne_290 ?_
          have h := h.2
          refine aw_iload_n 2 dX12_runOne_291 rfl rfl ?_
          refine aw_callVT (mc1 := 0) (ms1 := 0) (mc := 0) (ms := 0) (st := []) (q := 0) (As := [.int (τ17.1.2.1.1.1 (x3).toNatClampNeg), .int x2]) lX12_295 insX12_runAll selX12_runAll ⟨TX12, 50, rfl⟩ (by omega) (hrc 0 _ [(τ17.1.2.1.1.1 (x3).toNatClampNeg), x2] _ h) (Nat.le_of_ble_eq_true rfl) rfl rfl rfl dX12_runOne_292 rfl (fun _ _ hh => ?_)
          obtain ⟨τ20, rfl, rfl, h⟩ := hh
          refine aw_stk (st' := []) rfl ?_
          refine aw_goto 255 dX12_runOne_295 (by decide) ?_
          exact hrec_255 (τ20, x1, x2, x3) h
def wp_X12_runOne_142 (rc : Nat → WSX12 → List Int32 → (Int32 → WSX12 → Prop) → Prop)  (post : WSX12 → Prop) (σ : WSX12) (x1 : Int32) (x3 : Int32) (x5 : Int32) : Prop :=
  (vp_in x3 9000 ∧ (vp_in (σ.1.2.1.1.1 (x3).toNatClampNeg) 9000 ∧ (∃ n37, n37 ≤ 400 ∧ wg_ev n37 0 σ [(σ.1.2.1.1.1 ((σ.1.2.1.1.1 (x3).toNatClampNeg)).toNatClampNeg)] (fun r35 τ36 => ((¬ τ36.2.2.1.1.2.1 = 0 → post τ36) ∧ (τ36.2.2.1.1.2.1 = 0 → (vp_in x1 9000 ∧ (vp_in (τ36.1.2.1.1.2.2 (x1).toNatClampNeg) 1500 ∧ (vp_in ((τ36.1.2.2.1.1 ((τ36.1.2.1.1.2.2 (x1).toNatClampNeg)).toNatClampNeg) + x5) 200 ∧ ∀ y38 : Nat → Int32, y38 = upd τ36.2.1.2.1.2.2 (((τ36.1.2.2.1.1 ((τ36.1.2.1.1.2.2 (x1).toNatClampNeg)).toNatClampNeg) + x5)).toNatClampNeg r35 → post (τ36.1, ((τ36.2.1.1, ((τ36.2.1.2.1.1, (τ36.2.1.2.1.2.1, y38)), τ36.2.1.2.2)), τ36.2.2)))))))))))
theorem aw_X12_runOne_142 {G : aw_G} {d : Nat} (hd : 403 ≤ d) {dg : Nat} (hdg : dg + 1 ≤ d) {rc : Nat → WSX12 → List Int32 → (Int32 → WSX12 → Prop) → Prop} (hrc : ∀ (k : Nat) (σ : WSX12) (xs : List Int32) (po : Int32 → WSX12 → Prop), rc k σ xs po → AC G (Mg_ra k) dg 0 0 25 (.ref 0 :: xs.map .int) (wX12 G σ) (aw_pv (wX12 G) (fun τ => po 0 τ))) {post : WSX12 → Prop}  {σ : WSX12} {x1 : Int32} {x3 : Int32} {x5 : Int32} (h : wp_X12_runOne_142 rc  post σ x1 x3 x5) : AW G MX12_runOne d 0 0 25 (aw_pv (wX12 G) post) 142 [(0, .ref 0), (1, .int x1), (3, .int x3), (5, .int x5)] [] (wX12 G σ) := by
  unfold wp_X12_runOne_142 at h
  refine aw_aload_n 0 dX12_runOne_142 rfl rfl ?_
  refine aw_aload_n 0 dX12_runOne_143 rfl rfl ?_
  refine aw_getf (v := .ref 8) fX12_31 0 rfl rfl dX12_runOne_144 ?_
  refine aw_aload_n 0 dX12_runOne_147 rfl rfl ?_
  refine aw_getf (v := .ref 8) fX12_31 0 rfl rfl dX12_runOne_148 ?_
  refine aw_iload_n 2 dX12_runOne_151 rfl rfl ?_
  refine aw_iald 8 (n := 9000) (f := σ.1.2.1.1.1) rfl h.1 dX12_runOne_152 ?_
  have h := h.2
  refine aw_iald 8 (n := 9000) (f := σ.1.2.1.1.1) rfl h.1 dX12_runOne_153 ?_
  have h := h.2
  obtain ⟨n37, hn37, h⟩ := h
  refine aw_callVT (mc1 := 0) (ms1 := 0) (mc := 0) (ms := 0) (st := []) (q := 0) (As := [.int (σ.1.2.1.1.1 ((σ.1.2.1.1.1 (x3).toNatClampNeg)).toNatClampNeg)]) lX12_269 insX12_eval selX12_eval ⟨TX12, 50, rfl⟩ (by omega) (kg_ev n37 0 _ [(σ.1.2.1.1.1 ((σ.1.2.1.1.1 (x3).toNatClampNeg)).toNatClampNeg)] _ h) (Nat.le_of_ble_eq_true rfl) rfl rfl rfl dX12_runOne_154 rfl (fun _ _ hh => ?_)
  obtain ⟨r35, τ36, rfl, rfl, h⟩ := hh
  refine aw_stk (st' := [.int r35]) rfl ?_
  refine aw_istore (lv' := [(6, .int r35), (0, .ref 0), (1, .int x1), (3, .int x3), (5, .int x5)]) dX12_runOne_157 (by decide) rfl ?_
  refine aw_aload_n 1 dX12_runOne_159 rfl rfl ?_
  refine aw_getf (v := .int τ36.2.2.1.1.2.1) fX12_254 0 rfl rfl dX12_runOne_160 ?_
  refine aw_if_ne 377 dX12_runOne_163 (by decide) (fun c39 => ?_) (fun c39 => ?_)
  · have h := h.1 c39
    exact aw_vret rfl dX12_runOne_377 ⟨τ36, rfl, rfl, h⟩
  · have h := h.2 c39
    refine aw_aload_n 1 dX12_runOne_166 rfl rfl ?_
    refine aw_getf (v := .ref 18) fX12_69 0 rfl rfl dX12_runOne_167 ?_
    refine aw_aload_n 1 dX12_runOne_170 rfl rfl ?_
    refine aw_getf (v := .ref 13) fX12_47 0 rfl rfl dX12_runOne_171 ?_
    refine aw_aload_n 1 dX12_runOne_174 rfl rfl ?_
    refine aw_getf (v := .ref 10) fX12_38 0 rfl rfl dX12_runOne_175 ?_
    refine aw_iload_n 2 dX12_runOne_178 rfl rfl ?_
    refine aw_iald 10 (n := 9000) (f := τ36.1.2.1.1.2.2) rfl h.1 dX12_runOne_179 ?_
    have h := h.2
    refine aw_iald 13 (n := 1500) (f := τ36.1.2.2.1.1) rfl h.1 dX12_runOne_180 ?_
    have h := h.2
    refine aw_iload 4 dX12_runOne_181 rfl ?_
    refine aw_iadd dX12_runOne_183 ?_
    refine aw_iload 0 dX12_runOne_184 rfl ?_
    refine aw_iast 18 (n := 200) (f := τ36.2.1.2.1.2.2) (w' := fun y38 => (wX12 G (τ36.1, ((τ36.2.1.1, ((τ36.2.1.2.1.1, (τ36.2.1.2.1.2.1, y38)), τ36.2.1.2.2)), τ36.2.2)))) rfl h.1 (fun _ => rfl) dX12_runOne_186 (fun y38 ey38 => ?_)
    have h := h.2 y38 ey38
    refine aw_goto 377 dX12_runOne_187 (by decide) ?_
    exact aw_vret rfl dX12_runOne_377 ⟨(τ36.1, ((τ36.2.1.1, ((τ36.2.1.2.1.1, (τ36.2.1.2.1.2.1, y38)), τ36.2.1.2.2)), τ36.2.2)), rfl, rfl, h⟩
def wp_X12_runOne_131 (rc : Nat → WSX12 → List Int32 → (Int32 → WSX12 → Prop) → Prop)  (post : WSX12 → Prop) (σ : WSX12) (x1 : Int32) (x3 : Int32) (x5 : Int32) : Prop :=
  (vp_in x3 9000 ∧ wp_X12_stop σ (1 : Int32) (σ.1.1.2.2.2.1 (x3).toNatClampNeg) (fun τ41 => wp_X12_runOne_142 rc  post τ41 x1 x3 x5))
theorem aw_X12_runOne_131 {G : aw_G} {d : Nat} (hd : 403 ≤ d) {dg : Nat} (hdg : dg + 1 ≤ d) {rc : Nat → WSX12 → List Int32 → (Int32 → WSX12 → Prop) → Prop} (hrc : ∀ (k : Nat) (σ : WSX12) (xs : List Int32) (po : Int32 → WSX12 → Prop), rc k σ xs po → AC G (Mg_ra k) dg 0 0 25 (.ref 0 :: xs.map .int) (wX12 G σ) (aw_pv (wX12 G) (fun τ => po 0 τ))) {post : WSX12 → Prop}  {σ : WSX12} {x1 : Int32} {x3 : Int32} {x5 : Int32} (h : wp_X12_runOne_131 rc  post σ x1 x3 x5) : AW G MX12_runOne d 0 0 25 (aw_pv (wX12 G) post) 131 [(0, .ref 0), (1, .int x1), (3, .int x3), (5, .int x5)] [] (wX12 G σ) := by
  unfold wp_X12_runOne_131 at h
  refine aw_aload_n 0 dX12_runOne_131 rfl rfl ?_
  refine aw_iconst (v := (1 : Int32)) dX12_runOne_132 (by decide) ?_
  refine aw_aload_n 0 dX12_runOne_133 rfl rfl ?_
  refine aw_getf (v := .ref 6) fX12_25 0 rfl rfl dX12_runOne_134 ?_
  refine aw_iload_n 2 dX12_runOne_137 rfl rfl ?_
  refine aw_iald 6 (n := 9000) (f := σ.1.1.2.2.2.1) rfl h.1 dX12_runOne_138 ?_
  have h := h.2
  refine aw_callVT (mc1 := 0) (ms1 := 0) (mc := 0) (ms := 0) (st := []) (q := 0) (As := [.int (1 : Int32), .int (σ.1.1.2.2.2.1 (x3).toNatClampNeg)]) lX12_276 insX12_stop selX12_stop ⟨TX12, 50, rfl⟩ (by omega) (kX12_stop (d := 0) (by omega) h) (Nat.le_of_ble_eq_true rfl) rfl rfl rfl dX12_runOne_139 rfl (fun _ _ hh => ?_)
  obtain ⟨τ41, rfl, rfl, h⟩ := hh
  refine aw_stk (st' := []) rfl ?_
  exact aw_X12_runOne_142 hd hdg hrc  h
def wp_X12_runOne_374 (rc : Nat → WSX12 → List Int32 → (Int32 → WSX12 → Prop) → Prop)  (post : WSX12 → Prop) (σ : WSX12) (s0 : Int32) (s1 : Int32) : Prop :=
  rc 0 σ [s1, s0] (fun _ τ49 => post τ49)
theorem aw_X12_runOne_374 {G : aw_G} {d : Nat} (hd : 403 ≤ d) {dg : Nat} (hdg : dg + 1 ≤ d) {rc : Nat → WSX12 → List Int32 → (Int32 → WSX12 → Prop) → Prop} (hrc : ∀ (k : Nat) (σ : WSX12) (xs : List Int32) (po : Int32 → WSX12 → Prop), rc k σ xs po → AC G (Mg_ra k) dg 0 0 25 (.ref 0 :: xs.map .int) (wX12 G σ) (aw_pv (wX12 G) (fun τ => po 0 τ))) {post : WSX12 → Prop}  {σ : WSX12} {s0 : Int32} {s1 : Int32} (h : wp_X12_runOne_374 rc  post σ s0 s1) : AW G MX12_runOne d 0 0 25 (aw_pv (wX12 G) post) 374 [] [.int s0, .int s1, .ref 0] (wX12 G σ) := by
  unfold wp_X12_runOne_374 at h
  refine aw_callVT (mc1 := 0) (ms1 := 0) (mc := 0) (ms := 0) (st := []) (q := 0) (As := [.int s1, .int s0]) lX12_295 insX12_runAll selX12_runAll ⟨TX12, 50, rfl⟩ (by omega) (hrc 0 _ [s1, s0] _ h) (Nat.le_of_ble_eq_true rfl) rfl rfl rfl dX12_runOne_374 rfl (fun _ _ hh => ?_)
  obtain ⟨τ49, rfl, rfl, h⟩ := hh
  refine aw_stk (st' := []) rfl ?_
  exact aw_vret rfl dX12_runOne_377 ⟨τ49, rfl, rfl, h⟩
def wp_X12_runOne_369 (rc : Nat → WSX12 → List Int32 → (Int32 → WSX12 → Prop) → Prop)  (post : WSX12 → Prop) (σ : WSX12) (s0 : Int32) : Prop :=
  wp_X12_runOne_374 rc  post σ (1 : Int32) s0
theorem aw_X12_runOne_369 {G : aw_G} {d : Nat} (hd : 403 ≤ d) {dg : Nat} (hdg : dg + 1 ≤ d) {rc : Nat → WSX12 → List Int32 → (Int32 → WSX12 → Prop) → Prop} (hrc : ∀ (k : Nat) (σ : WSX12) (xs : List Int32) (po : Int32 → WSX12 → Prop), rc k σ xs po → AC G (Mg_ra k) dg 0 0 25 (.ref 0 :: xs.map .int) (wX12 G σ) (aw_pv (wX12 G) (fun τ => po 0 τ))) {post : WSX12 → Prop}  {σ : WSX12} {s0 : Int32} (h : wp_X12_runOne_369 rc  post σ s0) : AW G MX12_runOne d 0 0 25 (aw_pv (wX12 G) post) 369 [] [.int s0, .ref 0] (wX12 G σ) := by
  unfold wp_X12_runOne_369 at h
  refine aw_iconst (v := (1 : Int32)) dX12_runOne_369 (by decide) ?_
  refine aw_goto 374 dX12_runOne_370 (by decide) ?_
  exact aw_X12_runOne_374 hd hdg hrc  h
def wp_X12_runOne_338 (rc : Nat → WSX12 → List Int32 → (Int32 → WSX12 → Prop) → Prop)  (post : WSX12 → Prop) (σ : WSX12) (x1 : Int32) (x2 : Int32) (s0 : Int32) : Prop :=
  ((¬ σ.2.2.1.1.2.1 = 0 → post σ) ∧ (σ.2.2.1.1.2.1 = 0 → ((s0 = ((-1) : Int32) → post σ) ∧ (¬ s0 = ((-1) : Int32) → ((¬ x2 = 0 → wp_X12_runOne_369 rc  post σ s0) ∧ (x2 = 0 → (vp_in x1 9000 ∧ (((σ.1.2.1.1.2.1 (x1).toNatClampNeg) = 0 → wp_X12_runOne_374 rc  post σ (0 : Int32) s0) ∧ (¬ (σ.1.2.1.1.2.1 (x1).toNatClampNeg) = 0 → wp_X12_runOne_369 rc  post σ s0)))))))))
theorem aw_X12_runOne_338 {G : aw_G} {d : Nat} (hd : 403 ≤ d) {dg : Nat} (hdg : dg + 1 ≤ d) {rc : Nat → WSX12 → List Int32 → (Int32 → WSX12 → Prop) → Prop} (hrc : ∀ (k : Nat) (σ : WSX12) (xs : List Int32) (po : Int32 → WSX12 → Prop), rc k σ xs po → AC G (Mg_ra k) dg 0 0 25 (.ref 0 :: xs.map .int) (wX12 G σ) (aw_pv (wX12 G) (fun τ => po 0 τ))) {post : WSX12 → Prop}  {σ : WSX12} {x1 : Int32} {x2 : Int32} {s0 : Int32} (h : wp_X12_runOne_338 rc  post σ x1 x2 s0) : AW G MX12_runOne d 0 0 25 (aw_pv (wX12 G) post) 338 [(0, .ref 0), (1, .int x1), (2, .int x2)] [.int s0] (wX12 G σ) := by
  unfold wp_X12_runOne_338 at h
  refine aw_istore (lv' := [(9, .int s0), (0, .ref 0), (1, .int x1), (2, .int x2)]) dX12_runOne_338 (by decide) rfl ?_
  refine aw_aload_n 1 dX12_runOne_340 rfl rfl ?_
  refine aw_getf (v := .int σ.2.2.1.1.2.1) fX12_254 0 rfl rfl dX12_runOne_341 ?_
  refine aw_if_ne 377 dX12_runOne_344 (by decide) (fun c53 => ?_) (fun c53 => ?_)
  · have h := h.1 c53
    exact aw_vret rfl dX12_runOne_377 ⟨σ, rfl, rfl, h⟩
  · have h := h.2 c53
    refine aw_iload 0 dX12_runOne_347 rfl ?_
    refine aw_iconst (v := ((-1) : Int32)) dX12_runOne_349 (by decide) ?_
    refine aw_icmp_eq 377 dX12_runOne_350 (by decide) (fun c52 => ?_) (fun c52 => ?_)
    · have h := h.1 c52
      exact aw_vret rfl dX12_runOne_377 ⟨σ, rfl, rfl, h⟩
    · have h := h.2 c52
      refine aw_aload_n 1 dX12_runOne_353 rfl rfl ?_
      refine aw_iload 0 dX12_runOne_354 rfl ?_
      refine aw_iload_n 3 dX12_runOne_356 rfl rfl ?_
      refine aw_if_ne 369 dX12_runOne_357 (by decide) (fun c51 => ?_) (fun c51 => ?_)
      · have h := h.1 c51
        refine aw_lvsub (lv' := []) [] rfl ?_
        exact aw_X12_runOne_369 hd hdg hrc  h
      · have h := h.2 c51
        refine aw_aload_n 1 dX12_runOne_360 rfl rfl ?_
        refine aw_getf (v := .ref 9) fX12_34 0 rfl rfl dX12_runOne_361 ?_
        refine aw_iload_n 2 dX12_runOne_364 rfl rfl ?_
        refine aw_zald 9 (n := 9000) (f := σ.1.2.1.1.2.1) rfl h.1 dX12_runOne_365 ?_
        have h := h.2
        refine aw_if_eq 373 dX12_runOne_366 (by decide) (fun c50 => ?_) (fun c50 => ?_)
        · have h := h.1 c50
          refine aw_iconst (v := (0 : Int32)) dX12_runOne_373 (by decide) ?_
          refine aw_lvsub (lv' := []) [] rfl ?_
          exact aw_X12_runOne_374 hd hdg hrc  h
        · have h := h.2 c50
          refine aw_lvsub (lv' := []) [] rfl ?_
          exact aw_X12_runOne_369 hd hdg hrc  h
def wp_X12_runOne_311 (rc : Nat → WSX12 → List Int32 → (Int32 → WSX12 → Prop) → Prop)  (post : WSX12 → Prop) (σ : WSX12) (x1 : Int32) (x2 : Int32) (x3 : Int32) (s0 : Int32) : Prop :=
  ((s0 = 0 → (vp_in x3 9000 ∧ (vp_in (σ.1.2.1.1.1 (x3).toNatClampNeg) 9000 ∧ wp_X12_runOne_338 rc  post σ x1 x2 (σ.1.2.1.1.1 ((σ.1.2.1.1.1 (x3).toNatClampNeg)).toNatClampNeg)))) ∧ (¬ s0 = 0 → (vp_in x3 9000 ∧ wp_X12_runOne_338 rc  post σ x1 x2 (σ.1.2.1.1.1 (x3).toNatClampNeg))))
theorem aw_X12_runOne_311 {G : aw_G} {d : Nat} (hd : 403 ≤ d) {dg : Nat} (hdg : dg + 1 ≤ d) {rc : Nat → WSX12 → List Int32 → (Int32 → WSX12 → Prop) → Prop} (hrc : ∀ (k : Nat) (σ : WSX12) (xs : List Int32) (po : Int32 → WSX12 → Prop), rc k σ xs po → AC G (Mg_ra k) dg 0 0 25 (.ref 0 :: xs.map .int) (wX12 G σ) (aw_pv (wX12 G) (fun τ => po 0 τ))) {post : WSX12 → Prop}  {σ : WSX12} {x1 : Int32} {x2 : Int32} {x3 : Int32} {s0 : Int32} (h : wp_X12_runOne_311 rc  post σ x1 x2 x3 s0) : AW G MX12_runOne d 0 0 25 (aw_pv (wX12 G) post) 311 [(0, .ref 0), (1, .int x1), (2, .int x2), (3, .int x3)] [.int s0] (wX12 G σ) := by
  unfold wp_X12_runOne_311 at h
  refine aw_istore (lv' := [(8, .int s0), (0, .ref 0), (1, .int x1), (2, .int x2), (3, .int x3)]) dX12_runOne_311 (by decide) rfl ?_
  refine aw_iload 0 dX12_runOne_313 rfl ?_
  refine aw_if_eq 327 dX12_runOne_315 (by decide) (fun c54 => ?_) (fun c54 => ?_)
  · have h := h.1 c54
    refine aw_aload_n 1 dX12_runOne_327 rfl rfl ?_
    refine aw_getf (v := .ref 8) fX12_31 0 rfl rfl dX12_runOne_328 ?_
    refine aw_aload_n 1 dX12_runOne_331 rfl rfl ?_
    refine aw_getf (v := .ref 8) fX12_31 0 rfl rfl dX12_runOne_332 ?_
    refine aw_iload_n 4 dX12_runOne_335 rfl rfl ?_
    refine aw_iald 8 (n := 9000) (f := σ.1.2.1.1.1) rfl h.1 dX12_runOne_336 ?_
    have h := h.2
    refine aw_iald 8 (n := 9000) (f := σ.1.2.1.1.1) rfl h.1 dX12_runOne_337 ?_
    have h := h.2
    refine aw_lvsub (lv' := [(0, .ref 0), (1, .int x1), (2, .int x2)]) [1, 2, 3] rfl ?_
    exact aw_X12_runOne_338 hd hdg hrc  h
  · have h := h.2 c54
    refine aw_aload_n 1 dX12_runOne_318 rfl rfl ?_
    refine aw_getf (v := .ref 8) fX12_31 0 rfl rfl dX12_runOne_319 ?_
    refine aw_iload_n 4 dX12_runOne_322 rfl rfl ?_
    refine aw_iald 8 (n := 9000) (f := σ.1.2.1.1.1) rfl h.1 dX12_runOne_323 ?_
    have h := h.2
    refine aw_goto 338 dX12_runOne_324 (by decide) ?_
    refine aw_lvsub (lv' := [(0, .ref 0), (1, .int x1), (2, .int x2)]) [1, 2, 3] rfl ?_
    exact aw_X12_runOne_338 hd hdg hrc  h
def wp_X12_runOne (rc : Nat → WSX12 → List Int32 → (Int32 → WSX12 → Prop) → Prop) (σ : WSX12) (a1 : Int32) (a2 : Int32) (post : WSX12 → Prop) : Prop :=
  (vp_in a1 9000 ∧ (∀ y1 : Int32, y1 = (σ.1.1.2.2.2.2 (a1).toNatClampNeg) → (vp_in a1 9000 ∧ (((σ.1.1.2.2.1 (a1).toNatClampNeg) = (6 : Int32) → (∃ n5, n5 ≤ 400 ∧ wg_ev n5 0 σ [y1] (fun r3 τ4 => ((¬ τ4.2.2.1.1.2.1 = 0 → wp_X12_runOne_224 rc  post τ4 r3) ∧ (τ4.2.2.1.1.2.1 = 0 → ((¬ τ4.2.1.2.2.2.1 = (100 : Int32) → wp_X12_runOne_224 rc  post τ4 r3) ∧ (τ4.2.1.2.2.2.1 = (100 : Int32) → (vp_in a1 9000 ∧ wp_X12_stop τ4 (3 : Int32) (τ4.1.1.2.2.2.1 (a1).toNatClampNeg) (fun τ10 => wp_X12_runOne_224 rc  post τ10 r3))))))))) ∧ (¬ (σ.1.1.2.2.1 (a1).toNatClampNeg) = (6 : Int32) → (((σ.1.1.2.2.1 (a1).toNatClampNeg) = (9 : Int32) → (∃ n24, wp_X12_runOne_255 rc  post n24 σ a1 a2 y1)) ∧ (¬ (σ.1.1.2.2.1 (a1).toNatClampNeg) = (9 : Int32) → (((σ.1.1.2.2.1 (a1).toNatClampNeg) = (300 : Int32) → (∃ n28, n28 ≤ 400 ∧ wg_ev n28 0 σ [y1] (fun r26 τ27 => ((¬ τ27.2.2.1.1.2.1 = 0 → post τ27) ∧ (τ27.2.2.1.1.2.1 = 0 → (vp_in a1 9000 ∧ (vp_in (τ27.1.2.1.1.2.2 (a1).toNatClampNeg) 1500 ∧ (vp_in (τ27.1.2.2.1.1 ((τ27.1.2.1.1.2.2 (a1).toNatClampNeg)).toNatClampNeg) 200 ∧ ∀ y29 : Nat → Int32, y29 = upd τ27.2.1.2.1.2.2 ((τ27.1.2.2.1.1 ((τ27.1.2.1.1.2.2 (a1).toNatClampNeg)).toNatClampNeg)).toNatClampNeg r26 → post (τ27.1, ((τ27.2.1.1, ((τ27.2.1.2.1.1, (τ27.2.1.2.1.2.1, y29)), τ27.2.1.2.2)), τ27.2.2)))))))))) ∧ (¬ (σ.1.1.2.2.1 (a1).toNatClampNeg) = (300 : Int32) → (((σ.1.1.2.2.1 (a1).toNatClampNeg) = (301 : Int32) → (vp_in y1 9000 ∧ (∃ n34, n34 ≤ 400 ∧ wg_ev n34 0 σ [(σ.1.2.1.1.1 (y1).toNatClampNeg)] (fun r32 τ33 => ((¬ τ33.2.2.1.1.2.1 = 0 → wp_X12_runOne_142 rc  post τ33 a1 y1 r32) ∧ (τ33.2.2.1.1.2.1 = 0 → ((r32 < 0 → wp_X12_runOne_131 rc  post τ33 a1 y1 r32) ∧ (¬ r32 < 0 → (vp_in a1 9000 ∧ (vp_in (τ33.1.2.1.1.2.2 (a1).toNatClampNeg) 1500 ∧ ((r32 < (τ33.1.2.1.2.2.2 ((τ33.1.2.1.1.2.2 (a1).toNatClampNeg)).toNatClampNeg) → wp_X12_runOne_142 rc  post τ33 a1 y1 r32) ∧ (¬ r32 < (τ33.1.2.1.2.2.2 ((τ33.1.2.1.1.2.2 (a1).toNatClampNeg)).toNatClampNeg) → wp_X12_runOne_131 rc  post τ33 a1 y1 r32)))))))))))) ∧ (¬ (σ.1.1.2.2.1 (a1).toNatClampNeg) = (301 : Int32) → (∃ n47, n47 ≤ 400 ∧ wg_ev n47 0 σ [y1] (fun r45 τ46 => ((r45 = 0 → wp_X12_runOne_311 rc  post τ46 a1 a2 y1 (0 : Int32)) ∧ (¬ r45 = 0 → wp_X12_runOne_311 rc  post τ46 a1 a2 y1 (1 : Int32))))))))))))))))
theorem kX12_runOne {G : aw_G} {d : Nat} (hd : 403 ≤ d) {dg : Nat} (hdg : dg + 1 ≤ d) {rc : Nat → WSX12 → List Int32 → (Int32 → WSX12 → Prop) → Prop} (hrc : ∀ (k : Nat) (σ : WSX12) (xs : List Int32) (po : Int32 → WSX12 → Prop), rc k σ xs po → AC G (Mg_ra k) dg 0 0 25 (.ref 0 :: xs.map .int) (wX12 G σ) (aw_pv (wX12 G) (fun τ => po 0 τ))) {σ : WSX12} {a1 : Int32} {a2 : Int32} {post : WSX12 → Prop} (h : wp_X12_runOne rc σ a1 a2 post) : AC G MX12_runOne d 0 0 25 [.ref 0, .int a1, .int a2] (wX12 G σ) (aw_pv (wX12 G) post) := by
  refine AC.of (lv := [(0, .ref 0), (1, .int a1), (2, .int a2)]) (by decide) (Nat.le_of_ble_eq_true rfl) rfl ?_
  unfold wp_X12_runOne at h
  refine aw_aload_n 0 dX12_runOne_0 rfl rfl ?_
  refine aw_getf (v := .ref 7) fX12_28 0 rfl rfl dX12_runOne_1 ?_
  refine aw_iload_n 1 dX12_runOne_4 rfl rfl ?_
  refine aw_iald 7 (n := 9000) (f := σ.1.1.2.2.2.2) rfl h.1 dX12_runOne_5 ?_
  have h := h.2
  refine aw_topi (fun y1 ey1 => ?_)
  have h := h y1 ey1
  refine aw_istore_n (lv' := [(3, .int y1), (0, .ref 0), (1, .int a1), (2, .int a2)]) dX12_runOne_6 rfl (by decide) rfl ?_
  refine aw_aload_n 1 dX12_runOne_7 rfl rfl ?_
  refine aw_getf (v := .ref 5) fX12_22 0 rfl rfl dX12_runOne_8 ?_
  refine aw_iload_n 2 dX12_runOne_11 rfl rfl ?_
  refine aw_iald 5 (n := 9000) (f := σ.1.1.2.2.1) rfl h.1 dX12_runOne_12 ?_
  have h := h.2
  by_cases c2 : (σ.1.1.2.2.1 (a1).toNatClampNeg) = (6 : Int32)
  · refine aw_lookup 190 (off := 177) dX12_runOne_13 (by decide) (aw_swh (a := 6) c2 rfl) (by decide) ?_
    have h := h.1 c2
    refine aw_aload_n 1 dX12_runOne_190 rfl rfl ?_
    refine aw_iload_n 0 dX12_runOne_191 rfl rfl ?_
    obtain ⟨n5, hn5, h⟩ := h
    refine aw_callVT (mc1 := 0) (ms1 := 0) (mc := 0) (ms := 0) (st := []) (q := 0) (As := [.int y1]) lX12_269 insX12_eval selX12_eval ⟨TX12, 50, rfl⟩ (by omega) (kg_ev n5 0 _ [y1] _ h) (Nat.le_of_ble_eq_true rfl) rfl rfl rfl dX12_runOne_192 rfl (fun _ _ hh => ?_)
    obtain ⟨r3, τ4, rfl, rfl, h⟩ := hh
    refine aw_stk (st' := [.int r3]) rfl ?_
    refine aw_istore (lv' := [(7, .int r3), (3, .int y1), (0, .ref 0), (1, .int a1), (2, .int a2)]) dX12_runOne_195 (by decide) rfl ?_
    refine aw_aload_n 2 dX12_runOne_197 rfl rfl ?_
    refine aw_getf (v := .int τ4.2.2.1.1.2.1) fX12_254 0 rfl rfl dX12_runOne_198 ?_
    refine aw_if_ne 224 dX12_runOne_201 (by decide) (fun c12 => ?_) (fun c12 => ?_)
    · have h := h.1 c12
      refine aw_lvsub (lv' := [(0, .ref 0), (7, .int r3)]) [2, 0] rfl ?_
      exact aw_X12_runOne_224 hd hdg hrc  h
    · have h := h.2 c12
      refine aw_aload_n 2 dX12_runOne_204 rfl rfl ?_
      refine aw_getf (v := .int τ4.2.1.2.2.2.1) fX12_292 0 rfl rfl dX12_runOne_205 ?_
      refine aw_bipush (v := (100 : Int32)) dX12_runOne_208 (by decide) ?_
      refine aw_icmp_ne 224 dX12_runOne_210 (by decide) (fun c11 => ?_) (fun c11 => ?_)
      · have h := h.1 c11
        refine aw_lvsub (lv' := [(0, .ref 0), (7, .int r3)]) [2, 0] rfl ?_
        exact aw_X12_runOne_224 hd hdg hrc  h
      · have h := h.2 c11
        refine aw_aload_n 2 dX12_runOne_213 rfl rfl ?_
        refine aw_iconst (v := (3 : Int32)) dX12_runOne_214 (by decide) ?_
        refine aw_aload_n 2 dX12_runOne_215 rfl rfl ?_
        refine aw_getf (v := .ref 6) fX12_25 0 rfl rfl dX12_runOne_216 ?_
        refine aw_iload_n 3 dX12_runOne_219 rfl rfl ?_
        refine aw_iald 6 (n := 9000) (f := τ4.1.1.2.2.2.1) rfl h.1 dX12_runOne_220 ?_
        have h := h.2
        refine aw_callVT (mc1 := 0) (ms1 := 0) (mc := 0) (ms := 0) (st := []) (q := 0) (As := [.int (3 : Int32), .int (τ4.1.1.2.2.2.1 (a1).toNatClampNeg)]) lX12_276 insX12_stop selX12_stop ⟨TX12, 50, rfl⟩ (by omega) (kX12_stop (d := 0) (by omega) h) (Nat.le_of_ble_eq_true rfl) rfl rfl rfl dX12_runOne_221 rfl (fun _ _ hh => ?_)
        obtain ⟨τ10, rfl, rfl, h⟩ := hh
        refine aw_stk (st' := []) rfl ?_
        refine aw_lvsub (lv' := [(0, .ref 0), (7, .int r3)]) [2, 0] rfl ?_
        exact aw_X12_runOne_224 hd hdg hrc  h
  have h := h.2 c2
  by_cases c13 : (σ.1.1.2.2.1 (a1).toNatClampNeg) = (9 : Int32)
  · refine aw_lookup 255 (off := 242) dX12_runOne_13 (by decide) ((lv_osw (a := 6) c2 rfl).trans (aw_swh (a := 9) c13 rfl)) (by decide) ?_
    have h := h.1 c13
    refine aw_lvsub (lv' := [(0, .ref 0), (1, .int a1), (2, .int a2), (3, .int y1)]) [1, 2, 3, 0] rfl ?_
    obtain ⟨n24, h⟩ := h
    exact aw_X12_runOne_255 hd hdg hrc  n24 σ a1 a2 y1 h
  have h := h.2 c13
  by_cases c25 : (σ.1.1.2.2.1 (a1).toNatClampNeg) = (300 : Int32)
  · refine aw_lookup 56 (off := 43) dX12_runOne_13 (by decide) ((lv_osw (a := 6) c2 rfl).trans ((lv_osw (a := 9) c13 rfl).trans (aw_swh (a := 300) c25 rfl))) (by decide) ?_
    have h := h.1 c25
    refine aw_aload_n 1 dX12_runOne_56 rfl rfl ?_
    refine aw_iload_n 0 dX12_runOne_57 rfl rfl ?_
    obtain ⟨n28, hn28, h⟩ := h
    refine aw_callVT (mc1 := 0) (ms1 := 0) (mc := 0) (ms := 0) (st := []) (q := 0) (As := [.int y1]) lX12_269 insX12_eval selX12_eval ⟨TX12, 50, rfl⟩ (by omega) (kg_ev n28 0 _ [y1] _ h) (Nat.le_of_ble_eq_true rfl) rfl rfl rfl dX12_runOne_58 rfl (fun _ _ hh => ?_)
    obtain ⟨r26, τ27, rfl, rfl, h⟩ := hh
    refine aw_stk (st' := [.int r26]) rfl ?_
    refine aw_istore (lv' := [(4, .int r26), (3, .int y1), (0, .ref 0), (1, .int a1), (2, .int a2)]) dX12_runOne_61 (by decide) rfl ?_
    refine aw_aload_n 2 dX12_runOne_63 rfl rfl ?_
    refine aw_getf (v := .int τ27.2.2.1.1.2.1) fX12_254 0 rfl rfl dX12_runOne_64 ?_
    refine aw_if_ne 377 dX12_runOne_67 (by decide) (fun c30 => ?_) (fun c30 => ?_)
    · have h := h.1 c30
      exact aw_vret rfl dX12_runOne_377 ⟨τ27, rfl, rfl, h⟩
    · have h := h.2 c30
      refine aw_aload_n 2 dX12_runOne_70 rfl rfl ?_
      refine aw_getf (v := .ref 18) fX12_69 0 rfl rfl dX12_runOne_71 ?_
      refine aw_aload_n 2 dX12_runOne_74 rfl rfl ?_
      refine aw_getf (v := .ref 13) fX12_47 0 rfl rfl dX12_runOne_75 ?_
      refine aw_aload_n 2 dX12_runOne_78 rfl rfl ?_
      refine aw_getf (v := .ref 10) fX12_38 0 rfl rfl dX12_runOne_79 ?_
      refine aw_iload_n 3 dX12_runOne_82 rfl rfl ?_
      refine aw_iald 10 (n := 9000) (f := τ27.1.2.1.1.2.2) rfl h.1 dX12_runOne_83 ?_
      have h := h.2
      refine aw_iald 13 (n := 1500) (f := τ27.1.2.2.1.1) rfl h.1 dX12_runOne_84 ?_
      have h := h.2
      refine aw_iload 0 dX12_runOne_85 rfl ?_
      refine aw_iast 18 (n := 200) (f := τ27.2.1.2.1.2.2) (w' := fun y29 => (wX12 G (τ27.1, ((τ27.2.1.1, ((τ27.2.1.2.1.1, (τ27.2.1.2.1.2.1, y29)), τ27.2.1.2.2)), τ27.2.2)))) rfl h.1 (fun _ => rfl) dX12_runOne_87 (fun y29 ey29 => ?_)
      have h := h.2 y29 ey29
      refine aw_goto 377 dX12_runOne_88 (by decide) ?_
      exact aw_vret rfl dX12_runOne_377 ⟨(τ27.1, ((τ27.2.1.1, ((τ27.2.1.2.1.1, (τ27.2.1.2.1.2.1, y29)), τ27.2.1.2.2)), τ27.2.2)), rfl, rfl, h⟩
  have h := h.2 c25
  by_cases c31 : (σ.1.1.2.2.1 (a1).toNatClampNeg) = (301 : Int32)
  · refine aw_lookup 91 (off := 78) dX12_runOne_13 (by decide) ((lv_osw (a := 6) c2 rfl).trans ((lv_osw (a := 9) c13 rfl).trans ((lv_osw (a := 300) c25 rfl).trans (aw_swh (a := 301) c31 rfl)))) (by decide) ?_
    have h := h.1 c31
    refine aw_aload_n 1 dX12_runOne_91 rfl rfl ?_
    refine aw_aload_n 1 dX12_runOne_92 rfl rfl ?_
    refine aw_getf (v := .ref 8) fX12_31 0 rfl rfl dX12_runOne_93 ?_
    refine aw_iload_n 0 dX12_runOne_96 rfl rfl ?_
    refine aw_iald 8 (n := 9000) (f := σ.1.2.1.1.1) rfl h.1 dX12_runOne_97 ?_
    have h := h.2
    obtain ⟨n34, hn34, h⟩ := h
    refine aw_callVT (mc1 := 0) (ms1 := 0) (mc := 0) (ms := 0) (st := []) (q := 0) (As := [.int (σ.1.2.1.1.1 (y1).toNatClampNeg)]) lX12_269 insX12_eval selX12_eval ⟨TX12, 50, rfl⟩ (by omega) (kg_ev n34 0 _ [(σ.1.2.1.1.1 (y1).toNatClampNeg)] _ h) (Nat.le_of_ble_eq_true rfl) rfl rfl rfl dX12_runOne_98 rfl (fun _ _ hh => ?_)
    obtain ⟨r32, τ33, rfl, rfl, h⟩ := hh
    refine aw_stk (st' := [.int r32]) rfl ?_
    refine aw_istore (lv' := [(5, .int r32), (3, .int y1), (0, .ref 0), (1, .int a1), (2, .int a2)]) dX12_runOne_101 (by decide) rfl ?_
    refine aw_aload_n 2 dX12_runOne_103 rfl rfl ?_
    refine aw_getf (v := .int τ33.2.2.1.1.2.1) fX12_254 0 rfl rfl dX12_runOne_104 ?_
    refine aw_if_ne 142 dX12_runOne_107 (by decide) (fun c44 => ?_) (fun c44 => ?_)
    · have h := h.1 c44
      refine aw_lvsub (lv' := [(0, .ref 0), (1, .int a1), (3, .int y1), (5, .int r32)]) [2, 3, 1, 0] rfl ?_
      exact aw_X12_runOne_142 hd hdg hrc  h
    · have h := h.2 c44
      refine aw_iload 0 dX12_runOne_110 rfl ?_
      refine aw_if_lt 131 dX12_runOne_112 (by decide) (fun c43 => ?_) (fun c43 => ?_)
      · have h := h.1 c43
        refine aw_lvsub (lv' := [(0, .ref 0), (1, .int a1), (3, .int y1), (5, .int r32)]) [2, 3, 1, 0] rfl ?_
        exact aw_X12_runOne_131 hd hdg hrc  h
      · have h := h.2 c43
        refine aw_iload 0 dX12_runOne_115 rfl ?_
        refine aw_aload_n 2 dX12_runOne_117 rfl rfl ?_
        refine aw_getf (v := .ref 12) fX12_44 0 rfl rfl dX12_runOne_118 ?_
        refine aw_aload_n 2 dX12_runOne_121 rfl rfl ?_
        refine aw_getf (v := .ref 10) fX12_38 0 rfl rfl dX12_runOne_122 ?_
        refine aw_iload_n 3 dX12_runOne_125 rfl rfl ?_
        refine aw_iald 10 (n := 9000) (f := τ33.1.2.1.1.2.2) rfl h.1 dX12_runOne_126 ?_
        have h := h.2
        refine aw_iald 12 (n := 1500) (f := τ33.1.2.1.2.2.2) rfl h.1 dX12_runOne_127 ?_
        have h := h.2
        refine aw_icmp_lt 142 dX12_runOne_128 (by decide) (fun c42 => ?_) (fun c42 => ?_)
        · have h := h.1 c42
          refine aw_lvsub (lv' := [(0, .ref 0), (1, .int a1), (3, .int y1), (5, .int r32)]) [2, 3, 1, 0] rfl ?_
          exact aw_X12_runOne_142 hd hdg hrc  h
        · have h := h.2 c42
          refine aw_lvsub (lv' := [(0, .ref 0), (1, .int a1), (3, .int y1), (5, .int r32)]) [2, 3, 1, 0] rfl ?_
          exact aw_X12_runOne_131 hd hdg hrc  h
  have h := h.2 c31
  refine aw_lookup 298 (off := 285) dX12_runOne_13 (by decide) ((lv_osw (a := 6) c2 rfl).trans ((lv_osw (a := 9) c13 rfl).trans ((lv_osw (a := 300) c25 rfl).trans ((lv_osw (a := 301) c31 rfl).trans rfl)))) (by decide) ?_
  refine aw_aload_n 1 dX12_runOne_298 rfl rfl ?_
  refine aw_iload_n 0 dX12_runOne_299 rfl rfl ?_
  obtain ⟨n47, hn47, h⟩ := h
  refine aw_callVT (mc1 := 0) (ms1 := 0) (mc := 0) (ms := 0) (st := []) (q := 0) (As := [.int y1]) lX12_269 insX12_eval selX12_eval ⟨TX12, 50, rfl⟩ (by omega) (kg_ev n47 0 _ [y1] _ h) (Nat.le_of_ble_eq_true rfl) rfl rfl rfl dX12_runOne_300 rfl (fun _ _ hh => ?_)
  obtain ⟨r45, τ46, rfl, rfl, h⟩ := hh
  refine aw_stk (st' := [.int r45]) rfl ?_
  refine aw_if_eq 310 dX12_runOne_303 (by decide) (fun c55 => ?_) (fun c55 => ?_)
  · have h := h.1 c55
    refine aw_iconst (v := (0 : Int32)) dX12_runOne_310 (by decide) ?_
    refine aw_lvsub (lv' := [(0, .ref 0), (1, .int a1), (2, .int a2), (3, .int y1)]) [1, 2, 3, 0] rfl ?_
    exact aw_X12_runOne_311 hd hdg hrc  h
  · have h := h.2 c55
    refine aw_iconst (v := (1 : Int32)) dX12_runOne_306 (by decide) ?_
    refine aw_goto 311 dX12_runOne_307 (by decide) ?_
    refine aw_lvsub (lv' := [(0, .ref 0), (1, .int a1), (2, .int a2), (3, .int y1)]) [1, 2, 3, 0] rfl ?_
    exact aw_X12_runOne_311 hd hdg hrc  h
def wg_ra : Nat → Nat → WSX12 → List Int32 → (Int32 → WSX12 → Prop) → Prop
  | 0, _, _, _, _ => False
  | n + 1, k, σ, xs, po => match k, xs with
    | 0, [a0, a1] => wp_X12_runAll (wg_ra n) σ a0 a1 (po 0)
    | 1, [a0, a1] => wp_X12_runOne (wg_ra n) σ a0 a1 (po 0)
    | _, _ => False
theorem kg_ra {G : aw_G} : ∀ (n k : Nat) (σ : WSX12) (xs : List Int32) (po : Int32 → WSX12 → Prop), wg_ra n k σ xs po → AC G (Mg_ra k) (403 + n) 0 0 25 (.ref 0 :: xs.map .int) (wX12 G σ) (aw_pv (wX12 G) (fun τ => po 0 τ)) := by
  intro n
  induction n with
  | zero => intro k σ xs po h; exact h.elim
  | succ n ih =>
    intro k σ xs po h
    unfold wg_ra at h
    split at h
    · exact kX12_runAll (d := 403 + (n + 1)) (by omega) (dg := 403 + n) (by omega) ih h
    · exact kX12_runOne (d := 403 + (n + 1)) (by omega) (dg := 403 + n) (by omega) ih h
    · exact h.elim
def wb_X12_run_44  (post : Int32 → WSX12 → Prop) (rec_44 : WSX12 × Int32 × Int32 → Prop) (σ : WSX12) (x1 : Int32) (x2 : Int32) : Prop :=
  ((σ.1.2.2.2.1.2 ≤ x2 → (∃ n3, n3 ≤ 400 ∧ wg_ra n3 0 (σ.1, ((σ.2.1.1, (σ.2.1.2.1, (σ.2.1.2.2.1, ((0 : Int32), (0 : Int32))))), (((x1, ((0 : Int32), ((-1) : Int32))), σ.2.2.1.2), σ.2.2.2))) [σ.2.1.1.1.2.1, (0 : Int32)] (fun _ τ2 => post τ2.2.2.1.1.2.1 (τ2.1, ((τ2.2.1.1, ((τ2.2.1.2.1.1, ((1 : Int32), τ2.2.1.2.1.2.2)), τ2.2.1.2.2)), τ2.2.2))))) ∧ (¬ σ.1.2.2.2.1.2 ≤ x2 → (vp_in x2 200 ∧ (vp_in x2 200 ∧ (vp_in (σ.1.2.2.2.2.2 (x2).toNatClampNeg) 200 ∧ ∀ y4 : Nat → Int32, y4 = upd σ.2.1.2.1.2.2 ((σ.1.2.2.2.2.2 (x2).toNatClampNeg)).toNatClampNeg (σ.2.1.1.1.1 (x2).toNatClampNeg) → rec_44 ((σ.1, ((σ.2.1.1, ((σ.2.1.2.1.1, (σ.2.1.2.1.2.1, y4)), σ.2.1.2.2)), σ.2.2)), x1, (x2 + 1)))))))
def wp_X12_run_44  (post : Int32 → WSX12 → Prop) (n : Nat) (σ : WSX12) (x1 : Int32) (x2 : Int32) : Prop := aw_loop (fun r (a : WSX12 × Int32 × Int32) => wb_X12_run_44  post r a.1 a.2.1 a.2.2) n (σ, x1, x2)
theorem aw_X12_run_44 {G : aw_G} {d : Nat} (hd : 804 ≤ d) {post : Int32 → WSX12 → Prop}  : ∀ (n : Nat) (σ : WSX12) (x1 : Int32) (x2 : Int32), wp_X12_run_44  post n σ x1 x2 → AW G MX12_run d 0 0 25 (aw_pi (wX12 G) post) 44 [(0, .ref 0), (1, .int x1), (2, .int x2)] [] (wX12 G σ) := by
  intro n
  induction n with
  | zero => intro σ x1 x2 h; exact h.elim
  | succ n ih =>
    intro σ x1 x2 h
    have hrec_44 : ∀ a : WSX12 × Int32 × Int32, aw_loop (fun r (a : WSX12 × Int32 × Int32) => wb_X12_run_44  post r a.1 a.2.1 a.2.2) n a → AW G MX12_run d 0 0 25 (aw_pi (wX12 G) post) 44 [(0, .ref 0), (1, .int a.2.1), (2, .int a.2.2)] [] (wX12 G a.1) := fun a h => ih a.1 a.2.1 a.2.2 h
    have h : wb_X12_run_44  post (aw_loop (fun r (a : WSX12 × Int32 × Int32) => wb_X12_run_44  post r a.1 a.2.1 a.2.2) n) σ x1 x2 := h
    unfold wb_X12_run_44 at h
    refine aw_iload_n 2 dX12_run_44 rfl rfl ?_
    refine aw_aload_n 0 dX12_run_45 rfl rfl ?_
    refine aw_getf (v := .int σ.1.2.2.2.1.2) fX12_210 0 rfl rfl dX12_run_46 ?_
    refine aw_icmp_ge 75 dX12_run_49 (by decide) (fun c5 => ?_) (fun c5 => ?_)
    · have h := h.1 c5
      refine aw_aload_n 0 dX12_run_75 rfl rfl ?_
      refine aw_iconst (v := (0 : Int32)) dX12_run_76 (by decide) ?_
      refine aw_putf fX12_292 0 (w' := (wX12 G (σ.1, ((σ.2.1.1, (σ.2.1.2.1, (σ.2.1.2.2.1, ((0 : Int32), σ.2.1.2.2.2.2)))), σ.2.2)))) rfl (fun _ => ⟨rfl, rfl⟩) (Nat.le_of_ble_eq_true rfl) rfl dX12_run_77 ?_
      refine aw_aload_n 0 dX12_run_80 rfl rfl ?_
      refine aw_iconst (v := (0 : Int32)) dX12_run_81 (by decide) ?_
      refine aw_putf fX12_279 0 (w' := (wX12 G (σ.1, ((σ.2.1.1, (σ.2.1.2.1, (σ.2.1.2.2.1, ((0 : Int32), (0 : Int32))))), σ.2.2)))) rfl (fun _ => ⟨rfl, rfl⟩) (Nat.le_of_ble_eq_true rfl) rfl dX12_run_82 ?_
      refine aw_aload_n 0 dX12_run_85 rfl rfl ?_
      refine aw_iload_n 1 dX12_run_86 rfl rfl ?_
      refine aw_putf fX12_282 0 (w' := (wX12 G (σ.1, ((σ.2.1.1, (σ.2.1.2.1, (σ.2.1.2.2.1, ((0 : Int32), (0 : Int32))))), (((x1, σ.2.2.1.1.2), σ.2.2.1.2), σ.2.2.2))))) rfl (fun _ => ⟨rfl, rfl⟩) (Nat.le_of_ble_eq_true rfl) rfl dX12_run_87 ?_
      refine aw_aload_n 0 dX12_run_90 rfl rfl ?_
      refine aw_iconst (v := (0 : Int32)) dX12_run_91 (by decide) ?_
      refine aw_putf fX12_254 0 (w' := (wX12 G (σ.1, ((σ.2.1.1, (σ.2.1.2.1, (σ.2.1.2.2.1, ((0 : Int32), (0 : Int32))))), (((x1, ((0 : Int32), σ.2.2.1.1.2.2)), σ.2.2.1.2), σ.2.2.2))))) rfl (fun _ => ⟨rfl, rfl⟩) (Nat.le_of_ble_eq_true rfl) rfl dX12_run_92 ?_
      refine aw_aload_n 0 dX12_run_95 rfl rfl ?_
      refine aw_iconst (v := ((-1) : Int32)) dX12_run_96 (by decide) ?_
      refine aw_putf fX12_257 0 (w' := (wX12 G (σ.1, ((σ.2.1.1, (σ.2.1.2.1, (σ.2.1.2.2.1, ((0 : Int32), (0 : Int32))))), (((x1, ((0 : Int32), ((-1) : Int32))), σ.2.2.1.2), σ.2.2.2))))) rfl (fun _ => ⟨rfl, rfl⟩) (Nat.le_of_ble_eq_true rfl) rfl dX12_run_97 ?_
      refine aw_aload_n 0 dX12_run_100 rfl rfl ?_
      refine aw_aload_n 0 dX12_run_101 rfl rfl ?_
      refine aw_getf (v := .int σ.2.1.1.1.2.1) fX12_251 0 rfl rfl dX12_run_102 ?_
      refine aw_iconst (v := (0 : Int32)) dX12_run_105 (by decide) ?_
      obtain ⟨n3, hn3, h⟩ := h
      refine aw_callVT (mc1 := 0) (ms1 := 0) (mc := 0) (ms := 0) (st := []) (q := 0) (As := [.int σ.2.1.1.1.2.1, .int (0 : Int32)]) lX12_295 insX12_runAll selX12_runAll ⟨TX12, 50, rfl⟩ (by omega) (kg_ra n3 0 _ [σ.2.1.1.1.2.1, (0 : Int32)] _ h) (Nat.le_of_ble_eq_true rfl) rfl rfl rfl dX12_run_106 rfl (fun _ _ hh => ?_)
      obtain ⟨τ2, rfl, rfl, h⟩ := hh
      refine aw_stk (st' := []) rfl ?_
      refine aw_aload_n 0 dX12_run_109 rfl rfl ?_
      refine aw_iconst (v := (1 : Int32)) dX12_run_110 (by decide) ?_
      refine aw_putf fX12_242 0 (w' := (wX12 G (τ2.1, ((τ2.2.1.1, ((τ2.2.1.2.1.1, ((1 : Int32), τ2.2.1.2.1.2.2)), τ2.2.1.2.2)), τ2.2.2)))) rfl (fun _ => ⟨rfl, rfl⟩) (Nat.le_of_ble_eq_true rfl) rfl dX12_run_111 ?_
      refine aw_aload_n 0 dX12_run_114 rfl rfl ?_
      refine aw_getf (v := .int τ2.2.2.1.1.2.1) fX12_254 0 rfl rfl dX12_run_115 ?_
      exact aw_iret rfl dX12_run_118 ⟨_, (τ2.1, ((τ2.2.1.1, ((τ2.2.1.2.1.1, ((1 : Int32), τ2.2.1.2.1.2.2)), τ2.2.1.2.2)), τ2.2.2)), rfl, rfl, h⟩
    · have h := h.2 c5
      refine aw_aload_n 0 dX12_run_52 rfl rfl ?_
      refine aw_getf (v := .ref 18) fX12_69 0 rfl rfl dX12_run_53 ?_
      refine aw_aload_n 0 dX12_run_56 rfl rfl ?_
      refine aw_getf (v := .ref 16) fX12_56 0 rfl rfl dX12_run_57 ?_
      refine aw_iload_n 2 dX12_run_60 rfl rfl ?_
      refine aw_iald 16 (n := 200) (f := σ.1.2.2.2.2.2) rfl h.1 dX12_run_61 ?_
      have h := h.2
      refine aw_aload_n 0 dX12_run_62 rfl rfl ?_
      refine aw_getf (v := .ref 17) fX12_59 0 rfl rfl dX12_run_63 ?_
      refine aw_iload_n 2 dX12_run_66 rfl rfl ?_
      refine aw_iald 17 (n := 200) (f := σ.2.1.1.1.1) rfl h.1 dX12_run_67 ?_
      have h := h.2
      refine aw_iast 18 (n := 200) (f := σ.2.1.2.1.2.2) (w' := fun y4 => (wX12 G (σ.1, ((σ.2.1.1, ((σ.2.1.2.1.1, (σ.2.1.2.1.2.1, y4)), σ.2.1.2.2)), σ.2.2)))) rfl h.1 (fun _ => rfl) dX12_run_68 (fun y4 ey4 => ?_)
      have h := h.2 y4 ey4
      refine aw_iinc 2 (v := (x2 + 1)) (lv' := [(2, .int (x2 + 1)), (0, .ref 0), (1, .int x1)]) dX12_run_69 rfl rfl (by decide) rfl ?_
      refine aw_goto 44 dX12_run_72 (by decide) ?_
      refine aw_lvsub (lv' := [(0, .ref 0), (1, .int x1), (2, .int (x2 + 1))]) [1, 2, 0] rfl ?_
      exact hrec_44 ((σ.1, ((σ.2.1.1, ((σ.2.1.2.1.1, (σ.2.1.2.1.2.1, y4)), σ.2.1.2.2)), σ.2.2)), x1, (x2 + 1)) h
def wb_X12_run_22  (post : Int32 → WSX12 → Prop) (rec_22 : WSX12 × Int32 × Int32 → Prop) (σ : WSX12) (x1 : Int32) (x2 : Int32) : Prop :=
  (((200 : Int32) ≤ x2 → (∃ n6, wp_X12_run_44  post n6 σ x1 (0 : Int32))) ∧ (¬ (200 : Int32) ≤ x2 → (vp_in x2 200 ∧ ∀ y7 : Nat → Int32, y7 = upd σ.2.1.2.1.2.2 (x2).toNatClampNeg (0 : Int32) → rec_22 ((σ.1, ((σ.2.1.1, ((σ.2.1.2.1.1, (σ.2.1.2.1.2.1, y7)), σ.2.1.2.2)), σ.2.2)), x1, (x2 + 1)))))
def wp_X12_run_22  (post : Int32 → WSX12 → Prop) (n : Nat) (σ : WSX12) (x1 : Int32) (x2 : Int32) : Prop := aw_loop (fun r (a : WSX12 × Int32 × Int32) => wb_X12_run_22  post r a.1 a.2.1 a.2.2) n (σ, x1, x2)
theorem aw_X12_run_22 {G : aw_G} {d : Nat} (hd : 804 ≤ d) {post : Int32 → WSX12 → Prop}  : ∀ (n : Nat) (σ : WSX12) (x1 : Int32) (x2 : Int32), wp_X12_run_22  post n σ x1 x2 → AW G MX12_run d 0 0 25 (aw_pi (wX12 G) post) 22 [(0, .ref 0), (1, .int x1), (2, .int x2)] [] (wX12 G σ) := by
  intro n
  induction n with
  | zero => intro σ x1 x2 h; exact h.elim
  | succ n ih =>
    intro σ x1 x2 h
    have hrec_22 : ∀ a : WSX12 × Int32 × Int32, aw_loop (fun r (a : WSX12 × Int32 × Int32) => wb_X12_run_22  post r a.1 a.2.1 a.2.2) n a → AW G MX12_run d 0 0 25 (aw_pi (wX12 G) post) 22 [(0, .ref 0), (1, .int a.2.1), (2, .int a.2.2)] [] (wX12 G a.1) := fun a h => ih a.1 a.2.1 a.2.2 h
    have h : wb_X12_run_22  post (aw_loop (fun r (a : WSX12 × Int32 × Int32) => wb_X12_run_22  post r a.1 a.2.1 a.2.2) n) σ x1 x2 := h
    unfold wb_X12_run_22 at h
    refine aw_iload_n 2 dX12_run_22 rfl rfl ?_
    refine aw_sipush (v := (200 : Int32)) dX12_run_23 (by decide) ?_
    refine aw_icmp_ge 42 dX12_run_26 (by decide) (fun c8 => ?_) (fun c8 => ?_)
    · have h := h.1 c8
      refine aw_iconst (v := (0 : Int32)) dX12_run_42 (by decide) ?_
      refine aw_istore_n (lv' := [(2, .int (0 : Int32)), (0, .ref 0), (1, .int x1)]) dX12_run_43 rfl (by decide) rfl ?_
      refine aw_lvsub (lv' := [(0, .ref 0), (1, .int x1), (2, .int (0 : Int32))]) [1, 2, 0] rfl ?_
      obtain ⟨n6, h⟩ := h
      exact aw_X12_run_44 hd  n6 σ x1 (0 : Int32) h
    · have h := h.2 c8
      refine aw_aload_n 0 dX12_run_29 rfl rfl ?_
      refine aw_getf (v := .ref 18) fX12_69 0 rfl rfl dX12_run_30 ?_
      refine aw_iload_n 2 dX12_run_33 rfl rfl ?_
      refine aw_iconst (v := (0 : Int32)) dX12_run_34 (by decide) ?_
      refine aw_iast 18 (n := 200) (f := σ.2.1.2.1.2.2) (w' := fun y7 => (wX12 G (σ.1, ((σ.2.1.1, ((σ.2.1.2.1.1, (σ.2.1.2.1.2.1, y7)), σ.2.1.2.2)), σ.2.2)))) rfl h.1 (fun _ => rfl) dX12_run_35 (fun y7 ey7 => ?_)
      have h := h.2 y7 ey7
      refine aw_iinc 2 (v := (x2 + 1)) (lv' := [(2, .int (x2 + 1)), (0, .ref 0), (1, .int x1)]) dX12_run_36 rfl rfl (by decide) rfl ?_
      refine aw_goto 22 dX12_run_39 (by decide) ?_
      refine aw_lvsub (lv' := [(0, .ref 0), (1, .int x1), (2, .int (x2 + 1))]) [1, 2, 0] rfl ?_
      exact hrec_22 ((σ.1, ((σ.2.1.1, ((σ.2.1.2.1.1, (σ.2.1.2.1.2.1, y7)), σ.2.1.2.2)), σ.2.2)), x1, (x2 + 1)) h
def wp_X12_run (σ : WSX12) (a1 : Int32) (post : Int32 → WSX12 → Prop) : Prop :=
  ((σ.2.1.1.1.2.2 = 0 → post ((-1) : Int32) σ) ∧ (¬ σ.2.1.1.1.2.2 = 0 → ((a1 < 0 → post ((-1) : Int32) σ) ∧ (¬ a1 < 0 → ((a1 ≤ (2000 : Int32) → (∃ n9, wp_X12_run_22  post n9 σ a1 (0 : Int32))) ∧ (¬ a1 ≤ (2000 : Int32) → post ((-1) : Int32) σ))))))
theorem kX12_run {G : aw_G} {d : Nat} (hd : 804 ≤ d) {σ : WSX12} {a1 : Int32} {post : Int32 → WSX12 → Prop} (h : wp_X12_run σ a1 post) : AC G MX12_run d 0 0 25 [.ref 0, .int a1] (wX12 G σ) (aw_pi (wX12 G) post) := by
  refine AC.of (lv := [(0, .ref 0), (1, .int a1)]) (by decide) (Nat.le_of_ble_eq_true rfl) rfl ?_
  unfold wp_X12_run at h
  refine aw_aload_n 0 dX12_run_0 rfl rfl ?_
  refine aw_getf (v := .int σ.2.1.1.1.2.2) fX12_239 0 rfl rfl dX12_run_1 ?_
  refine aw_if_eq 18 dX12_run_4 (by decide) (fun c12 => ?_) (fun c12 => ?_)
  · have h := h.1 c12
    refine aw_iconst (v := ((-1) : Int32)) dX12_run_18 (by decide) ?_
    exact aw_iret rfl dX12_run_19 ⟨_, σ, rfl, rfl, h⟩
  · have h := h.2 c12
    refine aw_iload_n 1 dX12_run_7 rfl rfl ?_
    refine aw_if_lt 18 dX12_run_8 (by decide) (fun c11 => ?_) (fun c11 => ?_)
    · have h := h.1 c11
      refine aw_iconst (v := ((-1) : Int32)) dX12_run_18 (by decide) ?_
      exact aw_iret rfl dX12_run_19 ⟨_, σ, rfl, rfl, h⟩
    · have h := h.2 c11
      refine aw_iload_n 1 dX12_run_11 rfl rfl ?_
      refine aw_sipush (v := (2000 : Int32)) dX12_run_12 (by decide) ?_
      refine aw_icmp_le 20 dX12_run_15 (by decide) (fun c10 => ?_) (fun c10 => ?_)
      · have h := h.1 c10
        refine aw_iconst (v := (0 : Int32)) dX12_run_20 (by decide) ?_
        refine aw_istore_n (lv' := [(2, .int (0 : Int32)), (0, .ref 0), (1, .int a1)]) dX12_run_21 rfl (by decide) rfl ?_
        refine aw_lvsub (lv' := [(0, .ref 0), (1, .int a1), (2, .int (0 : Int32))]) [1, 2, 0] rfl ?_
        obtain ⟨n9, h⟩ := h
        exact aw_X12_run_22 hd  n9 σ a1 (0 : Int32) h
      · have h := h.2 c10
        refine aw_iconst (v := ((-1) : Int32)) dX12_run_18 (by decide) ?_
        exact aw_iret rfl dX12_run_19 ⟨_, σ, rfl, rfl, h⟩
def wp_X12_ran (σ : WSX12) (a1 : Int32) (post : Int32 → WSX12 → Prop) : Prop :=
  ((¬ σ.2.1.2.1.2.1 = 0 → ((¬ a1 = 0 → ((¬ a1 = (1 : Int32) → ((¬ a1 = (2 : Int32) → post ((-1) : Int32) σ) ∧ (a1 = (2 : Int32) → post σ.2.1.2.2.2.1 σ))) ∧ (a1 = (1 : Int32) → post σ.2.1.2.2.2.2 σ))) ∧ (a1 = 0 → post σ.2.2.1.1.2.2 σ))) ∧ (σ.2.1.2.1.2.1 = 0 → post ((-1) : Int32) σ))
theorem kX12_ran {G : aw_G} {d : Nat} (hd : 0 ≤ d) {σ : WSX12} {a1 : Int32} {post : Int32 → WSX12 → Prop} (h : wp_X12_ran σ a1 post) : AC G MX12_ran d 0 0 25 [.ref 0, .int a1] (wX12 G σ) (aw_pi (wX12 G) post) := by
  refine AC.of (lv := [(0, .ref 0), (1, .int a1)]) (by decide) (Nat.le_of_ble_eq_true rfl) rfl ?_
  unfold wp_X12_ran at h
  refine aw_aload_n 0 dX12_ran_0 rfl rfl ?_
  refine aw_getf (v := .int σ.2.1.2.1.2.1) fX12_242 0 rfl rfl dX12_ran_1 ?_
  refine aw_if_ne 11 dX12_ran_4 (by decide) (fun c4 => ?_) (fun c4 => ?_)
  · have h := h.1 c4
    refine aw_iload_n 1 dX12_ran_11 rfl rfl ?_
    refine aw_if_ne 22 dX12_ran_12 (by decide) (fun c3 => ?_) (fun c3 => ?_)
    · have h := h.1 c3
      refine aw_iload_n 1 dX12_ran_22 rfl rfl ?_
      refine aw_iconst (v := (1 : Int32)) dX12_ran_23 (by decide) ?_
      refine aw_icmp_ne 34 dX12_ran_24 (by decide) (fun c2 => ?_) (fun c2 => ?_)
      · have h := h.1 c2
        refine aw_iload_n 1 dX12_ran_34 rfl rfl ?_
        refine aw_iconst (v := (2 : Int32)) dX12_ran_35 (by decide) ?_
        refine aw_icmp_ne 46 dX12_ran_36 (by decide) (fun c1 => ?_) (fun c1 => ?_)
        · have h := h.1 c1
          refine aw_iconst (v := ((-1) : Int32)) dX12_ran_46 (by decide) ?_
          exact aw_iret rfl dX12_ran_47 ⟨_, σ, rfl, rfl, h⟩
        · have h := h.2 c1
          refine aw_aload_n 0 dX12_ran_39 rfl rfl ?_
          refine aw_getf (v := .int σ.2.1.2.2.2.1) fX12_292 0 rfl rfl dX12_ran_40 ?_
          refine aw_goto 47 dX12_ran_43 (by decide) ?_
          exact aw_iret rfl dX12_ran_47 ⟨_, σ, rfl, rfl, h⟩
      · have h := h.2 c2
        refine aw_aload_n 0 dX12_ran_27 rfl rfl ?_
        refine aw_getf (v := .int σ.2.1.2.2.2.2) fX12_279 0 rfl rfl dX12_ran_28 ?_
        refine aw_goto 47 dX12_ran_31 (by decide) ?_
        exact aw_iret rfl dX12_ran_47 ⟨_, σ, rfl, rfl, h⟩
    · have h := h.2 c3
      refine aw_aload_n 0 dX12_ran_15 rfl rfl ?_
      refine aw_getf (v := .int σ.2.2.1.1.2.2) fX12_257 0 rfl rfl dX12_ran_16 ?_
      refine aw_goto 47 dX12_ran_19 (by decide) ?_
      exact aw_iret rfl dX12_ran_47 ⟨_, σ, rfl, rfl, h⟩
  · have h := h.2 c4
    refine aw_iconst (v := ((-1) : Int32)) dX12_ran_7 (by decide) ?_
    refine aw_goto 47 dX12_ran_8 (by decide) ?_
    exact aw_iret rfl dX12_ran_47 ⟨_, σ, rfl, rfl, h⟩
def wp_X12_out (σ : WSX12) (a1 : Int32) (post : Int32 → WSX12 → Prop) : Prop :=
  ((σ.2.1.2.1.2.1 = 0 → post (0 : Int32) σ) ∧ (¬ σ.2.1.2.1.2.1 = 0 → ((a1 < 0 → post (0 : Int32) σ) ∧ (¬ a1 < 0 → ((a1 < σ.2.1.2.2.2.1 → (vp_in a1 100 ∧ post (σ.2.1.2.2.1 (a1).toNatClampNeg) σ)) ∧ (¬ a1 < σ.2.1.2.2.2.1 → post (0 : Int32) σ))))))
theorem kX12_out {G : aw_G} {d : Nat} (hd : 0 ≤ d) {σ : WSX12} {a1 : Int32} {post : Int32 → WSX12 → Prop} (h : wp_X12_out σ a1 post) : AC G MX12_out d 0 0 25 [.ref 0, .int a1] (wX12 G σ) (aw_pi (wX12 G) post) := by
  refine AC.of (lv := [(0, .ref 0), (1, .int a1)]) (by decide) (Nat.le_of_ble_eq_true rfl) rfl ?_
  unfold wp_X12_out at h
  refine aw_aload_n 0 dX12_out_0 rfl rfl ?_
  refine aw_getf (v := .int σ.2.1.2.1.2.1) fX12_242 0 rfl rfl dX12_out_1 ?_
  refine aw_if_eq 19 dX12_out_4 (by decide) (fun c3 => ?_) (fun c3 => ?_)
  · have h := h.1 c3
    refine aw_iconst (v := (0 : Int32)) dX12_out_19 (by decide) ?_
    refine aw_goto 29 dX12_out_20 (by decide) ?_
    exact aw_iret rfl dX12_out_29 ⟨_, σ, rfl, rfl, h⟩
  · have h := h.2 c3
    refine aw_iload_n 1 dX12_out_7 rfl rfl ?_
    refine aw_if_lt 19 dX12_out_8 (by decide) (fun c2 => ?_) (fun c2 => ?_)
    · have h := h.1 c2
      refine aw_iconst (v := (0 : Int32)) dX12_out_19 (by decide) ?_
      refine aw_goto 29 dX12_out_20 (by decide) ?_
      exact aw_iret rfl dX12_out_29 ⟨_, σ, rfl, rfl, h⟩
    · have h := h.2 c2
      refine aw_iload_n 1 dX12_out_11 rfl rfl ?_
      refine aw_aload_n 0 dX12_out_12 rfl rfl ?_
      refine aw_getf (v := .int σ.2.1.2.2.2.1) fX12_292 0 rfl rfl dX12_out_13 ?_
      refine aw_icmp_lt 23 dX12_out_16 (by decide) (fun c1 => ?_) (fun c1 => ?_)
      · have h := h.1 c1
        refine aw_aload_n 0 dX12_out_23 rfl rfl ?_
        refine aw_getf (v := .ref 19) fX12_72 0 rfl rfl dX12_out_24 ?_
        refine aw_iload_n 1 dX12_out_27 rfl rfl ?_
        refine aw_iald 19 (n := 100) (f := σ.2.1.2.2.1) rfl h.1 dX12_out_28 ?_
        have h := h.2
        exact aw_iret rfl dX12_out_29 ⟨_, σ, rfl, rfl, h⟩
      · have h := h.2 c1
        refine aw_iconst (v := (0 : Int32)) dX12_out_19 (by decide) ?_
        refine aw_goto 29 dX12_out_20 (by decide) ?_
        exact aw_iret rfl dX12_out_29 ⟨_, σ, rfl, rfl, h⟩
def wp_X12_word (σ : WSX12) (a1 : Int32) (post : Int32 → WSX12 → Prop) : Prop :=
  ((σ.2.1.2.1.2.1 = 0 → post (0 : Int32) σ) ∧ (¬ σ.2.1.2.1.2.1 = 0 → ((a1 < 0 → post (0 : Int32) σ) ∧ (¬ a1 < 0 → ((a1 < σ.1.2.2.2.1.1 → (vp_in a1 200 ∧ post (σ.2.1.2.1.2.2 (a1).toNatClampNeg) σ)) ∧ (¬ a1 < σ.1.2.2.2.1.1 → post (0 : Int32) σ))))))
theorem kX12_word {G : aw_G} {d : Nat} (hd : 0 ≤ d) {σ : WSX12} {a1 : Int32} {post : Int32 → WSX12 → Prop} (h : wp_X12_word σ a1 post) : AC G MX12_word d 0 0 25 [.ref 0, .int a1] (wX12 G σ) (aw_pi (wX12 G) post) := by
  refine AC.of (lv := [(0, .ref 0), (1, .int a1)]) (by decide) (Nat.le_of_ble_eq_true rfl) rfl ?_
  unfold wp_X12_word at h
  refine aw_aload_n 0 dX12_word_0 rfl rfl ?_
  refine aw_getf (v := .int σ.2.1.2.1.2.1) fX12_242 0 rfl rfl dX12_word_1 ?_
  refine aw_if_eq 19 dX12_word_4 (by decide) (fun c3 => ?_) (fun c3 => ?_)
  · have h := h.1 c3
    refine aw_iconst (v := (0 : Int32)) dX12_word_19 (by decide) ?_
    refine aw_goto 29 dX12_word_20 (by decide) ?_
    exact aw_iret rfl dX12_word_29 ⟨_, σ, rfl, rfl, h⟩
  · have h := h.2 c3
    refine aw_iload_n 1 dX12_word_7 rfl rfl ?_
    refine aw_if_lt 19 dX12_word_8 (by decide) (fun c2 => ?_) (fun c2 => ?_)
    · have h := h.1 c2
      refine aw_iconst (v := (0 : Int32)) dX12_word_19 (by decide) ?_
      refine aw_goto 29 dX12_word_20 (by decide) ?_
      exact aw_iret rfl dX12_word_29 ⟨_, σ, rfl, rfl, h⟩
    · have h := h.2 c2
      refine aw_iload_n 1 dX12_word_11 rfl rfl ?_
      refine aw_aload_n 0 dX12_word_12 rfl rfl ?_
      refine aw_getf (v := .int σ.1.2.2.2.1.1) fX12_207 0 rfl rfl dX12_word_13 ?_
      refine aw_icmp_lt 23 dX12_word_16 (by decide) (fun c1 => ?_) (fun c1 => ?_)
      · have h := h.1 c1
        refine aw_aload_n 0 dX12_word_23 rfl rfl ?_
        refine aw_getf (v := .ref 18) fX12_69 0 rfl rfl dX12_word_24 ?_
        refine aw_iload_n 1 dX12_word_27 rfl rfl ?_
        refine aw_iald 18 (n := 200) (f := σ.2.1.2.1.2.2) rfl h.1 dX12_word_28 ?_
        have h := h.2
        exact aw_iret rfl dX12_word_29 ⟨_, σ, rfl, rfl, h⟩
      · have h := h.2 c1
        refine aw_iconst (v := (0 : Int32)) dX12_word_19 (by decide) ?_
        refine aw_goto 29 dX12_word_20 (by decide) ?_
        exact aw_iret rfl dX12_word_29 ⟨_, σ, rfl, rfl, h⟩
def wp_X12_quiet (σ : WSX12) (post : Int32 → WSX12 → Prop) : Prop :=
  post (1 : Int32) σ
theorem kX12_quiet {G : aw_G} {d : Nat} (hd : 0 ≤ d) {σ : WSX12} {post : Int32 → WSX12 → Prop} (h : wp_X12_quiet σ post) : AC G MX12_quiet d 0 0 25 [.ref 0] (wX12 G σ) (aw_pi (wX12 G) post) := by
  refine AC.of (lv := [(0, .ref 0)]) (by decide) (Nat.le_of_ble_eq_true rfl) rfl ?_
  unfold wp_X12_quiet at h
  refine aw_iconst (v := (1 : Int32)) dX12_quiet_0 (by decide) ?_
  exact aw_zret rfl rfl dX12_quiet_1 ⟨_, σ, rfl, rfl, h⟩
def wp_X12_isPlace (a0 : Int32) (post : Int32 → Unit → Prop) : Prop :=
  ((a0 < 0 → post (0 : Int32) ()) ∧ (¬ a0 < 0 → (((16380 : Int32) < a0 → post (0 : Int32) ()) ∧ (¬ (16380 : Int32) < a0 → ((¬ (a0 - a0 / (4 : Int32) * (4 : Int32)) = 0 → post (0 : Int32) ()) ∧ ((a0 - a0 / (4 : Int32) * (4 : Int32)) = 0 → post (1 : Int32) ()))))))
theorem kX12_isPlace {G : aw_G} {d : Nat} (hd : 0 ≤ d) {a0 : Int32} {post : Int32 → Unit → Prop} (h : wp_X12_isPlace a0 post) : AC G MX12_isPlace d 0 0 0 [.int a0] [] (aw_pi (fun _ : Unit => []) post) := by
  refine AC.of (lv := [(0, .int a0)]) (by decide) (Nat.le_of_ble_eq_true rfl) rfl ?_
  unfold wp_X12_isPlace at h
  refine aw_iload_n 0 dX12_isPlace_0 rfl rfl ?_
  refine aw_if_lt 21 dX12_isPlace_1 (by decide) (fun c3 => ?_) (fun c3 => ?_)
  · have h := h.1 c3
    refine aw_iconst (v := (0 : Int32)) dX12_isPlace_21 (by decide) ?_
    exact aw_zret rfl rfl dX12_isPlace_22 ⟨_, (), rfl, rfl, h⟩
  · have h := h.2 c3
    refine aw_iload_n 0 dX12_isPlace_4 rfl rfl ?_
    refine aw_sipush (v := (16380 : Int32)) dX12_isPlace_5 (by decide) ?_
    refine aw_icmp_gt 21 dX12_isPlace_8 (by decide) (fun c2 => ?_) (fun c2 => ?_)
    · have h := h.1 c2
      refine aw_iconst (v := (0 : Int32)) dX12_isPlace_21 (by decide) ?_
      exact aw_zret rfl rfl dX12_isPlace_22 ⟨_, (), rfl, rfl, h⟩
    · have h := h.2 c2
      refine aw_iload_n 0 dX12_isPlace_11 rfl rfl ?_
      refine aw_iconst (v := (4 : Int32)) dX12_isPlace_12 (by decide) ?_
      refine aw_irem dX12_isPlace_13 (by decide) ?_
      refine aw_if_ne 21 dX12_isPlace_14 (by decide) (fun c1 => ?_) (fun c1 => ?_)
      · have h := h.1 c1
        refine aw_iconst (v := (0 : Int32)) dX12_isPlace_21 (by decide) ?_
        exact aw_zret rfl rfl dX12_isPlace_22 ⟨_, (), rfl, rfl, h⟩
      · have h := h.2 c1
        refine aw_iconst (v := (1 : Int32)) dX12_isPlace_17 (by decide) ?_
        refine aw_goto 22 dX12_isPlace_18 (by decide) ?_
        exact aw_zret rfl rfl dX12_isPlace_22 ⟨_, (), rfl, rfl, h⟩
def wp_X12_poke (σ : WSX12) (a1 : Int32) (a2 : Int32) (post : Int32 → WSX12 → Prop) : Prop :=
  wp_X12_isPlace a1 (fun r1 τ2 => ((¬ r1 = 0 → (vp_in (a1 / (4 : Int32)) 4096 ∧ ∀ y3 : Nat → Int32, y3 = upd σ.2.2.1.2.2.2 ((a1 / (4 : Int32))).toNatClampNeg a2 → post (1 : Int32) (σ.1, (σ.2.1, ((σ.2.2.1.1, (σ.2.2.1.2.1, (σ.2.2.1.2.2.1, y3))), σ.2.2.2))))) ∧ (r1 = 0 → post (0 : Int32) σ)))
theorem kX12_poke {G : aw_G} {d : Nat} (hd : 1 ≤ d) {σ : WSX12} {a1 : Int32} {a2 : Int32} {post : Int32 → WSX12 → Prop} (h : wp_X12_poke σ a1 a2 post) : AC G MX12_poke d 0 0 25 [.ref 0, .int a1, .int a2] (wX12 G σ) (aw_pi (wX12 G) post) := by
  refine AC.of (lv := [(0, .ref 0), (1, .int a1), (2, .int a2)]) (by decide) (Nat.le_of_ble_eq_true rfl) rfl ?_
  unfold wp_X12_poke at h
  refine aw_iload_n 1 dX12_poke_0 rfl rfl ?_
  refine aw_callST (st := []) (As := [.int a1]) lX12_298 sttX12_isPlace (by omega) (kX12_isPlace (d := 0) (by omega) h) rfl rfl rfl dX12_poke_1 rfl (fun _ _ hh => ?_)
  obtain ⟨r1, τ2, rfl, rfl, h⟩ := hh
  refine ⟨rfl, (fun x hx => by cases hx; rfl), ?_⟩
  refine aw_stk (st' := [.int r1]) rfl ?_
  refine aw_if_ne 9 dX12_poke_4 (by decide) (fun c4 => ?_) (fun c4 => ?_)
  · have h := h.1 c4
    refine aw_aload_n 0 dX12_poke_9 rfl rfl ?_
    refine aw_getf (v := .ref 22) fX12_81 0 rfl rfl dX12_poke_10 ?_
    refine aw_iload_n 1 dX12_poke_13 rfl rfl ?_
    refine aw_iconst (v := (4 : Int32)) dX12_poke_14 (by decide) ?_
    refine aw_idiv dX12_poke_15 (by decide) ?_
    refine aw_iload_n 2 dX12_poke_16 rfl rfl ?_
    refine aw_iast 22 (n := 4096) (f := σ.2.2.1.2.2.2) (w' := fun y3 => (wX12 G (σ.1, (σ.2.1, ((σ.2.2.1.1, (σ.2.2.1.2.1, (σ.2.2.1.2.2.1, y3))), σ.2.2.2))))) rfl h.1 (fun _ => rfl) dX12_poke_17 (fun y3 ey3 => ?_)
    have h := h.2 y3 ey3
    refine aw_iconst (v := (1 : Int32)) dX12_poke_18 (by decide) ?_
    exact aw_zret rfl rfl dX12_poke_19 ⟨_, (σ.1, (σ.2.1, ((σ.2.2.1.1, (σ.2.2.1.2.1, (σ.2.2.1.2.2.1, y3))), σ.2.2.2))), rfl, rfl, h⟩
  · have h := h.2 c4
    refine aw_iconst (v := (0 : Int32)) dX12_poke_7 (by decide) ?_
    exact aw_zret rfl rfl dX12_poke_8 ⟨_, σ, rfl, rfl, h⟩
def wp_X12_peek (σ : WSX12) (a1 : Int32) (post : Int32 → WSX12 → Prop) : Prop :=
  wp_X12_isPlace a1 (fun r1 τ2 => ((r1 = 0 → post (0 : Int32) σ) ∧ (¬ r1 = 0 → (vp_in (a1 / (4 : Int32)) 4096 ∧ post (σ.2.2.1.2.2.2 ((a1 / (4 : Int32))).toNatClampNeg) σ))))
theorem kX12_peek {G : aw_G} {d : Nat} (hd : 1 ≤ d) {σ : WSX12} {a1 : Int32} {post : Int32 → WSX12 → Prop} (h : wp_X12_peek σ a1 post) : AC G MX12_peek d 0 0 25 [.ref 0, .int a1] (wX12 G σ) (aw_pi (wX12 G) post) := by
  refine AC.of (lv := [(0, .ref 0), (1, .int a1)]) (by decide) (Nat.le_of_ble_eq_true rfl) rfl ?_
  unfold wp_X12_peek at h
  refine aw_iload_n 1 dX12_peek_0 rfl rfl ?_
  refine aw_callST (st := []) (As := [.int a1]) lX12_298 sttX12_isPlace (by omega) (kX12_isPlace (d := 0) (by omega) h) rfl rfl rfl dX12_peek_1 rfl (fun _ _ hh => ?_)
  obtain ⟨r1, τ2, rfl, rfl, h⟩ := hh
  refine ⟨rfl, (fun x hx => by cases hx; rfl), ?_⟩
  refine aw_stk (st' := [.int r1]) rfl ?_
  refine aw_if_eq 18 dX12_peek_4 (by decide) (fun c3 => ?_) (fun c3 => ?_)
  · have h := h.1 c3
    refine aw_iconst (v := (0 : Int32)) dX12_peek_18 (by decide) ?_
    exact aw_iret rfl dX12_peek_19 ⟨_, σ, rfl, rfl, h⟩
  · have h := h.2 c3
    refine aw_aload_n 0 dX12_peek_7 rfl rfl ?_
    refine aw_getf (v := .ref 22) fX12_81 0 rfl rfl dX12_peek_8 ?_
    refine aw_iload_n 1 dX12_peek_11 rfl rfl ?_
    refine aw_iconst (v := (4 : Int32)) dX12_peek_12 (by decide) ?_
    refine aw_idiv dX12_peek_13 (by decide) ?_
    refine aw_iald 22 (n := 4096) (f := σ.2.2.1.2.2.2) rfl h.1 dX12_peek_14 ?_
    have h := h.2
    refine aw_goto 19 dX12_peek_15 (by decide) ?_
    exact aw_iret rfl dX12_peek_19 ⟨_, σ, rfl, rfl, h⟩
def wp_X12_set (σ : WSX12) (a1 : Int32) (a2 : Int32) (post : Int32 → WSX12 → Prop) : Prop :=
  ((a1 < 0 → post (0 : Int32) σ) ∧ (¬ a1 < 0 → ((a1 ≤ (31 : Int32) → ((¬ a1 = 0 → (vp_in a1 32 ∧ ∀ y1 : Nat → Int32, y1 = upd σ.2.2.2.1.1 (a1).toNatClampNeg a2 → post (1 : Int32) (σ.1, (σ.2.1, (σ.2.2.1, ((y1, σ.2.2.2.1.2), σ.2.2.2.2)))))) ∧ (a1 = 0 → (vp_in a1 32 ∧ ∀ y2 : Nat → Int32, y2 = upd σ.2.2.2.1.1 (a1).toNatClampNeg (0 : Int32) → post (1 : Int32) (σ.1, (σ.2.1, (σ.2.2.1, ((y2, σ.2.2.2.1.2), σ.2.2.2.2)))))))) ∧ (¬ a1 ≤ (31 : Int32) → post (0 : Int32) σ))))
theorem kX12_set {G : aw_G} {d : Nat} (hd : 0 ≤ d) {σ : WSX12} {a1 : Int32} {a2 : Int32} {post : Int32 → WSX12 → Prop} (h : wp_X12_set σ a1 a2 post) : AC G MX12_set d 0 0 25 [.ref 0, .int a1, .int a2] (wX12 G σ) (aw_pi (wX12 G) post) := by
  refine AC.of (lv := [(0, .ref 0), (1, .int a1), (2, .int a2)]) (by decide) (Nat.le_of_ble_eq_true rfl) rfl ?_
  unfold wp_X12_set at h
  refine aw_iload_n 1 dX12_set_0 rfl rfl ?_
  refine aw_if_lt 10 dX12_set_1 (by decide) (fun c5 => ?_) (fun c5 => ?_)
  · have h := h.1 c5
    refine aw_iconst (v := (0 : Int32)) dX12_set_10 (by decide) ?_
    exact aw_zret rfl rfl dX12_set_11 ⟨_, σ, rfl, rfl, h⟩
  · have h := h.2 c5
    refine aw_iload_n 1 dX12_set_4 rfl rfl ?_
    refine aw_bipush (v := (31 : Int32)) dX12_set_5 (by decide) ?_
    refine aw_icmp_le 12 dX12_set_7 (by decide) (fun c4 => ?_) (fun c4 => ?_)
    · have h := h.1 c4
      refine aw_aload_n 0 dX12_set_12 rfl rfl ?_
      refine aw_getf (v := .ref 23) fX12_84 0 rfl rfl dX12_set_13 ?_
      refine aw_iload_n 1 dX12_set_16 rfl rfl ?_
      refine aw_iload_n 1 dX12_set_17 rfl rfl ?_
      refine aw_if_ne 25 dX12_set_18 (by decide) (fun c3 => ?_) (fun c3 => ?_)
      · have h := h.1 c3
        refine aw_iload_n 2 dX12_set_25 rfl rfl ?_
        refine aw_iast 23 (n := 32) (f := σ.2.2.2.1.1) (w' := fun y1 => (wX12 G (σ.1, (σ.2.1, (σ.2.2.1, ((y1, σ.2.2.2.1.2), σ.2.2.2.2)))))) rfl h.1 (fun _ => rfl) dX12_set_26 (fun y1 ey1 => ?_)
        have h := h.2 y1 ey1
        refine aw_iconst (v := (1 : Int32)) dX12_set_27 (by decide) ?_
        exact aw_zret rfl rfl dX12_set_28 ⟨_, (σ.1, (σ.2.1, (σ.2.2.1, ((y1, σ.2.2.2.1.2), σ.2.2.2.2)))), rfl, rfl, h⟩
      · have h := h.2 c3
        refine aw_iconst (v := (0 : Int32)) dX12_set_21 (by decide) ?_
        refine aw_goto 26 dX12_set_22 (by decide) ?_
        refine aw_iast 23 (n := 32) (f := σ.2.2.2.1.1) (w' := fun y2 => (wX12 G (σ.1, (σ.2.1, (σ.2.2.1, ((y2, σ.2.2.2.1.2), σ.2.2.2.2)))))) rfl h.1 (fun _ => rfl) dX12_set_26 (fun y2 ey2 => ?_)
        have h := h.2 y2 ey2
        refine aw_iconst (v := (1 : Int32)) dX12_set_27 (by decide) ?_
        exact aw_zret rfl rfl dX12_set_28 ⟨_, (σ.1, (σ.2.1, (σ.2.2.1, ((y2, σ.2.2.2.1.2), σ.2.2.2.2)))), rfl, rfl, h⟩
    · have h := h.2 c4
      refine aw_iconst (v := (0 : Int32)) dX12_set_10 (by decide) ?_
      exact aw_zret rfl rfl dX12_set_11 ⟨_, σ, rfl, rfl, h⟩
def wp_X12_get (σ : WSX12) (a1 : Int32) (post : Int32 → WSX12 → Prop) : Prop :=
  ((a1 < 0 → post (0 : Int32) σ) ∧ (¬ a1 < 0 → ((a1 ≤ (31 : Int32) → (vp_in a1 32 ∧ post (σ.2.2.2.1.1 (a1).toNatClampNeg) σ)) ∧ (¬ a1 ≤ (31 : Int32) → post (0 : Int32) σ))))
theorem kX12_get {G : aw_G} {d : Nat} (hd : 0 ≤ d) {σ : WSX12} {a1 : Int32} {post : Int32 → WSX12 → Prop} (h : wp_X12_get σ a1 post) : AC G MX12_get d 0 0 25 [.ref 0, .int a1] (wX12 G σ) (aw_pi (wX12 G) post) := by
  refine AC.of (lv := [(0, .ref 0), (1, .int a1)]) (by decide) (Nat.le_of_ble_eq_true rfl) rfl ?_
  unfold wp_X12_get at h
  refine aw_iload_n 1 dX12_get_0 rfl rfl ?_
  refine aw_if_lt 10 dX12_get_1 (by decide) (fun c2 => ?_) (fun c2 => ?_)
  · have h := h.1 c2
    refine aw_iconst (v := (0 : Int32)) dX12_get_10 (by decide) ?_
    refine aw_goto 20 dX12_get_11 (by decide) ?_
    exact aw_iret rfl dX12_get_20 ⟨_, σ, rfl, rfl, h⟩
  · have h := h.2 c2
    refine aw_iload_n 1 dX12_get_4 rfl rfl ?_
    refine aw_bipush (v := (31 : Int32)) dX12_get_5 (by decide) ?_
    refine aw_icmp_le 14 dX12_get_7 (by decide) (fun c1 => ?_) (fun c1 => ?_)
    · have h := h.1 c1
      refine aw_aload_n 0 dX12_get_14 rfl rfl ?_
      refine aw_getf (v := .ref 23) fX12_84 0 rfl rfl dX12_get_15 ?_
      refine aw_iload_n 1 dX12_get_18 rfl rfl ?_
      refine aw_iald 23 (n := 32) (f := σ.2.2.2.1.1) rfl h.1 dX12_get_19 ?_
      have h := h.2
      exact aw_iret rfl dX12_get_20 ⟨_, σ, rfl, rfl, h⟩
    · have h := h.2 c1
      refine aw_iconst (v := (0 : Int32)) dX12_get_10 (by decide) ?_
      refine aw_goto 20 dX12_get_11 (by decide) ?_
      exact aw_iret rfl dX12_get_20 ⟨_, σ, rfl, rfl, h⟩
def wb_X12_start_36  (post : Int32 → WSX12 → Prop) (rec_36 : WSX12 × Int32 → Prop) (σ : WSX12) (x2 : Int32) : Prop :=
  (((32 : Int32) ≤ x2 → post (1 : Int32) σ) ∧ (¬ (32 : Int32) ≤ x2 → (vp_in x2 32 ∧ ∀ y3 : Nat → Int32, y3 = upd σ.2.2.2.2.2.2 (x2).toNatClampNeg (0 : Int32) → rec_36 ((σ.1, (σ.2.1, (σ.2.2.1, (σ.2.2.2.1, (σ.2.2.2.2.1, (σ.2.2.2.2.2.1, y3)))))), (x2 + 1)))))
def wp_X12_start_36  (post : Int32 → WSX12 → Prop) (n : Nat) (σ : WSX12) (x2 : Int32) : Prop := aw_loop (fun r (a : WSX12 × Int32) => wb_X12_start_36  post r a.1 a.2) n (σ, x2)
theorem aw_X12_start_36 {G : aw_G} {d : Nat} (hd : 1 ≤ d) {post : Int32 → WSX12 → Prop}  : ∀ (n : Nat) (σ : WSX12) (x2 : Int32), wp_X12_start_36  post n σ x2 → AW G MX12_start d 0 0 25 (aw_pi (wX12 G) post) 36 [(0, .ref 0), (2, .int x2)] [] (wX12 G σ) := by
  intro n
  induction n with
  | zero => intro σ x2 h; exact h.elim
  | succ n ih =>
    intro σ x2 h
    have hrec_36 : ∀ a : WSX12 × Int32, aw_loop (fun r (a : WSX12 × Int32) => wb_X12_start_36  post r a.1 a.2) n a → AW G MX12_start d 0 0 25 (aw_pi (wX12 G) post) 36 [(0, .ref 0), (2, .int a.2)] [] (wX12 G a.1) := fun a h => ih a.1 a.2 h
    have h : wb_X12_start_36  post (aw_loop (fun r (a : WSX12 × Int32) => wb_X12_start_36  post r a.1 a.2) n) σ x2 := h
    unfold wb_X12_start_36 at h
    refine aw_iload_n 1 dX12_start_36 rfl rfl ?_
    refine aw_bipush (v := (32 : Int32)) dX12_start_37 (by decide) ?_
    refine aw_icmp_ge 55 dX12_start_39 (by decide) (fun c4 => ?_) (fun c4 => ?_)
    · have h := h.1 c4
      refine aw_iconst (v := (1 : Int32)) dX12_start_55 (by decide) ?_
      exact aw_zret rfl rfl dX12_start_56 ⟨_, σ, rfl, rfl, h⟩
    · have h := h.2 c4
      refine aw_aload_n 0 dX12_start_42 rfl rfl ?_
      refine aw_getf (v := .ref 24) fX12_87 0 rfl rfl dX12_start_43 ?_
      refine aw_iload_n 1 dX12_start_46 rfl rfl ?_
      refine aw_iconst (v := (0 : Int32)) dX12_start_47 (by decide) ?_
      refine aw_iast 24 (n := 32) (f := σ.2.2.2.2.2.2) (w' := fun y3 => (wX12 G (σ.1, (σ.2.1, (σ.2.2.1, (σ.2.2.2.1, (σ.2.2.2.2.1, (σ.2.2.2.2.2.1, y3)))))))) rfl h.1 (fun _ => rfl) dX12_start_48 (fun y3 ey3 => ?_)
      have h := h.2 y3 ey3
      refine aw_iinc 1 (v := (x2 + 1)) (lv' := [(2, .int (x2 + 1)), (0, .ref 0)]) dX12_start_49 rfl rfl (by decide) rfl ?_
      refine aw_goto 36 dX12_start_52 (by decide) ?_
      refine aw_lvsub (lv' := [(0, .ref 0), (2, .int (x2 + 1))]) [1, 0] rfl ?_
      exact hrec_36 ((σ.1, (σ.2.1, (σ.2.2.1, (σ.2.2.2.1, (σ.2.2.2.2.1, (σ.2.2.2.2.2.1, y3)))))), (x2 + 1)) h
def wp_X12_start (σ : WSX12) (a1 : Int32) (post : Int32 → WSX12 → Prop) : Prop :=
  wp_X12_isPlace a1 (fun r1 τ2 => ((¬ r1 = 0 → (∃ n5, wp_X12_start_36  post n5 (σ.1, (σ.2.1, (σ.2.2.1, ((σ.2.2.2.1.1, (a1, (0 : Int32))), (((0 : Int32), (0 : Int32)), ((0 : Int64), σ.2.2.2.2.2.2)))))) (0 : Int32))) ∧ (r1 = 0 → post (0 : Int32) σ)))
theorem kX12_start {G : aw_G} {d : Nat} (hd : 1 ≤ d) {σ : WSX12} {a1 : Int32} {post : Int32 → WSX12 → Prop} (h : wp_X12_start σ a1 post) : AC G MX12_start d 0 0 25 [.ref 0, .int a1] (wX12 G σ) (aw_pi (wX12 G) post) := by
  refine AC.of (lv := [(0, .ref 0), (1, .int a1)]) (by decide) (Nat.le_of_ble_eq_true rfl) rfl ?_
  unfold wp_X12_start at h
  refine aw_iload_n 1 dX12_start_0 rfl rfl ?_
  refine aw_callST (st := []) (As := [.int a1]) lX12_298 sttX12_isPlace (by omega) (kX12_isPlace (d := 0) (by omega) h) rfl rfl rfl dX12_start_1 rfl (fun _ _ hh => ?_)
  obtain ⟨r1, τ2, rfl, rfl, h⟩ := hh
  refine ⟨rfl, (fun x hx => by cases hx; rfl), ?_⟩
  refine aw_stk (st' := [.int r1]) rfl ?_
  refine aw_if_ne 9 dX12_start_4 (by decide) (fun c6 => ?_) (fun c6 => ?_)
  · have h := h.1 c6
    refine aw_aload_n 0 dX12_start_9 rfl rfl ?_
    refine aw_iload_n 1 dX12_start_10 rfl rfl ?_
    refine aw_putf fX12_301 0 (w' := (wX12 G (σ.1, (σ.2.1, (σ.2.2.1, ((σ.2.2.2.1.1, (a1, σ.2.2.2.1.2.2)), σ.2.2.2.2)))))) rfl (fun _ => ⟨rfl, rfl⟩) (Nat.le_of_ble_eq_true rfl) rfl dX12_start_11 ?_
    refine aw_aload_n 0 dX12_start_14 rfl rfl ?_
    refine aw_iconst (v := (0 : Int32)) dX12_start_15 (by decide) ?_
    refine aw_putf fX12_304 0 (w' := (wX12 G (σ.1, (σ.2.1, (σ.2.2.1, ((σ.2.2.2.1.1, (a1, (0 : Int32))), σ.2.2.2.2)))))) rfl (fun _ => ⟨rfl, rfl⟩) (Nat.le_of_ble_eq_true rfl) rfl dX12_start_16 ?_
    refine aw_aload_n 0 dX12_start_19 rfl rfl ?_
    refine aw_iconst (v := (0 : Int32)) dX12_start_20 (by decide) ?_
    refine aw_putf fX12_307 0 (w' := (wX12 G (σ.1, (σ.2.1, (σ.2.2.1, ((σ.2.2.2.1.1, (a1, (0 : Int32))), (((0 : Int32), σ.2.2.2.2.1.2), σ.2.2.2.2.2))))))) rfl (fun _ => ⟨rfl, rfl⟩) (Nat.le_of_ble_eq_true rfl) rfl dX12_start_21 ?_
    refine aw_aload_n 0 dX12_start_24 rfl rfl ?_
    refine aw_iconst (v := (0 : Int32)) dX12_start_25 (by decide) ?_
    refine aw_putf fX12_310 0 (w' := (wX12 G (σ.1, (σ.2.1, (σ.2.2.1, ((σ.2.2.2.1.1, (a1, (0 : Int32))), (((0 : Int32), (0 : Int32)), σ.2.2.2.2.2))))))) rfl (fun _ => ⟨rfl, rfl⟩) (Nat.le_of_ble_eq_true rfl) rfl dX12_start_26 ?_
    refine aw_aload_n 0 dX12_start_29 rfl rfl ?_
    refine aw_lconst (v := (0 : Int64)) dX12_start_30 (by decide) ?_
    refine aw_putf fX12_313 0 (w' := (wX12 G (σ.1, (σ.2.1, (σ.2.2.1, ((σ.2.2.2.1.1, (a1, (0 : Int32))), (((0 : Int32), (0 : Int32)), ((0 : Int64), σ.2.2.2.2.2.2)))))))) rfl (fun _ => ⟨rfl, rfl⟩) (Nat.le_of_ble_eq_true rfl) rfl dX12_start_31 ?_
    refine aw_iconst (v := (0 : Int32)) dX12_start_34 (by decide) ?_
    refine aw_istore_n (lv' := [(2, .int (0 : Int32)), (0, .ref 0), (1, .int a1)]) dX12_start_35 rfl (by decide) rfl ?_
    refine aw_lvsub (lv' := [(0, .ref 0), (2, .int (0 : Int32))]) [1, 0] rfl ?_
    obtain ⟨n5, h⟩ := h
    exact aw_X12_start_36 hd  n5 (σ.1, (σ.2.1, (σ.2.2.1, ((σ.2.2.2.1.1, (a1, (0 : Int32))), (((0 : Int32), (0 : Int32)), ((0 : Int64), σ.2.2.2.2.2.2)))))) (0 : Int32) h
  · have h := h.2 c6
    refine aw_iconst (v := (0 : Int32)) dX12_start_7 (by decide) ?_
    exact aw_zret rfl rfl dX12_start_8 ⟨_, σ, rfl, rfl, h⟩
def wp_X12_event (σ : WSX12) (a1 : Int64) (post : WSX12 → Prop) : Prop :=
  (∀ y1 : Int64, y1 = (((σ.2.2.2.2.2.1 * (6364136223846793005 : Int64)) + a1) + (1 : Int64)) → post (σ.1, (σ.2.1, (σ.2.2.1, (σ.2.2.2.1, (σ.2.2.2.2.1, (y1, σ.2.2.2.2.2.2)))))))
theorem kX12_event {G : aw_G} {d : Nat} (hd : 0 ≤ d) {σ : WSX12} {a1 : Int64} {post : WSX12 → Prop} (h : wp_X12_event σ a1 post) : AC G MX12_event d 0 0 25 [.ref 0, .long a1] (wX12 G σ) (aw_pv (wX12 G) post) := by
  refine AC.of (lv := [(0, .ref 0), (1, .long a1)]) (by decide) (Nat.le_of_ble_eq_true rfl) rfl ?_
  unfold wp_X12_event at h
  refine aw_aload_n 0 dX12_event_0 rfl rfl ?_
  refine aw_aload_n 0 dX12_event_1 rfl rfl ?_
  refine aw_getf (v := .long σ.2.2.2.2.2.1) fX12_313 0 rfl rfl dX12_event_2 ?_
  refine aw_ldc2 (v := (6364136223846793005 : Int64)) dX12_event_5 oX12_317 ?_
  refine aw_lmul dX12_event_8 ?_
  refine aw_lload_n 1 dX12_event_9 rfl rfl ?_
  refine aw_ladd dX12_event_10 ?_
  refine aw_lconst (v := (1 : Int64)) dX12_event_11 (by decide) ?_
  refine aw_ladd dX12_event_12 ?_
  refine aw_topl (fun y1 ey1 => ?_)
  have h := h y1 ey1
  refine aw_putf fX12_313 0 (w' := (wX12 G (σ.1, (σ.2.1, (σ.2.2.1, (σ.2.2.2.1, (σ.2.2.2.2.1, (y1, σ.2.2.2.2.2.2)))))))) rfl (fun _ => ⟨rfl, rfl⟩) (Nat.le_of_ble_eq_true rfl) rfl dX12_event_13 ?_
  exact aw_vret rfl dX12_event_16 ⟨(σ.1, (σ.2.1, (σ.2.2.1, (σ.2.2.2.1, (σ.2.2.2.2.1, (y1, σ.2.2.2.2.2.2)))))), rfl, rfl, h⟩
def wp_X12_access_63  (post : WSX12 → Prop) (σ : WSX12) (x2 : Int32) (x3 : Int32) : Prop :=
  (vp_in ((2 : Int32) * x3) 32 ∧ (vp_in (((2 : Int32) * x3) + (1 : Int32)) 32 ∧ ∀ y3 : Nat → Int32, y3 = upd σ.2.2.2.2.2.2 ((((2 : Int32) * x3) + (1 : Int32))).toNatClampNeg (σ.2.2.2.2.2.2 (((2 : Int32) * x3)).toNatClampNeg) → (vp_in ((2 : Int32) * x3) 32 ∧ ∀ y4 : Nat → Int32, y4 = upd y3 (((2 : Int32) * x3)).toNatClampNeg x2 → post (σ.1, (σ.2.1, (σ.2.2.1, (σ.2.2.2.1, (σ.2.2.2.2.1, (σ.2.2.2.2.2.1, y4)))))))))
theorem aw_X12_access_63 {G : aw_G} {d : Nat} (hd : 0 ≤ d) {post : WSX12 → Prop}  {σ : WSX12} {x2 : Int32} {x3 : Int32} (h : wp_X12_access_63  post σ x2 x3) : AW G MX12_access d 0 0 25 (aw_pv (wX12 G) post) 63 [(0, .ref 0), (2, .int x2), (3, .int x3)] [] (wX12 G σ) := by
  unfold wp_X12_access_63 at h
  refine aw_aload_n 0 dX12_access_63 rfl rfl ?_
  refine aw_getf (v := .ref 24) fX12_87 0 rfl rfl dX12_access_64 ?_
  refine aw_iconst (v := (2 : Int32)) dX12_access_67 (by decide) ?_
  refine aw_iload_n 2 dX12_access_68 rfl rfl ?_
  refine aw_imul dX12_access_69 ?_
  refine aw_iconst (v := (1 : Int32)) dX12_access_70 (by decide) ?_
  refine aw_iadd dX12_access_71 ?_
  refine aw_aload_n 0 dX12_access_72 rfl rfl ?_
  refine aw_getf (v := .ref 24) fX12_87 0 rfl rfl dX12_access_73 ?_
  refine aw_iconst (v := (2 : Int32)) dX12_access_76 (by decide) ?_
  refine aw_iload_n 2 dX12_access_77 rfl rfl ?_
  refine aw_imul dX12_access_78 ?_
  refine aw_iald 24 (n := 32) (f := σ.2.2.2.2.2.2) rfl h.1 dX12_access_79 ?_
  have h := h.2
  refine aw_iast 24 (n := 32) (f := σ.2.2.2.2.2.2) (w' := fun y3 => (wX12 G (σ.1, (σ.2.1, (σ.2.2.1, (σ.2.2.2.1, (σ.2.2.2.2.1, (σ.2.2.2.2.2.1, y3)))))))) rfl h.1 (fun _ => rfl) dX12_access_80 (fun y3 ey3 => ?_)
  have h := h.2 y3 ey3
  refine aw_aload_n 0 dX12_access_81 rfl rfl ?_
  refine aw_getf (v := .ref 24) fX12_87 0 rfl rfl dX12_access_82 ?_
  refine aw_iconst (v := (2 : Int32)) dX12_access_85 (by decide) ?_
  refine aw_iload_n 2 dX12_access_86 rfl rfl ?_
  refine aw_imul dX12_access_87 ?_
  refine aw_iload_n 1 dX12_access_88 rfl rfl ?_
  refine aw_iast 24 (n := 32) (f := y3) (w' := fun y4 => (wX12 G (σ.1, (σ.2.1, (σ.2.2.1, (σ.2.2.2.1, (σ.2.2.2.2.1, (σ.2.2.2.2.2.1, y4)))))))) rfl h.1 (fun _ => rfl) dX12_access_89 (fun y4 ey4 => ?_)
  have h := h.2 y4 ey4
  exact aw_vret rfl dX12_access_90 ⟨(σ.1, (σ.2.1, (σ.2.2.1, (σ.2.2.2.1, (σ.2.2.2.2.1, (σ.2.2.2.2.2.1, y4)))))), rfl, rfl, h⟩
def wp_X12_access (σ : WSX12) (a1 : Int32) (post : WSX12 → Prop) : Prop :=
  (∀ y1 : Int32, y1 = ((a1 / (16 : Int32)) + (1 : Int32)) → (∀ y2 : Int32, y2 = ((a1 / (16 : Int32)) - (a1 / (16 : Int32)) / (16 : Int32) * (16 : Int32)) → (vp_in ((2 : Int32) * y2) 32 ∧ ((¬ (σ.2.2.2.2.2.2 (((2 : Int32) * y2)).toNatClampNeg) = y1 → (vp_in (((2 : Int32) * y2) + (1 : Int32)) 32 ∧ (((σ.2.2.2.2.2.2 ((((2 : Int32) * y2) + (1 : Int32))).toNatClampNeg) = y1 → wp_X12_access_63  post σ y1 y2) ∧ (¬ (σ.2.2.2.2.2.2 ((((2 : Int32) * y2) + (1 : Int32))).toNatClampNeg) = y1 → (∀ y5 : Int32, y5 = (σ.2.2.2.2.1.2 + (1 : Int32)) → (∀ y6 : Int32, y6 = (σ.2.2.2.2.1.1 + (20 : Int32)) → wp_X12_access_63  post (σ.1, (σ.2.1, (σ.2.2.1, (σ.2.2.2.1, ((y6, y5), σ.2.2.2.2.2))))) y1 y2)))))) ∧ ((σ.2.2.2.2.2.2 (((2 : Int32) * y2)).toNatClampNeg) = y1 → post σ)))))
theorem kX12_access {G : aw_G} {d : Nat} (hd : 0 ≤ d) {σ : WSX12} {a1 : Int32} {post : WSX12 → Prop} (h : wp_X12_access σ a1 post) : AC G MX12_access d 0 0 25 [.ref 0, .int a1] (wX12 G σ) (aw_pv (wX12 G) post) := by
  refine AC.of (lv := [(0, .ref 0), (1, .int a1)]) (by decide) (Nat.le_of_ble_eq_true rfl) rfl ?_
  unfold wp_X12_access at h
  refine aw_iload_n 1 dX12_access_0 rfl rfl ?_
  refine aw_bipush (v := (16 : Int32)) dX12_access_1 (by decide) ?_
  refine aw_idiv dX12_access_3 (by decide) ?_
  refine aw_iconst (v := (1 : Int32)) dX12_access_4 (by decide) ?_
  refine aw_iadd dX12_access_5 ?_
  refine aw_topi (fun y1 ey1 => ?_)
  have h := h y1 ey1
  refine aw_istore_n (lv' := [(2, .int y1), (0, .ref 0), (1, .int a1)]) dX12_access_6 rfl (by decide) rfl ?_
  refine aw_iload_n 2 dX12_access_7 rfl rfl ?_
  refine aw_bipush (v := (16 : Int32)) dX12_access_8 (by decide) ?_
  refine aw_idiv dX12_access_10 (by decide) ?_
  refine aw_bipush (v := (16 : Int32)) dX12_access_11 (by decide) ?_
  refine aw_irem dX12_access_13 (by decide) ?_
  refine aw_topi (fun y2 ey2 => ?_)
  have h := h y2 ey2
  refine aw_istore_n (lv' := [(3, .int y2), (2, .int y1), (0, .ref 0), (1, .int a1)]) dX12_access_14 rfl (by decide) rfl ?_
  refine aw_aload_n 2 dX12_access_15 rfl rfl ?_
  refine aw_getf (v := .ref 24) fX12_87 0 rfl rfl dX12_access_16 ?_
  refine aw_iconst (v := (2 : Int32)) dX12_access_19 (by decide) ?_
  refine aw_iload_n 0 dX12_access_20 rfl rfl ?_
  refine aw_imul dX12_access_21 ?_
  refine aw_iald 24 (n := 32) (f := σ.2.2.2.2.2.2) rfl h.1 dX12_access_22 ?_
  have h := h.2
  refine aw_iload_n 1 dX12_access_23 rfl rfl ?_
  refine aw_icmp_ne 28 dX12_access_24 (by decide) (fun c8 => ?_) (fun c8 => ?_)
  · have h := h.1 c8
    refine aw_aload_n 2 dX12_access_28 rfl rfl ?_
    refine aw_getf (v := .ref 24) fX12_87 0 rfl rfl dX12_access_29 ?_
    refine aw_iconst (v := (2 : Int32)) dX12_access_32 (by decide) ?_
    refine aw_iload_n 0 dX12_access_33 rfl rfl ?_
    refine aw_imul dX12_access_34 ?_
    refine aw_iconst (v := (1 : Int32)) dX12_access_35 (by decide) ?_
    refine aw_iadd dX12_access_36 ?_
    refine aw_iald 24 (n := 32) (f := σ.2.2.2.2.2.2) rfl h.1 dX12_access_37 ?_
    have h := h.2
    refine aw_iload_n 1 dX12_access_38 rfl rfl ?_
    refine aw_icmp_eq 63 dX12_access_39 (by decide) (fun c7 => ?_) (fun c7 => ?_)
    · have h := h.1 c7
      refine aw_lvsub (lv' := [(0, .ref 0), (2, .int y1), (3, .int y2)]) [2, 1, 0] rfl ?_
      exact aw_X12_access_63 hd  h
    · have h := h.2 c7
      refine aw_aload_n 2 dX12_access_42 rfl rfl ?_
      refine aw_dup dX12_access_43 rfl ?_
      refine aw_getf (v := .int σ.2.2.2.2.1.2) fX12_310 0 rfl rfl dX12_access_44 ?_
      refine aw_iconst (v := (1 : Int32)) dX12_access_47 (by decide) ?_
      refine aw_iadd dX12_access_48 ?_
      refine aw_topi (fun y5 ey5 => ?_)
      have h := h y5 ey5
      refine aw_putf fX12_310 0 (w' := (wX12 G (σ.1, (σ.2.1, (σ.2.2.1, (σ.2.2.2.1, ((σ.2.2.2.2.1.1, y5), σ.2.2.2.2.2))))))) rfl (fun _ => ⟨rfl, rfl⟩) (Nat.le_of_ble_eq_true rfl) rfl dX12_access_49 ?_
      refine aw_aload_n 2 dX12_access_52 rfl rfl ?_
      refine aw_dup dX12_access_53 rfl ?_
      refine aw_getf (v := .int σ.2.2.2.2.1.1) fX12_307 0 rfl rfl dX12_access_54 ?_
      refine aw_bipush (v := (20 : Int32)) dX12_access_57 (by decide) ?_
      refine aw_iadd dX12_access_59 ?_
      refine aw_topi (fun y6 ey6 => ?_)
      have h := h y6 ey6
      refine aw_putf fX12_307 0 (w' := (wX12 G (σ.1, (σ.2.1, (σ.2.2.1, (σ.2.2.2.1, ((y6, y5), σ.2.2.2.2.2))))))) rfl (fun _ => ⟨rfl, rfl⟩) (Nat.le_of_ble_eq_true rfl) rfl dX12_access_60 ?_
      refine aw_lvsub (lv' := [(0, .ref 0), (2, .int y1), (3, .int y2)]) [2, 1, 0] rfl ?_
      exact aw_X12_access_63 hd  h
  · have h := h.2 c8
    exact aw_vret rfl dX12_access_27 ⟨σ, rfl, rfl, h⟩
def wp_X12_write (σ : WSX12) (a1 : Int32) (a2 : Int32) (post : WSX12 → Prop) : Prop :=
  ((¬ a1 = 0 → (vp_in a1 32 ∧ ∀ y1 : Nat → Int32, y1 = upd σ.2.2.2.1.1 (a1).toNatClampNeg a2 → post (σ.1, (σ.2.1, (σ.2.2.1, ((y1, σ.2.2.2.1.2), σ.2.2.2.2)))))) ∧ (a1 = 0 → (vp_in a1 32 ∧ ∀ y2 : Nat → Int32, y2 = upd σ.2.2.2.1.1 (a1).toNatClampNeg (0 : Int32) → post (σ.1, (σ.2.1, (σ.2.2.1, ((y2, σ.2.2.2.1.2), σ.2.2.2.2)))))))
theorem kX12_write {G : aw_G} {d : Nat} (hd : 0 ≤ d) {σ : WSX12} {a1 : Int32} {a2 : Int32} {post : WSX12 → Prop} (h : wp_X12_write σ a1 a2 post) : AC G MX12_write d 0 0 25 [.ref 0, .int a1, .int a2] (wX12 G σ) (aw_pv (wX12 G) post) := by
  refine AC.of (lv := [(0, .ref 0), (1, .int a1), (2, .int a2)]) (by decide) (Nat.le_of_ble_eq_true rfl) rfl ?_
  unfold wp_X12_write at h
  refine aw_aload_n 0 dX12_write_0 rfl rfl ?_
  refine aw_getf (v := .ref 23) fX12_84 0 rfl rfl dX12_write_1 ?_
  refine aw_iload_n 1 dX12_write_4 rfl rfl ?_
  refine aw_iload_n 1 dX12_write_5 rfl rfl ?_
  refine aw_if_ne 13 dX12_write_6 (by decide) (fun c3 => ?_) (fun c3 => ?_)
  · have h := h.1 c3
    refine aw_iload_n 2 dX12_write_13 rfl rfl ?_
    refine aw_iast 23 (n := 32) (f := σ.2.2.2.1.1) (w' := fun y1 => (wX12 G (σ.1, (σ.2.1, (σ.2.2.1, ((y1, σ.2.2.2.1.2), σ.2.2.2.2)))))) rfl h.1 (fun _ => rfl) dX12_write_14 (fun y1 ey1 => ?_)
    have h := h.2 y1 ey1
    exact aw_vret rfl dX12_write_15 ⟨(σ.1, (σ.2.1, (σ.2.2.1, ((y1, σ.2.2.2.1.2), σ.2.2.2.2)))), rfl, rfl, h⟩
  · have h := h.2 c3
    refine aw_iconst (v := (0 : Int32)) dX12_write_9 (by decide) ?_
    refine aw_goto 14 dX12_write_10 (by decide) ?_
    refine aw_iast 23 (n := 32) (f := σ.2.2.2.1.1) (w' := fun y2 => (wX12 G (σ.1, (σ.2.1, (σ.2.2.1, ((y2, σ.2.2.2.1.2), σ.2.2.2.2)))))) rfl h.1 (fun _ => rfl) dX12_write_14 (fun y2 ey2 => ?_)
    have h := h.2 y2 ey2
    exact aw_vret rfl dX12_write_15 ⟨(σ.1, (σ.2.1, (σ.2.2.1, ((y2, σ.2.2.2.1.2), σ.2.2.2.2)))), rfl, rfl, h⟩
def wp_X12_reckon (a0 : Int32) (a1 : Int32) (a2 : Int32) (a3 : Int32) (post : Int32 → Unit → Prop) : Prop :=
  ((a0 = (0 : Int32) → ((a1 = 0 → post (a2 + a3) ()) ∧ (¬ a1 = 0 → post (a2 - a3) ()))) ∧ (¬ a0 = (0 : Int32) → ((a0 = (1 : Int32) → post (a2 <<< ((a3 &&& (31 : Int32)) &&& 31)) ()) ∧ (¬ a0 = (1 : Int32) → ((a0 = (2 : Int32) → ((a3 ≤ a2 → post (0 : Int32) ()) ∧ (¬ a3 ≤ a2 → post (1 : Int32) ()))) ∧ (¬ a0 = (2 : Int32) → ((a0 = (3 : Int32) → (((a3 ^^^ ((-2147483648) : Int32)) ≤ (a2 ^^^ ((-2147483648) : Int32)) → post (0 : Int32) ()) ∧ (¬ (a3 ^^^ ((-2147483648) : Int32)) ≤ (a2 ^^^ ((-2147483648) : Int32)) → post (1 : Int32) ()))) ∧ (¬ a0 = (3 : Int32) → ((a0 = (4 : Int32) → post (a2 ^^^ a3) ()) ∧ (¬ a0 = (4 : Int32) → ((a0 = (5 : Int32) → ((a1 = 0 → post ((a2).toUInt32 >>> (((a3 &&& (31 : Int32))).toUInt32 &&& Int32.toUInt32 31)).toInt32 ()) ∧ (¬ a1 = 0 → post (a2 >>> ((a3 &&& (31 : Int32)) &&& 31)) ()))) ∧ (¬ a0 = (5 : Int32) → ((a0 = (6 : Int32) → post (a2 ||| a3) ()) ∧ (¬ a0 = (6 : Int32) → post (a2 &&& a3) ()))))))))))))))
theorem kX12_reckon {G : aw_G} {d : Nat} (hd : 0 ≤ d) {a0 : Int32} {a1 : Int32} {a2 : Int32} {a3 : Int32} {post : Int32 → Unit → Prop} (h : wp_X12_reckon a0 a1 a2 a3 post) : AC G MX12_reckon d 0 0 0 [.int a0, .int a1, .int a2, .int a3] [] (aw_pi (fun _ : Unit => []) post) := by
  refine AC.of (lv := [(0, .int a0), (1, .int a1), (2, .int a2), (3, .int a3)]) (by decide) (Nat.le_of_ble_eq_true rfl) rfl ?_
  unfold wp_X12_reckon at h
  refine aw_iload_n 0 dX12_reckon_0 rfl rfl ?_
  by_cases c1 : a0 = (0 : Int32)
  · refine aw_tableIn 44 (off := 43) dX12_reckon_1 (by rw [c1]; decide) (by rw [c1]; decide) (by rw [c1]; rfl) (by decide) ?_
    have h := h.1 c1
    refine aw_iload_n 1 dX12_reckon_44 rfl rfl ?_
    refine aw_if_eq 54 dX12_reckon_45 (by decide) (fun c2 => ?_) (fun c2 => ?_)
    · have h := h.1 c2
      refine aw_iload_n 2 dX12_reckon_54 rfl rfl ?_
      refine aw_iload_n 3 dX12_reckon_55 rfl rfl ?_
      refine aw_iadd dX12_reckon_56 ?_
      exact aw_iret rfl dX12_reckon_57 ⟨_, (), rfl, rfl, h⟩
    · have h := h.2 c2
      refine aw_iload_n 2 dX12_reckon_48 rfl rfl ?_
      refine aw_iload_n 3 dX12_reckon_49 rfl rfl ?_
      refine aw_isub dX12_reckon_50 ?_
      refine aw_goto 57 dX12_reckon_51 (by decide) ?_
      exact aw_iret rfl dX12_reckon_57 ⟨_, (), rfl, rfl, h⟩
  have h := h.2 c1
  by_cases c3 : a0 = (1 : Int32)
  · refine aw_tableIn 58 (off := 57) dX12_reckon_1 (by rw [c3]; decide) (by rw [c3]; decide) (by rw [c3]; rfl) (by decide) ?_
    have h := h.1 c3
    refine aw_iload_n 2 dX12_reckon_58 rfl rfl ?_
    refine aw_iload_n 3 dX12_reckon_59 rfl rfl ?_
    refine aw_bipush (v := (31 : Int32)) dX12_reckon_60 (by decide) ?_
    refine aw_iand dX12_reckon_62 ?_
    refine aw_ishl dX12_reckon_63 ?_
    exact aw_iret rfl dX12_reckon_64 ⟨_, (), rfl, rfl, h⟩
  have h := h.2 c3
  by_cases c4 : a0 = (2 : Int32)
  · refine aw_tableIn 65 (off := 64) dX12_reckon_1 (by rw [c4]; decide) (by rw [c4]; decide) (by rw [c4]; rfl) (by decide) ?_
    have h := h.1 c4
    refine aw_iload_n 2 dX12_reckon_65 rfl rfl ?_
    refine aw_iload_n 3 dX12_reckon_66 rfl rfl ?_
    refine aw_icmp_ge 74 dX12_reckon_67 (by decide) (fun c5 => ?_) (fun c5 => ?_)
    · have h := h.1 c5
      refine aw_iconst (v := (0 : Int32)) dX12_reckon_74 (by decide) ?_
      exact aw_iret rfl dX12_reckon_75 ⟨_, (), rfl, rfl, h⟩
    · have h := h.2 c5
      refine aw_iconst (v := (1 : Int32)) dX12_reckon_70 (by decide) ?_
      refine aw_goto 75 dX12_reckon_71 (by decide) ?_
      exact aw_iret rfl dX12_reckon_75 ⟨_, (), rfl, rfl, h⟩
  have h := h.2 c4
  by_cases c6 : a0 = (3 : Int32)
  · refine aw_tableIn 76 (off := 75) dX12_reckon_1 (by rw [c6]; decide) (by rw [c6]; decide) (by rw [c6]; rfl) (by decide) ?_
    have h := h.1 c6
    refine aw_iload_n 2 dX12_reckon_76 rfl rfl ?_
    refine aw_ldcw (v := ((-2147483648) : Int32)) dX12_reckon_77 oX12_319 ?_
    refine aw_ixor dX12_reckon_80 ?_
    refine aw_iload_n 3 dX12_reckon_81 rfl rfl ?_
    refine aw_ldcw (v := ((-2147483648) : Int32)) dX12_reckon_82 oX12_319 ?_
    refine aw_ixor dX12_reckon_85 ?_
    refine aw_icmp_ge 93 dX12_reckon_86 (by decide) (fun c7 => ?_) (fun c7 => ?_)
    · have h := h.1 c7
      refine aw_iconst (v := (0 : Int32)) dX12_reckon_93 (by decide) ?_
      exact aw_iret rfl dX12_reckon_94 ⟨_, (), rfl, rfl, h⟩
    · have h := h.2 c7
      refine aw_iconst (v := (1 : Int32)) dX12_reckon_89 (by decide) ?_
      refine aw_goto 94 dX12_reckon_90 (by decide) ?_
      exact aw_iret rfl dX12_reckon_94 ⟨_, (), rfl, rfl, h⟩
  have h := h.2 c6
  by_cases c8 : a0 = (4 : Int32)
  · refine aw_tableIn 95 (off := 94) dX12_reckon_1 (by rw [c8]; decide) (by rw [c8]; decide) (by rw [c8]; rfl) (by decide) ?_
    have h := h.1 c8
    refine aw_iload_n 2 dX12_reckon_95 rfl rfl ?_
    refine aw_iload_n 3 dX12_reckon_96 rfl rfl ?_
    refine aw_ixor dX12_reckon_97 ?_
    exact aw_iret rfl dX12_reckon_98 ⟨_, (), rfl, rfl, h⟩
  have h := h.2 c8
  by_cases c9 : a0 = (5 : Int32)
  · refine aw_tableIn 99 (off := 98) dX12_reckon_1 (by rw [c9]; decide) (by rw [c9]; decide) (by rw [c9]; rfl) (by decide) ?_
    have h := h.1 c9
    refine aw_iload_n 1 dX12_reckon_99 rfl rfl ?_
    refine aw_if_eq 112 dX12_reckon_100 (by decide) (fun c10 => ?_) (fun c10 => ?_)
    · have h := h.1 c10
      refine aw_iload_n 2 dX12_reckon_112 rfl rfl ?_
      refine aw_iload_n 3 dX12_reckon_113 rfl rfl ?_
      refine aw_bipush (v := (31 : Int32)) dX12_reckon_114 (by decide) ?_
      refine aw_iand dX12_reckon_116 ?_
      refine aw_iushr dX12_reckon_117 ?_
      exact aw_iret rfl dX12_reckon_118 ⟨_, (), rfl, rfl, h⟩
    · have h := h.2 c10
      refine aw_iload_n 2 dX12_reckon_103 rfl rfl ?_
      refine aw_iload_n 3 dX12_reckon_104 rfl rfl ?_
      refine aw_bipush (v := (31 : Int32)) dX12_reckon_105 (by decide) ?_
      refine aw_iand dX12_reckon_107 ?_
      refine aw_ishr dX12_reckon_108 ?_
      refine aw_goto 118 dX12_reckon_109 (by decide) ?_
      exact aw_iret rfl dX12_reckon_118 ⟨_, (), rfl, rfl, h⟩
  have h := h.2 c9
  by_cases c11 : a0 = (6 : Int32)
  · refine aw_tableIn 119 (off := 118) dX12_reckon_1 (by rw [c11]; decide) (by rw [c11]; decide) (by rw [c11]; rfl) (by decide) ?_
    have h := h.1 c11
    refine aw_iload_n 2 dX12_reckon_119 rfl rfl ?_
    refine aw_iload_n 3 dX12_reckon_120 rfl rfl ?_
    refine aw_ior dX12_reckon_121 ?_
    exact aw_iret rfl dX12_reckon_122 ⟨_, (), rfl, rfl, h⟩
  have h := h.2 c11
  refine aw_tableOut 123 dX12_reckon_1 (by have := lv_neT (a := 0) c1 rfl; have := lv_neT (a := 1) c3 rfl; have := lv_neT (a := 2) c4 rfl; have := lv_neT (a := 3) c6 rfl; have := lv_neT (a := 4) c8 rfl; have := lv_neT (a := 5) c9 rfl; have := lv_neT (a := 6) c11 rfl; omega) (by decide) ?_
  refine aw_iload_n 2 dX12_reckon_123 rfl rfl ?_
  refine aw_iload_n 3 dX12_reckon_124 rfl rfl ?_
  refine aw_iand dX12_reckon_125 ?_
  exact aw_iret rfl dX12_reckon_126 ⟨_, (), rfl, rfl, h⟩
def wp_X12_multiply (a0 : Int32) (a1 : Int32) (a2 : Int32) (post : Int32 → Unit → Prop) : Prop :=
  (∀ y1 : Int64, y1 = ((a1).toInt64 &&& (4294967295 : Int64)) → (∀ y2 : Int64, y2 = ((a2).toInt64 &&& (4294967295 : Int64)) → ((a0 = (0 : Int32) → post (a1 * a2) ()) ∧ (¬ a0 = (0 : Int32) → ((a0 = (1 : Int32) → post ((((a1).toInt64 * (a2).toInt64) >>> (((32 : Int32)).toInt64 &&& 63))).toInt32 ()) ∧ (¬ a0 = (1 : Int32) → ((a0 = (2 : Int32) → post ((((a1).toInt64 * y2) >>> (((32 : Int32)).toInt64 &&& 63))).toInt32 ()) ∧ (¬ a0 = (2 : Int32) → ((a0 = (3 : Int32) → post ((((y1 * y2)).toUInt64 >>> (((32 : Int32)).toInt64.toUInt64 &&& Int64.toUInt64 63)).toInt64).toInt32 ()) ∧ (¬ a0 = (3 : Int32) → ((a0 = (4 : Int32) → ((¬ a2 = 0 → (¬ a2 = 0 ∧ post (a1 / a2) ())) ∧ (a2 = 0 → post ((-1) : Int32) ()))) ∧ (¬ a0 = (4 : Int32) → ((a0 = (5 : Int32) → ((¬ a2 = 0 → (¬ y2 = 0 ∧ post ((y1 / y2)).toInt32 ())) ∧ (a2 = 0 → post ((-1) : Int32) ()))) ∧ (¬ a0 = (5 : Int32) → ((a0 = (6 : Int32) → ((¬ a2 = 0 → (¬ a2 = 0 ∧ post (a1 - a1 / a2 * a2) ())) ∧ (a2 = 0 → post a1 ()))) ∧ (¬ a0 = (6 : Int32) → ((¬ a2 = 0 → (¬ y2 = 0 ∧ post ((y1 - y1 / y2 * y2)).toInt32 ())) ∧ (a2 = 0 → post a1 ()))))))))))))))))))
theorem kX12_multiply {G : aw_G} {d : Nat} (hd : 0 ≤ d) {a0 : Int32} {a1 : Int32} {a2 : Int32} {post : Int32 → Unit → Prop} (h : wp_X12_multiply a0 a1 a2 post) : AC G MX12_multiply d 0 0 0 [.int a0, .int a1, .int a2] [] (aw_pi (fun _ : Unit => []) post) := by
  refine AC.of (lv := [(0, .int a0), (1, .int a1), (2, .int a2)]) (by decide) (Nat.le_of_ble_eq_true rfl) rfl ?_
  unfold wp_X12_multiply at h
  refine aw_iload_n 1 dX12_multiply_0 rfl rfl ?_
  refine aw_i2l dX12_multiply_1 ?_
  refine aw_ldc2 (v := (4294967295 : Int64)) dX12_multiply_2 oX12_320 ?_
  refine aw_land dX12_multiply_5 ?_
  refine aw_topl (fun y1 ey1 => ?_)
  have h := h y1 ey1
  refine aw_lstore_n (lv' := [(3, .long y1), (0, .int a0), (1, .int a1), (2, .int a2)]) dX12_multiply_6 rfl (by decide) rfl ?_
  refine aw_iload_n 3 dX12_multiply_7 rfl rfl ?_
  refine aw_i2l dX12_multiply_8 ?_
  refine aw_ldc2 (v := (4294967295 : Int64)) dX12_multiply_9 oX12_320 ?_
  refine aw_land dX12_multiply_12 ?_
  refine aw_topl (fun y2 ey2 => ?_)
  have h := h y2 ey2
  refine aw_lstore (lv' := [(5, .long y2), (3, .long y1), (0, .int a0), (1, .int a1), (2, .int a2)]) dX12_multiply_13 (by decide) rfl ?_
  refine aw_iload_n 2 dX12_multiply_15 rfl rfl ?_
  by_cases c3 : a0 = (0 : Int32)
  · refine aw_tableIn 60 (off := 44) dX12_multiply_16 (by rw [c3]; decide) (by rw [c3]; decide) (by rw [c3]; rfl) (by decide) ?_
    have h := h.1 c3
    refine aw_iload_n 3 dX12_multiply_60 rfl rfl ?_
    refine aw_iload_n 4 dX12_multiply_61 rfl rfl ?_
    refine aw_imul dX12_multiply_62 ?_
    exact aw_iret rfl dX12_multiply_63 ⟨_, (), rfl, rfl, h⟩
  have h := h.2 c3
  by_cases c4 : a0 = (1 : Int32)
  · refine aw_tableIn 64 (off := 48) dX12_multiply_16 (by rw [c4]; decide) (by rw [c4]; decide) (by rw [c4]; rfl) (by decide) ?_
    have h := h.1 c4
    refine aw_iload_n 3 dX12_multiply_64 rfl rfl ?_
    refine aw_i2l dX12_multiply_65 ?_
    refine aw_iload_n 4 dX12_multiply_66 rfl rfl ?_
    refine aw_i2l dX12_multiply_67 ?_
    refine aw_lmul dX12_multiply_68 ?_
    refine aw_bipush (v := (32 : Int32)) dX12_multiply_69 (by decide) ?_
    refine aw_lshr dX12_multiply_71 ?_
    refine aw_l2i dX12_multiply_72 ?_
    exact aw_iret rfl dX12_multiply_73 ⟨_, (), rfl, rfl, h⟩
  have h := h.2 c4
  by_cases c5 : a0 = (2 : Int32)
  · refine aw_tableIn 74 (off := 58) dX12_multiply_16 (by rw [c5]; decide) (by rw [c5]; decide) (by rw [c5]; rfl) (by decide) ?_
    have h := h.1 c5
    refine aw_iload_n 3 dX12_multiply_74 rfl rfl ?_
    refine aw_i2l dX12_multiply_75 ?_
    refine aw_lload 0 dX12_multiply_76 rfl ?_
    refine aw_lmul dX12_multiply_78 ?_
    refine aw_bipush (v := (32 : Int32)) dX12_multiply_79 (by decide) ?_
    refine aw_lshr dX12_multiply_81 ?_
    refine aw_l2i dX12_multiply_82 ?_
    exact aw_iret rfl dX12_multiply_83 ⟨_, (), rfl, rfl, h⟩
  have h := h.2 c5
  by_cases c6 : a0 = (3 : Int32)
  · refine aw_tableIn 84 (off := 68) dX12_multiply_16 (by rw [c6]; decide) (by rw [c6]; decide) (by rw [c6]; rfl) (by decide) ?_
    have h := h.1 c6
    refine aw_lload_n 1 dX12_multiply_84 rfl rfl ?_
    refine aw_lload 0 dX12_multiply_85 rfl ?_
    refine aw_lmul dX12_multiply_87 ?_
    refine aw_bipush (v := (32 : Int32)) dX12_multiply_88 (by decide) ?_
    refine aw_lushr dX12_multiply_90 ?_
    refine aw_l2i dX12_multiply_91 ?_
    exact aw_iret rfl dX12_multiply_92 ⟨_, (), rfl, rfl, h⟩
  have h := h.2 c6
  by_cases c7 : a0 = (4 : Int32)
  · refine aw_tableIn 93 (off := 77) dX12_multiply_16 (by rw [c7]; decide) (by rw [c7]; decide) (by rw [c7]; rfl) (by decide) ?_
    have h := h.1 c7
    refine aw_iload_n 4 dX12_multiply_93 rfl rfl ?_
    refine aw_if_ne 101 dX12_multiply_94 (by decide) (fun c8 => ?_) (fun c8 => ?_)
    · have h := h.1 c8
      refine aw_iload_n 3 dX12_multiply_101 rfl rfl ?_
      refine aw_iload_n 4 dX12_multiply_102 rfl rfl ?_
      refine aw_idiv dX12_multiply_103 h.1 ?_
      have h := h.2
      exact aw_iret rfl dX12_multiply_104 ⟨_, (), rfl, rfl, h⟩
    · have h := h.2 c8
      refine aw_iconst (v := ((-1) : Int32)) dX12_multiply_97 (by decide) ?_
      refine aw_goto 104 dX12_multiply_98 (by decide) ?_
      exact aw_iret rfl dX12_multiply_104 ⟨_, (), rfl, rfl, h⟩
  have h := h.2 c7
  by_cases c9 : a0 = (5 : Int32)
  · refine aw_tableIn 105 (off := 89) dX12_multiply_16 (by rw [c9]; decide) (by rw [c9]; decide) (by rw [c9]; rfl) (by decide) ?_
    have h := h.1 c9
    refine aw_iload_n 4 dX12_multiply_105 rfl rfl ?_
    refine aw_if_ne 113 dX12_multiply_106 (by decide) (fun c10 => ?_) (fun c10 => ?_)
    · have h := h.1 c10
      refine aw_lload_n 1 dX12_multiply_113 rfl rfl ?_
      refine aw_lload 0 dX12_multiply_114 rfl ?_
      refine aw_ldiv dX12_multiply_116 h.1 ?_
      have h := h.2
      refine aw_l2i dX12_multiply_117 ?_
      exact aw_iret rfl dX12_multiply_118 ⟨_, (), rfl, rfl, h⟩
    · have h := h.2 c10
      refine aw_iconst (v := ((-1) : Int32)) dX12_multiply_109 (by decide) ?_
      refine aw_goto 118 dX12_multiply_110 (by decide) ?_
      exact aw_iret rfl dX12_multiply_118 ⟨_, (), rfl, rfl, h⟩
  have h := h.2 c9
  by_cases c11 : a0 = (6 : Int32)
  · refine aw_tableIn 119 (off := 103) dX12_multiply_16 (by rw [c11]; decide) (by rw [c11]; decide) (by rw [c11]; rfl) (by decide) ?_
    have h := h.1 c11
    refine aw_iload_n 4 dX12_multiply_119 rfl rfl ?_
    refine aw_if_ne 127 dX12_multiply_120 (by decide) (fun c12 => ?_) (fun c12 => ?_)
    · have h := h.1 c12
      refine aw_iload_n 3 dX12_multiply_127 rfl rfl ?_
      refine aw_iload_n 4 dX12_multiply_128 rfl rfl ?_
      refine aw_irem dX12_multiply_129 h.1 ?_
      have h := h.2
      exact aw_iret rfl dX12_multiply_130 ⟨_, (), rfl, rfl, h⟩
    · have h := h.2 c12
      refine aw_iload_n 3 dX12_multiply_123 rfl rfl ?_
      refine aw_goto 130 dX12_multiply_124 (by decide) ?_
      exact aw_iret rfl dX12_multiply_130 ⟨_, (), rfl, rfl, h⟩
  have h := h.2 c11
  refine aw_tableOut 131 dX12_multiply_16 (by have := lv_neT (a := 0) c3 rfl; have := lv_neT (a := 1) c4 rfl; have := lv_neT (a := 2) c5 rfl; have := lv_neT (a := 3) c6 rfl; have := lv_neT (a := 4) c7 rfl; have := lv_neT (a := 5) c9 rfl; have := lv_neT (a := 6) c11 rfl; omega) (by decide) ?_
  refine aw_iload_n 4 dX12_multiply_131 rfl rfl ?_
  refine aw_if_ne 139 dX12_multiply_132 (by decide) (fun c13 => ?_) (fun c13 => ?_)
  · have h := h.1 c13
    refine aw_lload_n 1 dX12_multiply_139 rfl rfl ?_
    refine aw_lload 0 dX12_multiply_140 rfl ?_
    refine aw_lrem dX12_multiply_142 h.1 ?_
    have h := h.2
    refine aw_l2i dX12_multiply_143 ?_
    exact aw_iret rfl dX12_multiply_144 ⟨_, (), rfl, rfl, h⟩
  · have h := h.2 c13
    refine aw_iload_n 3 dX12_multiply_135 rfl rfl ?_
    refine aw_goto 144 dX12_multiply_136 (by decide) ?_
    exact aw_iret rfl dX12_multiply_144 ⟨_, (), rfl, rfl, h⟩
def wp_X12_order_766  (post : Int32 → WSX12 → Prop) (σ : WSX12) (x9 : Int32) : Prop :=
  (∀ y19 : Int32, y19 = (σ.2.2.2.1.2.2 + (1 : Int32)) → post (0 : Int32) (σ.1, (σ.2.1, (σ.2.2.1, ((σ.2.2.2.1.1, (x9, y19)), σ.2.2.2.2)))))
theorem aw_X12_order_766 {G : aw_G} {d : Nat} (hd : 1 ≤ d) {post : Int32 → WSX12 → Prop}  {σ : WSX12} {x9 : Int32} (h : wp_X12_order_766  post σ x9) : AW G MX12_order d 0 0 25 (aw_pi (wX12 G) post) 766 [(0, .ref 0), (9, .int x9)] [] (wX12 G σ) := by
  unfold wp_X12_order_766 at h
  refine aw_aload_n 0 dX12_order_766 rfl rfl ?_
  refine aw_iload 1 dX12_order_767 rfl ?_
  refine aw_putf fX12_301 0 (w' := (wX12 G (σ.1, (σ.2.1, (σ.2.2.1, ((σ.2.2.2.1.1, (x9, σ.2.2.2.1.2.2)), σ.2.2.2.2)))))) rfl (fun _ => ⟨rfl, rfl⟩) (Nat.le_of_ble_eq_true rfl) rfl dX12_order_769 ?_
  refine aw_aload_n 0 dX12_order_772 rfl rfl ?_
  refine aw_dup dX12_order_773 rfl ?_
  refine aw_getf (v := .int σ.2.2.2.1.2.2) fX12_304 0 rfl rfl dX12_order_774 ?_
  refine aw_iconst (v := (1 : Int32)) dX12_order_777 (by decide) ?_
  refine aw_iadd dX12_order_778 ?_
  refine aw_topi (fun y19 ey19 => ?_)
  have h := h y19 ey19
  refine aw_putf fX12_304 0 (w' := (wX12 G (σ.1, (σ.2.1, (σ.2.2.1, ((σ.2.2.2.1.1, (x9, y19)), σ.2.2.2.2)))))) rfl (fun _ => ⟨rfl, rfl⟩) (Nat.le_of_ble_eq_true rfl) rfl dX12_order_779 ?_
  refine aw_iconst (v := (0 : Int32)) dX12_order_782 (by decide) ?_
  exact aw_iret rfl dX12_order_783 ⟨_, (σ.1, (σ.2.1, (σ.2.2.1, ((σ.2.2.2.1.1, (x9, y19)), σ.2.2.2.2)))), rfl, rfl, h⟩
def wp_X12_order_749  (post : Int32 → WSX12 → Prop) (σ : WSX12) (x3 : Int32) (x9 : Int32) (x11 : Int32) (x12 : Int32) (s0 : Int32) (s1 : Int32) (s2 : Int32) : Prop :=
  (∀ y18 : Int32, y18 = (s2 + (s1 + s0)) → ((x12 = 0 → wp_X12_order_766  post (σ.1, (σ.2.1, (σ.2.2.1, (σ.2.2.2.1, ((y18, σ.2.2.2.2.1.2), σ.2.2.2.2.2))))) x9) ∧ (¬ x12 = 0 → wp_X12_write (σ.1, (σ.2.1, (σ.2.2.1, (σ.2.2.2.1, ((y18, σ.2.2.2.2.1.2), σ.2.2.2.2.2))))) x3 x11 (fun τ21 => wp_X12_order_766  post τ21 x9))))
theorem aw_X12_order_749 {G : aw_G} {d : Nat} (hd : 1 ≤ d) {post : Int32 → WSX12 → Prop}  {σ : WSX12} {x3 : Int32} {x9 : Int32} {x11 : Int32} {x12 : Int32} {s0 : Int32} {s1 : Int32} {s2 : Int32} (h : wp_X12_order_749  post σ x3 x9 x11 x12 s0 s1 s2) : AW G MX12_order d 0 0 25 (aw_pi (wX12 G) post) 749 [(0, .ref 0), (3, .int x3), (9, .int x9), (11, .int x11), (12, .int x12)] [.int s0, .int s1, .int s2, .ref 0] (wX12 G σ) := by
  unfold wp_X12_order_749 at h
  refine aw_iadd dX12_order_749 ?_
  refine aw_iadd dX12_order_750 ?_
  refine aw_topi (fun y18 ey18 => ?_)
  have h := h y18 ey18
  refine aw_putf fX12_307 0 (w' := (wX12 G (σ.1, (σ.2.1, (σ.2.2.1, (σ.2.2.2.1, ((y18, σ.2.2.2.2.1.2), σ.2.2.2.2.2))))))) rfl (fun _ => ⟨rfl, rfl⟩) (Nat.le_of_ble_eq_true rfl) rfl dX12_order_751 ?_
  refine aw_iload 4 dX12_order_754 rfl ?_
  refine aw_if_eq 766 dX12_order_756 (by decide) (fun c22 => ?_) (fun c22 => ?_)
  · have h := h.1 c22
    refine aw_lvsub (lv' := [(0, .ref 0), (9, .int x9)]) [0, 2] rfl ?_
    exact aw_X12_order_766 hd  h
  · have h := h.2 c22
    refine aw_aload_n 0 dX12_order_759 rfl rfl ?_
    refine aw_iload_n 1 dX12_order_760 rfl rfl ?_
    refine aw_iload 3 dX12_order_761 rfl ?_
    refine aw_callVT (mc1 := 0) (ms1 := 0) (mc := 0) (ms := 0) (st := []) (q := 0) (As := [.int x3, .int x11]) lX12_337 insX12_write selX12_write ⟨TX12, 50, rfl⟩ (by omega) (kX12_write (d := 0) (by omega) h) (Nat.le_of_ble_eq_true rfl) rfl rfl rfl dX12_order_763 rfl (fun _ _ hh => ?_)
    obtain ⟨τ21, rfl, rfl, h⟩ := hh
    refine aw_stk (st' := []) rfl ?_
    refine aw_lvsub (lv' := [(0, .ref 0), (9, .int x9)]) [0, 2] rfl ?_
    exact aw_X12_order_766 hd  h
def wp_X12_order_730  (post : Int32 → WSX12 → Prop) (σ : WSX12) (x3 : Int32) (x9 : Int32) (x10 : Int32) (x11 : Int32) (x12 : Int32) (x14 : Int32) : Prop :=
  ((x10 = 0 → wp_X12_order_749  post σ x3 x9 x11 x12 (0 : Int32) ((1 : Int32) + x14) σ.2.2.2.2.1.1) ∧ (¬ x10 = 0 → wp_X12_order_749  post σ x3 x9 x11 x12 (1 : Int32) ((1 : Int32) + x14) σ.2.2.2.2.1.1))
theorem aw_X12_order_730 {G : aw_G} {d : Nat} (hd : 1 ≤ d) {post : Int32 → WSX12 → Prop}  {σ : WSX12} {x3 : Int32} {x9 : Int32} {x10 : Int32} {x11 : Int32} {x12 : Int32} {x14 : Int32} (h : wp_X12_order_730  post σ x3 x9 x10 x11 x12 x14) : AW G MX12_order d 0 0 25 (aw_pi (wX12 G) post) 730 [(0, .ref 0), (3, .int x3), (9, .int x9), (10, .int x10), (11, .int x11), (12, .int x12), (14, .int x14)] [] (wX12 G σ) := by
  unfold wp_X12_order_730 at h
  refine aw_aload_n 0 dX12_order_730 rfl rfl ?_
  refine aw_dup dX12_order_731 rfl ?_
  refine aw_getf (v := .int σ.2.2.2.2.1.1) fX12_307 0 rfl rfl dX12_order_732 ?_
  refine aw_iconst (v := (1 : Int32)) dX12_order_735 (by decide) ?_
  refine aw_iload 6 dX12_order_736 rfl ?_
  refine aw_iadd dX12_order_738 ?_
  refine aw_iload 3 dX12_order_739 rfl ?_
  refine aw_if_eq 748 dX12_order_741 (by decide) (fun c23 => ?_) (fun c23 => ?_)
  · have h := h.1 c23
    refine aw_iconst (v := (0 : Int32)) dX12_order_748 (by decide) ?_
    refine aw_lvsub (lv' := [(0, .ref 0), (3, .int x3), (9, .int x9), (11, .int x11), (12, .int x12)]) [0, 1, 2, 4, 5] rfl ?_
    exact aw_X12_order_749 hd  h
  · have h := h.2 c23
    refine aw_iconst (v := (1 : Int32)) dX12_order_744 (by decide) ?_
    refine aw_goto 749 dX12_order_745 (by decide) ?_
    refine aw_lvsub (lv' := [(0, .ref 0), (3, .int x3), (9, .int x9), (11, .int x11), (12, .int x12)]) [0, 1, 2, 4, 5] rfl ?_
    exact aw_X12_order_749 hd  h
def wp_X12_order_709  (post : Int32 → WSX12 → Prop) (σ : WSX12) (x3 : Int32) (x5 : Int32) (x6 : Int32) (x9 : Int32) (x10 : Int32) (x11 : Int32) (x12 : Int32) (x14 : Int32) : Prop :=
  ((¬ x14 = (32 : Int32) → wp_X12_order_730  post σ x3 x9 x10 x11 x12 x14) ∧ (x14 = (32 : Int32) → wp_X12_event σ (x5).toInt64 (fun τ25 => wp_X12_event τ25 (x6).toInt64 (fun τ27 => wp_X12_order_730  post τ27 x3 x9 x10 x11 x12 x14))))
theorem aw_X12_order_709 {G : aw_G} {d : Nat} (hd : 1 ≤ d) {post : Int32 → WSX12 → Prop}  {σ : WSX12} {x3 : Int32} {x5 : Int32} {x6 : Int32} {x9 : Int32} {x10 : Int32} {x11 : Int32} {x12 : Int32} {x14 : Int32} (h : wp_X12_order_709  post σ x3 x5 x6 x9 x10 x11 x12 x14) : AW G MX12_order d 0 0 25 (aw_pi (wX12 G) post) 709 [(0, .ref 0), (3, .int x3), (5, .int x5), (6, .int x6), (9, .int x9), (10, .int x10), (11, .int x11), (12, .int x12), (14, .int x14)] [] (wX12 G σ) := by
  unfold wp_X12_order_709 at h
  refine aw_iload 8 dX12_order_709 rfl ?_
  refine aw_bipush (v := (32 : Int32)) dX12_order_711 (by decide) ?_
  refine aw_icmp_ne 730 dX12_order_713 (by decide) (fun c28 => ?_) (fun c28 => ?_)
  · have h := h.1 c28
    refine aw_lvsub (lv' := [(0, .ref 0), (3, .int x3), (9, .int x9), (10, .int x10), (11, .int x11), (12, .int x12), (14, .int x14)]) [0, 1, 4, 5, 6, 7, 8] rfl ?_
    exact aw_X12_order_730 hd  h
  · have h := h.2 c28
    refine aw_aload_n 0 dX12_order_716 rfl rfl ?_
    refine aw_iload 2 dX12_order_717 rfl ?_
    refine aw_i2l dX12_order_719 ?_
    refine aw_callVT (mc1 := 0) (ms1 := 0) (mc := 0) (ms := 0) (st := []) (q := 0) (As := [.long (x5).toInt64]) lX12_333 insX12_event selX12_event ⟨TX12, 50, rfl⟩ (by omega) (kX12_event (d := 0) (by omega) h) (Nat.le_of_ble_eq_true rfl) rfl rfl rfl dX12_order_720 rfl (fun _ _ hh => ?_)
    obtain ⟨τ25, rfl, rfl, h⟩ := hh
    refine aw_stk (st' := []) rfl ?_
    refine aw_aload_n 0 dX12_order_723 rfl rfl ?_
    refine aw_iload 3 dX12_order_724 rfl ?_
    refine aw_i2l dX12_order_726 ?_
    refine aw_callVT (mc1 := 0) (ms1 := 0) (mc := 0) (ms := 0) (st := []) (q := 0) (As := [.long (x6).toInt64]) lX12_333 insX12_event selX12_event ⟨TX12, 50, rfl⟩ (by omega) (kX12_event (d := 0) (by omega) h) (Nat.le_of_ble_eq_true rfl) rfl rfl rfl dX12_order_727 rfl (fun _ _ hh => ?_)
    obtain ⟨τ27, rfl, rfl, h⟩ := hh
    refine aw_stk (st' := []) rfl ?_
    refine aw_lvsub (lv' := [(0, .ref 0), (3, .int x3), (9, .int x9), (10, .int x10), (11, .int x11), (12, .int x12), (14, .int x14)]) [0, 1, 4, 5, 6, 7, 8] rfl ?_
    exact aw_X12_order_730 hd  h
def wp_X12_order_657  (post : Int32 → WSX12 → Prop) (σ : WSX12) (x3 : Int32) (x5 : Int32) (x6 : Int32) (x9 : Int32) (x10 : Int32) (x11 : Int32) (x12 : Int32) (x13 : Int32) (x14 : Int32) : Prop :=
  wp_X12_access σ σ.2.2.2.1.2.1 (fun τ15 => wp_X12_event τ15 (τ15.2.2.2.1.2.1).toInt64 (fun τ17 => ((x13 = ((-1) : Int32) → wp_X12_order_709  post τ17 x3 x5 x6 x9 x10 x11 x12 x14) ∧ (¬ x13 = ((-1) : Int32) → wp_X12_access τ17 x13 (fun τ30 => wp_X12_event τ30 (x13).toInt64 (fun τ32 => ((¬ x12 = 0 → wp_X12_order_709  post τ32 x3 x5 x6 x9 x10 x11 x12 x14) ∧ (x12 = 0 → (vp_in (x13 / (4 : Int32)) 4096 ∧ ∀ y33 : Nat → Int32, y33 = upd τ32.2.2.1.2.2.2 ((x13 / (4 : Int32))).toNatClampNeg x6 → wp_X12_order_709  post (τ32.1, (τ32.2.1, ((τ32.2.2.1.1, (τ32.2.2.1.2.1, (τ32.2.2.1.2.2.1, y33))), τ32.2.2.2))) x3 x5 x6 x9 x10 x11 x12 x14)))))))))
theorem aw_X12_order_657 {G : aw_G} {d : Nat} (hd : 1 ≤ d) {post : Int32 → WSX12 → Prop}  {σ : WSX12} {x3 : Int32} {x5 : Int32} {x6 : Int32} {x9 : Int32} {x10 : Int32} {x11 : Int32} {x12 : Int32} {x13 : Int32} {x14 : Int32} (h : wp_X12_order_657  post σ x3 x5 x6 x9 x10 x11 x12 x13 x14) : AW G MX12_order d 0 0 25 (aw_pi (wX12 G) post) 657 [(0, .ref 0), (3, .int x3), (5, .int x5), (6, .int x6), (9, .int x9), (10, .int x10), (11, .int x11), (12, .int x12), (13, .int x13), (14, .int x14)] [] (wX12 G σ) := by
  unfold wp_X12_order_657 at h
  refine aw_aload_n 0 dX12_order_657 rfl rfl ?_
  refine aw_aload_n 0 dX12_order_658 rfl rfl ?_
  refine aw_getf (v := .int σ.2.2.2.1.2.1) fX12_301 0 rfl rfl dX12_order_659 ?_
  refine aw_callVT (mc1 := 0) (ms1 := 0) (mc := 0) (ms := 0) (st := []) (q := 0) (As := [.int σ.2.2.2.1.2.1]) lX12_330 insX12_access selX12_access ⟨TX12, 50, rfl⟩ (by omega) (kX12_access (d := 0) (by omega) h) (Nat.le_of_ble_eq_true rfl) rfl rfl rfl dX12_order_662 rfl (fun _ _ hh => ?_)
  obtain ⟨τ15, rfl, rfl, h⟩ := hh
  refine aw_stk (st' := []) rfl ?_
  refine aw_aload_n 0 dX12_order_665 rfl rfl ?_
  refine aw_aload_n 0 dX12_order_666 rfl rfl ?_
  refine aw_getf (v := .int τ15.2.2.2.1.2.1) fX12_301 0 rfl rfl dX12_order_667 ?_
  refine aw_i2l dX12_order_670 ?_
  refine aw_callVT (mc1 := 0) (ms1 := 0) (mc := 0) (ms := 0) (st := []) (q := 0) (As := [.long (τ15.2.2.2.1.2.1).toInt64]) lX12_333 insX12_event selX12_event ⟨TX12, 50, rfl⟩ (by omega) (kX12_event (d := 0) (by omega) h) (Nat.le_of_ble_eq_true rfl) rfl rfl rfl dX12_order_671 rfl (fun _ _ hh => ?_)
  obtain ⟨τ17, rfl, rfl, h⟩ := hh
  refine aw_stk (st' := []) rfl ?_
  refine aw_iload 8 dX12_order_674 rfl ?_
  refine aw_iconst (v := ((-1) : Int32)) dX12_order_676 (by decide) ?_
  refine aw_icmp_eq 709 dX12_order_677 (by decide) (fun c35 => ?_) (fun c35 => ?_)
  · have h := h.1 c35
    refine aw_lvsub (lv' := [(0, .ref 0), (3, .int x3), (5, .int x5), (6, .int x6), (9, .int x9), (10, .int x10), (11, .int x11), (12, .int x12), (14, .int x14)]) [0, 1, 2, 3, 4, 5, 6, 7, 9] rfl ?_
    exact aw_X12_order_709 hd  h
  · have h := h.2 c35
    refine aw_aload_n 0 dX12_order_680 rfl rfl ?_
    refine aw_iload 8 dX12_order_681 rfl ?_
    refine aw_callVT (mc1 := 0) (ms1 := 0) (mc := 0) (ms := 0) (st := []) (q := 0) (As := [.int x13]) lX12_330 insX12_access selX12_access ⟨TX12, 50, rfl⟩ (by omega) (kX12_access (d := 0) (by omega) h) (Nat.le_of_ble_eq_true rfl) rfl rfl rfl dX12_order_683 rfl (fun _ _ hh => ?_)
    obtain ⟨τ30, rfl, rfl, h⟩ := hh
    refine aw_stk (st' := []) rfl ?_
    refine aw_aload_n 0 dX12_order_686 rfl rfl ?_
    refine aw_iload 8 dX12_order_687 rfl ?_
    refine aw_i2l dX12_order_689 ?_
    refine aw_callVT (mc1 := 0) (ms1 := 0) (mc := 0) (ms := 0) (st := []) (q := 0) (As := [.long (x13).toInt64]) lX12_333 insX12_event selX12_event ⟨TX12, 50, rfl⟩ (by omega) (kX12_event (d := 0) (by omega) h) (Nat.le_of_ble_eq_true rfl) rfl rfl rfl dX12_order_690 rfl (fun _ _ hh => ?_)
    obtain ⟨τ32, rfl, rfl, h⟩ := hh
    refine aw_stk (st' := []) rfl ?_
    refine aw_iload 7 dX12_order_693 rfl ?_
    refine aw_if_ne 709 dX12_order_695 (by decide) (fun c34 => ?_) (fun c34 => ?_)
    · have h := h.1 c34
      refine aw_lvsub (lv' := [(0, .ref 0), (3, .int x3), (5, .int x5), (6, .int x6), (9, .int x9), (10, .int x10), (11, .int x11), (12, .int x12), (14, .int x14)]) [0, 1, 2, 3, 4, 5, 6, 7, 9] rfl ?_
      exact aw_X12_order_709 hd  h
    · have h := h.2 c34
      refine aw_aload_n 0 dX12_order_698 rfl rfl ?_
      refine aw_getf (v := .ref 22) fX12_81 0 rfl rfl dX12_order_699 ?_
      refine aw_iload 8 dX12_order_702 rfl ?_
      refine aw_iconst (v := (4 : Int32)) dX12_order_704 (by decide) ?_
      refine aw_idiv dX12_order_705 (by decide) ?_
      refine aw_iload 3 dX12_order_706 rfl ?_
      refine aw_iast 22 (n := 4096) (f := τ32.2.2.1.2.2.2) (w' := fun y33 => (wX12 G (τ32.1, (τ32.2.1, ((τ32.2.2.1.1, (τ32.2.2.1.2.1, (τ32.2.2.1.2.2.1, y33))), τ32.2.2.2))))) rfl h.1 (fun _ => rfl) dX12_order_708 (fun y33 ey33 => ?_)
      have h := h.2 y33 ey33
      refine aw_lvsub (lv' := [(0, .ref 0), (3, .int x3), (5, .int x5), (6, .int x6), (9, .int x9), (10, .int x10), (11, .int x11), (12, .int x12), (14, .int x14)]) [0, 1, 2, 3, 4, 5, 6, 7, 9] rfl ?_
      exact aw_X12_order_709 hd  h
def wp_X12_order_650  (post : Int32 → WSX12 → Prop) (σ : WSX12) (x3 : Int32) (x5 : Int32) (x6 : Int32) (x9 : Int32) (x10 : Int32) (x11 : Int32) (x12 : Int32) (x13 : Int32) (s0 : Int32) : Prop :=
  wp_X12_order_657  post σ x3 x5 x6 x9 x10 x11 x12 x13 s0
theorem aw_X12_order_650 {G : aw_G} {d : Nat} (hd : 1 ≤ d) {post : Int32 → WSX12 → Prop}  {σ : WSX12} {x3 : Int32} {x5 : Int32} {x6 : Int32} {x9 : Int32} {x10 : Int32} {x11 : Int32} {x12 : Int32} {x13 : Int32} {s0 : Int32} (h : wp_X12_order_650  post σ x3 x5 x6 x9 x10 x11 x12 x13 s0) : AW G MX12_order d 0 0 25 (aw_pi (wX12 G) post) 650 [(0, .ref 0), (3, .int x3), (5, .int x5), (6, .int x6), (9, .int x9), (10, .int x10), (11, .int x11), (12, .int x12), (13, .int x13)] [.int s0] (wX12 G σ) := by
  unfold wp_X12_order_650 at h
  refine aw_istore (lv' := [(14, .int s0), (0, .ref 0), (3, .int x3), (5, .int x5), (6, .int x6), (9, .int x9), (10, .int x10), (11, .int x11), (12, .int x12), (13, .int x13)]) dX12_order_650 (by decide) rfl ?_
  refine aw_goto 657 dX12_order_652 (by decide) ?_
  refine aw_lvsub (lv' := [(0, .ref 0), (3, .int x3), (5, .int x5), (6, .int x6), (9, .int x9), (10, .int x10), (11, .int x11), (12, .int x12), (13, .int x13), (14, .int s0)]) [1, 2, 3, 4, 5, 6, 7, 8, 9, 0] rfl ?_
  exact aw_X12_order_657 hd  h
def wp_X12_order_615  (post : Int32 → WSX12 → Prop) (σ : WSX12) (x2 : Int32) (x3 : Int32) (x4 : Int32) (x5 : Int32) (x6 : Int32) (x7 : Int32) (x9 : Int32) (x10 : Int32) (x12 : Int32) (x13 : Int32) : Prop :=
  ((¬ x2 = (51 : Int32) → post (2 : Int32) σ) ∧ (x2 = (51 : Int32) → ((¬ x7 = (1 : Int32) → post (2 : Int32) σ) ∧ (x7 = (1 : Int32) → wp_X12_multiply x4 x5 x6 (fun r12 τ13 => (((4 : Int32) ≤ x4 → wp_X12_order_650  post σ x3 x5 x6 x9 x10 r12 x12 x13 (32 : Int32)) ∧ (¬ (4 : Int32) ≤ x4 → wp_X12_order_650  post σ x3 x5 x6 x9 x10 r12 x12 x13 (3 : Int32))))))))
theorem aw_X12_order_615 {G : aw_G} {d : Nat} (hd : 1 ≤ d) {post : Int32 → WSX12 → Prop}  {σ : WSX12} {x2 : Int32} {x3 : Int32} {x4 : Int32} {x5 : Int32} {x6 : Int32} {x7 : Int32} {x9 : Int32} {x10 : Int32} {x12 : Int32} {x13 : Int32} (h : wp_X12_order_615  post σ x2 x3 x4 x5 x6 x7 x9 x10 x12 x13) : AW G MX12_order d 0 0 25 (aw_pi (wX12 G) post) 615 [(0, .ref 0), (2, .int x2), (3, .int x3), (4, .int x4), (5, .int x5), (6, .int x6), (7, .int x7), (9, .int x9), (10, .int x10), (12, .int x12), (13, .int x13)] [] (wX12 G σ) := by
  unfold wp_X12_order_615 at h
  refine aw_iload_n 1 dX12_order_615 rfl rfl ?_
  refine aw_bipush (v := (51 : Int32)) dX12_order_616 (by decide) ?_
  refine aw_icmp_ne 655 dX12_order_618 (by decide) (fun c38 => ?_) (fun c38 => ?_)
  · have h := h.1 c38
    refine aw_iconst (v := (2 : Int32)) dX12_order_655 (by decide) ?_
    exact aw_iret rfl dX12_order_656 ⟨_, σ, rfl, rfl, h⟩
  · have h := h.2 c38
    refine aw_iload 6 dX12_order_621 rfl ?_
    refine aw_iconst (v := (1 : Int32)) dX12_order_623 (by decide) ?_
    refine aw_icmp_ne 655 dX12_order_624 (by decide) (fun c37 => ?_) (fun c37 => ?_)
    · have h := h.1 c37
      refine aw_iconst (v := (2 : Int32)) dX12_order_655 (by decide) ?_
      exact aw_iret rfl dX12_order_656 ⟨_, σ, rfl, rfl, h⟩
    · have h := h.2 c37
      refine aw_iload 3 dX12_order_627 rfl ?_
      refine aw_iload 4 dX12_order_629 rfl ?_
      refine aw_iload 5 dX12_order_631 rfl ?_
      refine aw_callST (st := []) (As := [.int x4, .int x5, .int x6]) lX12_327 sttX12_multiply (by omega) (kX12_multiply (d := 0) (by omega) h) rfl rfl rfl dX12_order_633 rfl (fun _ _ hh => ?_)
      obtain ⟨r12, τ13, rfl, rfl, h⟩ := hh
      refine ⟨rfl, (fun x hx => by cases hx; rfl), ?_⟩
      refine aw_stk (st' := [.int r12]) rfl ?_
      refine aw_istore (lv' := [(11, .int r12), (0, .ref 0), (2, .int x2), (3, .int x3), (4, .int x4), (5, .int x5), (6, .int x6), (7, .int x7), (9, .int x9), (10, .int x10), (12, .int x12), (13, .int x13)]) dX12_order_636 (by decide) rfl ?_
      refine aw_iload 4 dX12_order_638 rfl ?_
      refine aw_iconst (v := (4 : Int32)) dX12_order_640 (by decide) ?_
      refine aw_icmp_ge 648 dX12_order_641 (by decide) (fun c36 => ?_) (fun c36 => ?_)
      · have h := h.1 c36
        refine aw_bipush (v := (32 : Int32)) dX12_order_648 (by decide) ?_
        refine aw_lvsub (lv' := [(0, .ref 0), (3, .int x3), (5, .int x5), (6, .int x6), (9, .int x9), (10, .int x10), (11, .int r12), (12, .int x12), (13, .int x13)]) [1, 3, 5, 6, 8, 9, 0, 10, 11] rfl ?_
        exact aw_X12_order_650 hd  h
      · have h := h.2 c36
        refine aw_iconst (v := (3 : Int32)) dX12_order_644 (by decide) ?_
        refine aw_goto 650 dX12_order_645 (by decide) ?_
        refine aw_lvsub (lv' := [(0, .ref 0), (3, .int x3), (5, .int x5), (6, .int x6), (9, .int x9), (10, .int x10), (11, .int r12), (12, .int x12), (13, .int x13)]) [1, 3, 5, 6, 8, 9, 0, 10, 11] rfl ?_
        exact aw_X12_order_650 hd  h
def wp_X12_order_603  (post : Int32 → WSX12 → Prop) (σ : WSX12) (x3 : Int32) (x5 : Int32) (x6 : Int32) (x9 : Int32) (x10 : Int32) (x12 : Int32) (x13 : Int32) (x14 : Int32) (s0 : Int32) (s1 : Int32) : Prop :=
  wp_X12_reckon s1 s0 x5 x6 (fun r39 τ40 => wp_X12_order_657  post σ x3 x5 x6 x9 x10 r39 x12 x13 x14)
theorem aw_X12_order_603 {G : aw_G} {d : Nat} (hd : 1 ≤ d) {post : Int32 → WSX12 → Prop}  {σ : WSX12} {x3 : Int32} {x5 : Int32} {x6 : Int32} {x9 : Int32} {x10 : Int32} {x12 : Int32} {x13 : Int32} {x14 : Int32} {s0 : Int32} {s1 : Int32} (h : wp_X12_order_603  post σ x3 x5 x6 x9 x10 x12 x13 x14 s0 s1) : AW G MX12_order d 0 0 25 (aw_pi (wX12 G) post) 603 [(0, .ref 0), (3, .int x3), (5, .int x5), (6, .int x6), (9, .int x9), (10, .int x10), (12, .int x12), (13, .int x13), (14, .int x14)] [.int s0, .int s1] (wX12 G σ) := by
  unfold wp_X12_order_603 at h
  refine aw_iload 2 dX12_order_603 rfl ?_
  refine aw_iload 3 dX12_order_605 rfl ?_
  refine aw_callST (st := []) (As := [.int s1, .int s0, .int x5, .int x6]) lX12_323 sttX12_reckon (by omega) (kX12_reckon (d := 0) (by omega) h) rfl rfl rfl dX12_order_607 rfl (fun _ _ hh => ?_)
  obtain ⟨r39, τ40, rfl, rfl, h⟩ := hh
  refine ⟨rfl, (fun x hx => by cases hx; rfl), ?_⟩
  refine aw_stk (st' := [.int r39]) rfl ?_
  refine aw_istore (lv' := [(11, .int r39), (0, .ref 0), (3, .int x3), (5, .int x5), (6, .int x6), (9, .int x9), (10, .int x10), (12, .int x12), (13, .int x13), (14, .int x14)]) dX12_order_610 (by decide) rfl ?_
  refine aw_goto 657 dX12_order_612 (by decide) ?_
  refine aw_lvsub (lv' := [(0, .ref 0), (3, .int x3), (5, .int x5), (6, .int x6), (9, .int x9), (10, .int x10), (11, .int r39), (12, .int x12), (13, .int x13), (14, .int x14)]) [1, 2, 3, 4, 5, 6, 0, 7, 8, 9] rfl ?_
  exact aw_X12_order_657 hd  h
def wp_X12_order_589  (post : Int32 → WSX12 → Prop) (σ : WSX12) (x3 : Int32) (x4 : Int32) (x5 : Int32) (x6 : Int32) (x7 : Int32) (x9 : Int32) (x10 : Int32) (x12 : Int32) (x13 : Int32) (x14 : Int32) : Prop :=
  ((¬ x7 = (32 : Int32) → wp_X12_order_603  post σ x3 x5 x6 x9 x10 x12 x13 x14 (0 : Int32) x4) ∧ (x7 = (32 : Int32) → wp_X12_order_603  post σ x3 x5 x6 x9 x10 x12 x13 x14 (1 : Int32) x4))
theorem aw_X12_order_589 {G : aw_G} {d : Nat} (hd : 1 ≤ d) {post : Int32 → WSX12 → Prop}  {σ : WSX12} {x3 : Int32} {x4 : Int32} {x5 : Int32} {x6 : Int32} {x7 : Int32} {x9 : Int32} {x10 : Int32} {x12 : Int32} {x13 : Int32} {x14 : Int32} (h : wp_X12_order_589  post σ x3 x4 x5 x6 x7 x9 x10 x12 x13 x14) : AW G MX12_order d 0 0 25 (aw_pi (wX12 G) post) 589 [(0, .ref 0), (3, .int x3), (4, .int x4), (5, .int x5), (6, .int x6), (7, .int x7), (9, .int x9), (10, .int x10), (12, .int x12), (13, .int x13), (14, .int x14)] [] (wX12 G σ) := by
  unfold wp_X12_order_589 at h
  refine aw_iload 2 dX12_order_589 rfl ?_
  refine aw_iload 5 dX12_order_591 rfl ?_
  refine aw_bipush (v := (32 : Int32)) dX12_order_593 (by decide) ?_
  refine aw_icmp_ne 602 dX12_order_595 (by decide) (fun c41 => ?_) (fun c41 => ?_)
  · have h := h.1 c41
    refine aw_iconst (v := (0 : Int32)) dX12_order_602 (by decide) ?_
    refine aw_lvsub (lv' := [(0, .ref 0), (3, .int x3), (5, .int x5), (6, .int x6), (9, .int x9), (10, .int x10), (12, .int x12), (13, .int x13), (14, .int x14)]) [0, 1, 3, 4, 6, 7, 8, 9, 10] rfl ?_
    exact aw_X12_order_603 hd  h
  · have h := h.2 c41
    refine aw_iconst (v := (1 : Int32)) dX12_order_598 (by decide) ?_
    refine aw_goto 603 dX12_order_599 (by decide) ?_
    refine aw_lvsub (lv' := [(0, .ref 0), (3, .int x3), (5, .int x5), (6, .int x6), (9, .int x9), (10, .int x10), (12, .int x12), (13, .int x13), (14, .int x14)]) [0, 1, 3, 4, 6, 7, 8, 9, 10] rfl ?_
    exact aw_X12_order_603 hd  h
def wp_X12_order_560  (post : Int32 → WSX12 → Prop) (σ : WSX12) (x2 : Int32) (x3 : Int32) (x4 : Int32) (x5 : Int32) (x6 : Int32) (x7 : Int32) (x9 : Int32) (x10 : Int32) (x12 : Int32) (x13 : Int32) (x14 : Int32) : Prop :=
  ((¬ x2 = (51 : Int32) → wp_X12_order_615  post σ x2 x3 x4 x5 x6 x7 x9 x10 x12 x13) ∧ (x2 = (51 : Int32) → ((x7 = 0 → wp_X12_order_589  post σ x3 x4 x5 x6 x7 x9 x10 x12 x13 x14) ∧ (¬ x7 = 0 → ((¬ x7 = (32 : Int32) → wp_X12_order_615  post σ x2 x3 x4 x5 x6 x7 x9 x10 x12 x13) ∧ (x7 = (32 : Int32) → ((x4 = 0 → wp_X12_order_589  post σ x3 x4 x5 x6 x7 x9 x10 x12 x13 x14) ∧ (¬ x4 = 0 → ((¬ x4 = (5 : Int32) → wp_X12_order_615  post σ x2 x3 x4 x5 x6 x7 x9 x10 x12 x13) ∧ (x4 = (5 : Int32) → wp_X12_order_589  post σ x3 x4 x5 x6 x7 x9 x10 x12 x13 x14))))))))))
theorem aw_X12_order_560 {G : aw_G} {d : Nat} (hd : 1 ≤ d) {post : Int32 → WSX12 → Prop}  {σ : WSX12} {x2 : Int32} {x3 : Int32} {x4 : Int32} {x5 : Int32} {x6 : Int32} {x7 : Int32} {x9 : Int32} {x10 : Int32} {x12 : Int32} {x13 : Int32} {x14 : Int32} (h : wp_X12_order_560  post σ x2 x3 x4 x5 x6 x7 x9 x10 x12 x13 x14) : AW G MX12_order d 0 0 25 (aw_pi (wX12 G) post) 560 [(0, .ref 0), (2, .int x2), (3, .int x3), (4, .int x4), (5, .int x5), (6, .int x6), (7, .int x7), (9, .int x9), (10, .int x10), (12, .int x12), (13, .int x13), (14, .int x14)] [] (wX12 G σ) := by
  unfold wp_X12_order_560 at h
  refine aw_iload_n 1 dX12_order_560 rfl rfl ?_
  refine aw_bipush (v := (51 : Int32)) dX12_order_561 (by decide) ?_
  refine aw_icmp_ne 615 dX12_order_563 (by decide) (fun c46 => ?_) (fun c46 => ?_)
  · have h := h.1 c46
    refine aw_lvsub (lv' := [(0, .ref 0), (2, .int x2), (3, .int x3), (4, .int x4), (5, .int x5), (6, .int x6), (7, .int x7), (9, .int x9), (10, .int x10), (12, .int x12), (13, .int x13)]) [0, 1, 2, 3, 4, 5, 6, 7, 8, 9, 10] rfl ?_
    exact aw_X12_order_615 hd  h
  · have h := h.2 c46
    refine aw_iload 6 dX12_order_566 rfl ?_
    refine aw_if_eq 589 dX12_order_568 (by decide) (fun c45 => ?_) (fun c45 => ?_)
    · have h := h.1 c45
      refine aw_lvsub (lv' := [(0, .ref 0), (3, .int x3), (4, .int x4), (5, .int x5), (6, .int x6), (7, .int x7), (9, .int x9), (10, .int x10), (12, .int x12), (13, .int x13), (14, .int x14)]) [0, 2, 3, 4, 5, 6, 7, 8, 9, 10, 11] rfl ?_
      exact aw_X12_order_589 hd  h
    · have h := h.2 c45
      refine aw_iload 6 dX12_order_571 rfl ?_
      refine aw_bipush (v := (32 : Int32)) dX12_order_573 (by decide) ?_
      refine aw_icmp_ne 615 dX12_order_575 (by decide) (fun c44 => ?_) (fun c44 => ?_)
      · have h := h.1 c44
        refine aw_lvsub (lv' := [(0, .ref 0), (2, .int x2), (3, .int x3), (4, .int x4), (5, .int x5), (6, .int x6), (7, .int x7), (9, .int x9), (10, .int x10), (12, .int x12), (13, .int x13)]) [0, 1, 2, 3, 4, 5, 6, 7, 8, 9, 10] rfl ?_
        exact aw_X12_order_615 hd  h
      · have h := h.2 c44
        refine aw_iload 3 dX12_order_578 rfl ?_
        refine aw_if_eq 589 dX12_order_580 (by decide) (fun c43 => ?_) (fun c43 => ?_)
        · have h := h.1 c43
          refine aw_lvsub (lv' := [(0, .ref 0), (3, .int x3), (4, .int x4), (5, .int x5), (6, .int x6), (7, .int x7), (9, .int x9), (10, .int x10), (12, .int x12), (13, .int x13), (14, .int x14)]) [0, 2, 3, 4, 5, 6, 7, 8, 9, 10, 11] rfl ?_
          exact aw_X12_order_589 hd  h
        · have h := h.2 c43
          refine aw_iload 3 dX12_order_583 rfl ?_
          refine aw_iconst (v := (5 : Int32)) dX12_order_585 (by decide) ?_
          refine aw_icmp_ne 615 dX12_order_586 (by decide) (fun c42 => ?_) (fun c42 => ?_)
          · have h := h.1 c42
            refine aw_lvsub (lv' := [(0, .ref 0), (2, .int x2), (3, .int x3), (4, .int x4), (5, .int x5), (6, .int x6), (7, .int x7), (9, .int x9), (10, .int x10), (12, .int x12), (13, .int x13)]) [0, 1, 2, 3, 4, 5, 6, 7, 8, 9, 10] rfl ?_
            exact aw_X12_order_615 hd  h
          · have h := h.2 c42
            refine aw_lvsub (lv' := [(0, .ref 0), (3, .int x3), (4, .int x4), (5, .int x5), (6, .int x6), (7, .int x7), (9, .int x9), (10, .int x10), (12, .int x12), (13, .int x13), (14, .int x14)]) [0, 2, 3, 4, 5, 6, 7, 8, 9, 10, 11] rfl ?_
            exact aw_X12_order_589 hd  h
def wp_X12_order_548  (post : Int32 → WSX12 → Prop) (σ : WSX12) (x3 : Int32) (x5 : Int32) (x6 : Int32) (x8 : Int32) (x9 : Int32) (x10 : Int32) (x12 : Int32) (x13 : Int32) (x14 : Int32) (s0 : Int32) (s1 : Int32) : Prop :=
  wp_X12_reckon s1 s0 x5 x8 (fun r47 τ48 => wp_X12_order_657  post σ x3 x5 x6 x9 x10 r47 x12 x13 x14)
theorem aw_X12_order_548 {G : aw_G} {d : Nat} (hd : 1 ≤ d) {post : Int32 → WSX12 → Prop}  {σ : WSX12} {x3 : Int32} {x5 : Int32} {x6 : Int32} {x8 : Int32} {x9 : Int32} {x10 : Int32} {x12 : Int32} {x13 : Int32} {x14 : Int32} {s0 : Int32} {s1 : Int32} (h : wp_X12_order_548  post σ x3 x5 x6 x8 x9 x10 x12 x13 x14 s0 s1) : AW G MX12_order d 0 0 25 (aw_pi (wX12 G) post) 548 [(0, .ref 0), (3, .int x3), (5, .int x5), (6, .int x6), (8, .int x8), (9, .int x9), (10, .int x10), (12, .int x12), (13, .int x13), (14, .int x14)] [.int s0, .int s1] (wX12 G σ) := by
  unfold wp_X12_order_548 at h
  refine aw_iload 2 dX12_order_548 rfl ?_
  refine aw_iload 4 dX12_order_550 rfl ?_
  refine aw_callST (st := []) (As := [.int s1, .int s0, .int x5, .int x8]) lX12_323 sttX12_reckon (by omega) (kX12_reckon (d := 0) (by omega) h) rfl rfl rfl dX12_order_552 rfl (fun _ _ hh => ?_)
  obtain ⟨r47, τ48, rfl, rfl, h⟩ := hh
  refine ⟨rfl, (fun x hx => by cases hx; rfl), ?_⟩
  refine aw_stk (st' := [.int r47]) rfl ?_
  refine aw_istore (lv' := [(11, .int r47), (0, .ref 0), (3, .int x3), (5, .int x5), (6, .int x6), (8, .int x8), (9, .int x9), (10, .int x10), (12, .int x12), (13, .int x13), (14, .int x14)]) dX12_order_555 (by decide) rfl ?_
  refine aw_goto 657 dX12_order_557 (by decide) ?_
  refine aw_lvsub (lv' := [(0, .ref 0), (3, .int x3), (5, .int x5), (6, .int x6), (9, .int x9), (10, .int x10), (11, .int r47), (12, .int x12), (13, .int x13), (14, .int x14)]) [1, 2, 3, 4, 6, 7, 0, 8, 9, 10] rfl ?_
  exact aw_X12_order_657 hd  h
def wp_X12_order_547  (post : Int32 → WSX12 → Prop) (σ : WSX12) (x3 : Int32) (x5 : Int32) (x6 : Int32) (x8 : Int32) (x9 : Int32) (x10 : Int32) (x12 : Int32) (x13 : Int32) (x14 : Int32) (s0 : Int32) : Prop :=
  wp_X12_order_548  post σ x3 x5 x6 x8 x9 x10 x12 x13 x14 (0 : Int32) s0
theorem aw_X12_order_547 {G : aw_G} {d : Nat} (hd : 1 ≤ d) {post : Int32 → WSX12 → Prop}  {σ : WSX12} {x3 : Int32} {x5 : Int32} {x6 : Int32} {x8 : Int32} {x9 : Int32} {x10 : Int32} {x12 : Int32} {x13 : Int32} {x14 : Int32} {s0 : Int32} (h : wp_X12_order_547  post σ x3 x5 x6 x8 x9 x10 x12 x13 x14 s0) : AW G MX12_order d 0 0 25 (aw_pi (wX12 G) post) 547 [(0, .ref 0), (3, .int x3), (5, .int x5), (6, .int x6), (8, .int x8), (9, .int x9), (10, .int x10), (12, .int x12), (13, .int x13), (14, .int x14)] [.int s0] (wX12 G σ) := by
  unfold wp_X12_order_547 at h
  refine aw_iconst (v := (0 : Int32)) dX12_order_547 (by decide) ?_
  exact aw_X12_order_548 hd  h
def wp_X12_order_528  (post : Int32 → WSX12 → Prop) (σ : WSX12) (x3 : Int32) (x4 : Int32) (x5 : Int32) (x6 : Int32) (x7 : Int32) (x8 : Int32) (x9 : Int32) (x10 : Int32) (x12 : Int32) (x13 : Int32) (x14 : Int32) : Prop :=
  ((¬ x4 = (5 : Int32) → wp_X12_order_547  post σ x3 x5 x6 x8 x9 x10 x12 x13 x14 x4) ∧ (x4 = (5 : Int32) → ((¬ x7 = (32 : Int32) → wp_X12_order_547  post σ x3 x5 x6 x8 x9 x10 x12 x13 x14 x4) ∧ (x7 = (32 : Int32) → wp_X12_order_548  post σ x3 x5 x6 x8 x9 x10 x12 x13 x14 (1 : Int32) x4))))
theorem aw_X12_order_528 {G : aw_G} {d : Nat} (hd : 1 ≤ d) {post : Int32 → WSX12 → Prop}  {σ : WSX12} {x3 : Int32} {x4 : Int32} {x5 : Int32} {x6 : Int32} {x7 : Int32} {x8 : Int32} {x9 : Int32} {x10 : Int32} {x12 : Int32} {x13 : Int32} {x14 : Int32} (h : wp_X12_order_528  post σ x3 x4 x5 x6 x7 x8 x9 x10 x12 x13 x14) : AW G MX12_order d 0 0 25 (aw_pi (wX12 G) post) 528 [(0, .ref 0), (3, .int x3), (4, .int x4), (5, .int x5), (6, .int x6), (7, .int x7), (8, .int x8), (9, .int x9), (10, .int x10), (12, .int x12), (13, .int x13), (14, .int x14)] [] (wX12 G σ) := by
  unfold wp_X12_order_528 at h
  refine aw_iload 2 dX12_order_528 rfl ?_
  refine aw_iload 2 dX12_order_530 rfl ?_
  refine aw_iconst (v := (5 : Int32)) dX12_order_532 (by decide) ?_
  refine aw_icmp_ne 547 dX12_order_533 (by decide) (fun c50 => ?_) (fun c50 => ?_)
  · have h := h.1 c50
    refine aw_lvsub (lv' := [(0, .ref 0), (3, .int x3), (5, .int x5), (6, .int x6), (8, .int x8), (9, .int x9), (10, .int x10), (12, .int x12), (13, .int x13), (14, .int x14)]) [0, 1, 3, 4, 6, 7, 8, 9, 10, 11] rfl ?_
    exact aw_X12_order_547 hd  h
  · have h := h.2 c50
    refine aw_iload 5 dX12_order_536 rfl ?_
    refine aw_bipush (v := (32 : Int32)) dX12_order_538 (by decide) ?_
    refine aw_icmp_ne 547 dX12_order_540 (by decide) (fun c49 => ?_) (fun c49 => ?_)
    · have h := h.1 c49
      refine aw_lvsub (lv' := [(0, .ref 0), (3, .int x3), (5, .int x5), (6, .int x6), (8, .int x8), (9, .int x9), (10, .int x10), (12, .int x12), (13, .int x13), (14, .int x14)]) [0, 1, 3, 4, 6, 7, 8, 9, 10, 11] rfl ?_
      exact aw_X12_order_547 hd  h
    · have h := h.2 c49
      refine aw_iconst (v := (1 : Int32)) dX12_order_543 (by decide) ?_
      refine aw_goto 548 dX12_order_544 (by decide) ?_
      refine aw_lvsub (lv' := [(0, .ref 0), (3, .int x3), (5, .int x5), (6, .int x6), (8, .int x8), (9, .int x9), (10, .int x10), (12, .int x12), (13, .int x13), (14, .int x14)]) [0, 1, 3, 4, 6, 7, 8, 9, 10, 11] rfl ?_
      exact aw_X12_order_548 hd  h
def wp_X12_order_510  (post : Int32 → WSX12 → Prop) (σ : WSX12) (x2 : Int32) (x3 : Int32) (x4 : Int32) (x5 : Int32) (x6 : Int32) (x7 : Int32) (x8 : Int32) (x9 : Int32) (x10 : Int32) (x12 : Int32) (x13 : Int32) (x14 : Int32) : Prop :=
  ((x7 = 0 → wp_X12_order_528  post σ x3 x4 x5 x6 x7 x8 x9 x10 x12 x13 x14) ∧ (¬ x7 = 0 → ((¬ x4 = (5 : Int32) → wp_X12_order_560  post σ x2 x3 x4 x5 x6 x7 x9 x10 x12 x13 x14) ∧ (x4 = (5 : Int32) → ((¬ x7 = (32 : Int32) → wp_X12_order_560  post σ x2 x3 x4 x5 x6 x7 x9 x10 x12 x13 x14) ∧ (x7 = (32 : Int32) → wp_X12_order_528  post σ x3 x4 x5 x6 x7 x8 x9 x10 x12 x13 x14))))))
theorem aw_X12_order_510 {G : aw_G} {d : Nat} (hd : 1 ≤ d) {post : Int32 → WSX12 → Prop}  {σ : WSX12} {x2 : Int32} {x3 : Int32} {x4 : Int32} {x5 : Int32} {x6 : Int32} {x7 : Int32} {x8 : Int32} {x9 : Int32} {x10 : Int32} {x12 : Int32} {x13 : Int32} {x14 : Int32} (h : wp_X12_order_510  post σ x2 x3 x4 x5 x6 x7 x8 x9 x10 x12 x13 x14) : AW G MX12_order d 0 0 25 (aw_pi (wX12 G) post) 510 [(0, .ref 0), (2, .int x2), (3, .int x3), (4, .int x4), (5, .int x5), (6, .int x6), (7, .int x7), (8, .int x8), (9, .int x9), (10, .int x10), (12, .int x12), (13, .int x13), (14, .int x14)] [] (wX12 G σ) := by
  unfold wp_X12_order_510 at h
  refine aw_iload 6 dX12_order_510 rfl ?_
  refine aw_if_eq 528 dX12_order_512 (by decide) (fun c53 => ?_) (fun c53 => ?_)
  · have h := h.1 c53
    refine aw_lvsub (lv' := [(0, .ref 0), (3, .int x3), (4, .int x4), (5, .int x5), (6, .int x6), (7, .int x7), (8, .int x8), (9, .int x9), (10, .int x10), (12, .int x12), (13, .int x13), (14, .int x14)]) [0, 2, 3, 4, 5, 6, 7, 8, 9, 10, 11, 12] rfl ?_
    exact aw_X12_order_528 hd  h
  · have h := h.2 c53
    refine aw_iload 3 dX12_order_515 rfl ?_
    refine aw_iconst (v := (5 : Int32)) dX12_order_517 (by decide) ?_
    refine aw_icmp_ne 560 dX12_order_518 (by decide) (fun c52 => ?_) (fun c52 => ?_)
    · have h := h.1 c52
      refine aw_lvsub (lv' := [(0, .ref 0), (2, .int x2), (3, .int x3), (4, .int x4), (5, .int x5), (6, .int x6), (7, .int x7), (9, .int x9), (10, .int x10), (12, .int x12), (13, .int x13), (14, .int x14)]) [0, 1, 2, 3, 4, 5, 6, 8, 9, 10, 11, 12] rfl ?_
      exact aw_X12_order_560 hd  h
    · have h := h.2 c52
      refine aw_iload 6 dX12_order_521 rfl ?_
      refine aw_bipush (v := (32 : Int32)) dX12_order_523 (by decide) ?_
      refine aw_icmp_ne 560 dX12_order_525 (by decide) (fun c51 => ?_) (fun c51 => ?_)
      · have h := h.1 c51
        refine aw_lvsub (lv' := [(0, .ref 0), (2, .int x2), (3, .int x3), (4, .int x4), (5, .int x5), (6, .int x6), (7, .int x7), (9, .int x9), (10, .int x10), (12, .int x12), (13, .int x13), (14, .int x14)]) [0, 1, 2, 3, 4, 5, 6, 8, 9, 10, 11, 12] rfl ?_
        exact aw_X12_order_560 hd  h
      · have h := h.2 c51
        refine aw_lvsub (lv' := [(0, .ref 0), (3, .int x3), (4, .int x4), (5, .int x5), (6, .int x6), (7, .int x7), (8, .int x8), (9, .int x9), (10, .int x10), (12, .int x12), (13, .int x13), (14, .int x14)]) [0, 2, 3, 4, 5, 6, 7, 8, 9, 10, 11, 12] rfl ?_
        exact aw_X12_order_528 hd  h
def wp_X12_order_492  (post : Int32 → WSX12 → Prop) (σ : WSX12) (x2 : Int32) (x3 : Int32) (x4 : Int32) (x5 : Int32) (x6 : Int32) (x7 : Int32) (x8 : Int32) (x9 : Int32) (x10 : Int32) (x12 : Int32) (x13 : Int32) (x14 : Int32) : Prop :=
  ((¬ x2 = (19 : Int32) → wp_X12_order_560  post σ x2 x3 x4 x5 x6 x7 x9 x10 x12 x13 x14) ∧ (x2 = (19 : Int32) → ((x4 = (1 : Int32) → wp_X12_order_510  post σ x2 x3 x4 x5 x6 x7 x8 x9 x10 x12 x13 x14) ∧ (¬ x4 = (1 : Int32) → ((¬ x4 = (5 : Int32) → wp_X12_order_528  post σ x3 x4 x5 x6 x7 x8 x9 x10 x12 x13 x14) ∧ (x4 = (5 : Int32) → wp_X12_order_510  post σ x2 x3 x4 x5 x6 x7 x8 x9 x10 x12 x13 x14))))))
theorem aw_X12_order_492 {G : aw_G} {d : Nat} (hd : 1 ≤ d) {post : Int32 → WSX12 → Prop}  {σ : WSX12} {x2 : Int32} {x3 : Int32} {x4 : Int32} {x5 : Int32} {x6 : Int32} {x7 : Int32} {x8 : Int32} {x9 : Int32} {x10 : Int32} {x12 : Int32} {x13 : Int32} {x14 : Int32} (h : wp_X12_order_492  post σ x2 x3 x4 x5 x6 x7 x8 x9 x10 x12 x13 x14) : AW G MX12_order d 0 0 25 (aw_pi (wX12 G) post) 492 [(0, .ref 0), (2, .int x2), (3, .int x3), (4, .int x4), (5, .int x5), (6, .int x6), (7, .int x7), (8, .int x8), (9, .int x9), (10, .int x10), (12, .int x12), (13, .int x13), (14, .int x14)] [] (wX12 G σ) := by
  unfold wp_X12_order_492 at h
  refine aw_iload_n 1 dX12_order_492 rfl rfl ?_
  refine aw_bipush (v := (19 : Int32)) dX12_order_493 (by decide) ?_
  refine aw_icmp_ne 560 dX12_order_495 (by decide) (fun c56 => ?_) (fun c56 => ?_)
  · have h := h.1 c56
    refine aw_lvsub (lv' := [(0, .ref 0), (2, .int x2), (3, .int x3), (4, .int x4), (5, .int x5), (6, .int x6), (7, .int x7), (9, .int x9), (10, .int x10), (12, .int x12), (13, .int x13), (14, .int x14)]) [0, 1, 2, 3, 4, 5, 6, 8, 9, 10, 11, 12] rfl ?_
    exact aw_X12_order_560 hd  h
  · have h := h.2 c56
    refine aw_iload 3 dX12_order_498 rfl ?_
    refine aw_iconst (v := (1 : Int32)) dX12_order_500 (by decide) ?_
    refine aw_icmp_eq 510 dX12_order_501 (by decide) (fun c55 => ?_) (fun c55 => ?_)
    · have h := h.1 c55
      exact aw_X12_order_510 hd  h
    · have h := h.2 c55
      refine aw_iload 3 dX12_order_504 rfl ?_
      refine aw_iconst (v := (5 : Int32)) dX12_order_506 (by decide) ?_
      refine aw_icmp_ne 528 dX12_order_507 (by decide) (fun c54 => ?_) (fun c54 => ?_)
      · have h := h.1 c54
        refine aw_lvsub (lv' := [(0, .ref 0), (3, .int x3), (4, .int x4), (5, .int x5), (6, .int x6), (7, .int x7), (8, .int x8), (9, .int x9), (10, .int x10), (12, .int x12), (13, .int x13), (14, .int x14)]) [0, 2, 3, 4, 5, 6, 7, 8, 9, 10, 11, 12] rfl ?_
        exact aw_X12_order_528 hd  h
      · have h := h.2 c54
        exact aw_X12_order_510 hd  h
def wp_X12_order_451  (post : Int32 → WSX12 → Prop) (σ : WSX12) (x1 : Int32) (x2 : Int32) (x3 : Int32) (x4 : Int32) (x5 : Int32) (x6 : Int32) (x7 : Int32) (x8 : Int32) (x9 : Int32) (x10 : Int32) (x11 : Int32) (x12 : Int32) (x13 : Int32) (x14 : Int32) : Prop :=
  ((¬ x2 = (35 : Int32) → wp_X12_order_492  post σ x2 x3 x4 x5 x6 x7 x8 x9 x10 x12 x13 x14) ∧ (x2 = (35 : Int32) → ((¬ x4 = (2 : Int32) → wp_X12_order_492  post σ x2 x3 x4 x5 x6 x7 x8 x9 x10 x12 x13 x14) ∧ (x4 = (2 : Int32) → (∀ y57 : Int32, y57 = (x5 + (((x1 >>> ((25 : Int32) &&& 31)) <<< ((5 : Int32) &&& 31)) ||| x3)) → wp_X12_isPlace y57 (fun r58 τ59 => ((¬ r58 = 0 → wp_X12_order_657  post σ x3 x5 x6 x9 x10 x11 (0 : Int32) y57 x14) ∧ (r58 = 0 → post (3 : Int32) σ))))))))
theorem aw_X12_order_451 {G : aw_G} {d : Nat} (hd : 1 ≤ d) {post : Int32 → WSX12 → Prop}  {σ : WSX12} {x1 : Int32} {x2 : Int32} {x3 : Int32} {x4 : Int32} {x5 : Int32} {x6 : Int32} {x7 : Int32} {x8 : Int32} {x9 : Int32} {x10 : Int32} {x11 : Int32} {x12 : Int32} {x13 : Int32} {x14 : Int32} (h : wp_X12_order_451  post σ x1 x2 x3 x4 x5 x6 x7 x8 x9 x10 x11 x12 x13 x14) : AW G MX12_order d 0 0 25 (aw_pi (wX12 G) post) 451 [(0, .ref 0), (1, .int x1), (2, .int x2), (3, .int x3), (4, .int x4), (5, .int x5), (6, .int x6), (7, .int x7), (8, .int x8), (9, .int x9), (10, .int x10), (11, .int x11), (12, .int x12), (13, .int x13), (14, .int x14)] [] (wX12 G σ) := by
  unfold wp_X12_order_451 at h
  refine aw_iload_n 2 dX12_order_451 rfl rfl ?_
  refine aw_bipush (v := (35 : Int32)) dX12_order_452 (by decide) ?_
  refine aw_icmp_ne 492 dX12_order_454 (by decide) (fun c62 => ?_) (fun c62 => ?_)
  · have h := h.1 c62
    refine aw_lvsub (lv' := [(0, .ref 0), (2, .int x2), (3, .int x3), (4, .int x4), (5, .int x5), (6, .int x6), (7, .int x7), (8, .int x8), (9, .int x9), (10, .int x10), (12, .int x12), (13, .int x13), (14, .int x14)]) [0, 2, 3, 4, 5, 6, 7, 8, 9, 10, 12, 13, 14] rfl ?_
    exact aw_X12_order_492 hd  h
  · have h := h.2 c62
    refine aw_iload 4 dX12_order_457 rfl ?_
    refine aw_iconst (v := (2 : Int32)) dX12_order_459 (by decide) ?_
    refine aw_icmp_ne 492 dX12_order_460 (by decide) (fun c61 => ?_) (fun c61 => ?_)
    · have h := h.1 c61
      refine aw_lvsub (lv' := [(0, .ref 0), (2, .int x2), (3, .int x3), (4, .int x4), (5, .int x5), (6, .int x6), (7, .int x7), (8, .int x8), (9, .int x9), (10, .int x10), (12, .int x12), (13, .int x13), (14, .int x14)]) [0, 2, 3, 4, 5, 6, 7, 8, 9, 10, 12, 13, 14] rfl ?_
      exact aw_X12_order_492 hd  h
    · have h := h.2 c61
      refine aw_iload 5 dX12_order_463 rfl ?_
      refine aw_iload_n 1 dX12_order_465 rfl rfl ?_
      refine aw_bipush (v := (25 : Int32)) dX12_order_466 (by decide) ?_
      refine aw_ishr dX12_order_468 ?_
      refine aw_iconst (v := (5 : Int32)) dX12_order_469 (by decide) ?_
      refine aw_ishl dX12_order_470 ?_
      refine aw_iload_n 3 dX12_order_471 rfl rfl ?_
      refine aw_ior dX12_order_472 ?_
      refine aw_iadd dX12_order_473 ?_
      refine aw_topi (fun y57 ey57 => ?_)
      have h := h y57 ey57
      refine aw_istore (lv' := [(13, .int y57), (0, .ref 0), (1, .int x1), (2, .int x2), (3, .int x3), (4, .int x4), (5, .int x5), (6, .int x6), (7, .int x7), (8, .int x8), (9, .int x9), (10, .int x10), (11, .int x11), (12, .int x12), (14, .int x14)]) dX12_order_474 (by decide) rfl ?_
      refine aw_iload 0 dX12_order_476 rfl ?_
      refine aw_callST (st := []) (As := [.int y57]) lX12_298 sttX12_isPlace (by omega) (kX12_isPlace (d := 0) (by omega) h) rfl rfl rfl dX12_order_478 rfl (fun _ _ hh => ?_)
      obtain ⟨r58, τ59, rfl, rfl, h⟩ := hh
      refine ⟨rfl, (fun x hx => by cases hx; rfl), ?_⟩
      refine aw_stk (st' := [.int r58]) rfl ?_
      refine aw_if_ne 486 dX12_order_481 (by decide) (fun c60 => ?_) (fun c60 => ?_)
      · have h := h.1 c60
        refine aw_iconst (v := (0 : Int32)) dX12_order_486 (by decide) ?_
        refine aw_istore (lv' := [(12, .int (0 : Int32)), (13, .int y57), (0, .ref 0), (1, .int x1), (2, .int x2), (3, .int x3), (4, .int x4), (5, .int x5), (6, .int x6), (7, .int x7), (8, .int x8), (9, .int x9), (10, .int x10), (11, .int x11), (14, .int x14)]) dX12_order_487 (by decide) rfl ?_
        refine aw_goto 657 dX12_order_489 (by decide) ?_
        refine aw_lvsub (lv' := [(0, .ref 0), (3, .int x3), (5, .int x5), (6, .int x6), (9, .int x9), (10, .int x10), (11, .int x11), (12, .int (0 : Int32)), (13, .int y57), (14, .int x14)]) [2, 5, 7, 8, 11, 12, 13, 0, 1, 14] rfl ?_
        exact aw_X12_order_657 hd  h
      · have h := h.2 c60
        refine aw_iconst (v := (3 : Int32)) dX12_order_484 (by decide) ?_
        exact aw_iret rfl dX12_order_485 ⟨_, σ, rfl, rfl, h⟩
def wp_X12_order_409  (post : Int32 → WSX12 → Prop) (σ : WSX12) (x1 : Int32) (x2 : Int32) (x3 : Int32) (x4 : Int32) (x5 : Int32) (x6 : Int32) (x7 : Int32) (x8 : Int32) (x9 : Int32) (x10 : Int32) (x11 : Int32) (x12 : Int32) (x13 : Int32) (x14 : Int32) : Prop :=
  ((¬ x2 = (3 : Int32) → wp_X12_order_451  post σ x1 x2 x3 x4 x5 x6 x7 x8 x9 x10 x11 x12 x13 x14) ∧ (x2 = (3 : Int32) → ((¬ x4 = (2 : Int32) → wp_X12_order_451  post σ x1 x2 x3 x4 x5 x6 x7 x8 x9 x10 x11 x12 x13 x14) ∧ (x4 = (2 : Int32) → (∀ y63 : Int32, y63 = (x5 + x8) → wp_X12_isPlace y63 (fun r64 τ65 => ((¬ r64 = 0 → (vp_in (y63 / (4 : Int32)) 4096 ∧ (∀ y66 : Int32, y66 = (σ.2.2.1.2.2.2 ((y63 / (4 : Int32))).toNatClampNeg) → wp_X12_order_657  post σ x3 x5 x6 x9 x10 y66 x12 y63 x14))) ∧ (r64 = 0 → post (3 : Int32) σ))))))))
theorem aw_X12_order_409 {G : aw_G} {d : Nat} (hd : 1 ≤ d) {post : Int32 → WSX12 → Prop}  {σ : WSX12} {x1 : Int32} {x2 : Int32} {x3 : Int32} {x4 : Int32} {x5 : Int32} {x6 : Int32} {x7 : Int32} {x8 : Int32} {x9 : Int32} {x10 : Int32} {x11 : Int32} {x12 : Int32} {x13 : Int32} {x14 : Int32} (h : wp_X12_order_409  post σ x1 x2 x3 x4 x5 x6 x7 x8 x9 x10 x11 x12 x13 x14) : AW G MX12_order d 0 0 25 (aw_pi (wX12 G) post) 409 [(0, .ref 0), (1, .int x1), (2, .int x2), (3, .int x3), (4, .int x4), (5, .int x5), (6, .int x6), (7, .int x7), (8, .int x8), (9, .int x9), (10, .int x10), (11, .int x11), (12, .int x12), (13, .int x13), (14, .int x14)] [] (wX12 G σ) := by
  unfold wp_X12_order_409 at h
  refine aw_iload_n 2 dX12_order_409 rfl rfl ?_
  refine aw_iconst (v := (3 : Int32)) dX12_order_410 (by decide) ?_
  refine aw_icmp_ne 451 dX12_order_411 (by decide) (fun c69 => ?_) (fun c69 => ?_)
  · have h := h.1 c69
    exact aw_X12_order_451 hd  h
  · have h := h.2 c69
    refine aw_iload 4 dX12_order_414 rfl ?_
    refine aw_iconst (v := (2 : Int32)) dX12_order_416 (by decide) ?_
    refine aw_icmp_ne 451 dX12_order_417 (by decide) (fun c68 => ?_) (fun c68 => ?_)
    · have h := h.1 c68
      exact aw_X12_order_451 hd  h
    · have h := h.2 c68
      refine aw_iload 5 dX12_order_420 rfl ?_
      refine aw_iload 8 dX12_order_422 rfl ?_
      refine aw_iadd dX12_order_424 ?_
      refine aw_topi (fun y63 ey63 => ?_)
      have h := h y63 ey63
      refine aw_istore (lv' := [(13, .int y63), (0, .ref 0), (1, .int x1), (2, .int x2), (3, .int x3), (4, .int x4), (5, .int x5), (6, .int x6), (7, .int x7), (8, .int x8), (9, .int x9), (10, .int x10), (11, .int x11), (12, .int x12), (14, .int x14)]) dX12_order_425 (by decide) rfl ?_
      refine aw_iload 0 dX12_order_427 rfl ?_
      refine aw_callST (st := []) (As := [.int y63]) lX12_298 sttX12_isPlace (by omega) (kX12_isPlace (d := 0) (by omega) h) rfl rfl rfl dX12_order_429 rfl (fun _ _ hh => ?_)
      obtain ⟨r64, τ65, rfl, rfl, h⟩ := hh
      refine ⟨rfl, (fun x hx => by cases hx; rfl), ?_⟩
      refine aw_stk (st' := [.int r64]) rfl ?_
      refine aw_if_ne 437 dX12_order_432 (by decide) (fun c67 => ?_) (fun c67 => ?_)
      · have h := h.1 c67
        refine aw_aload_n 1 dX12_order_437 rfl rfl ?_
        refine aw_getf (v := .ref 22) fX12_81 0 rfl rfl dX12_order_438 ?_
        refine aw_iload 0 dX12_order_441 rfl ?_
        refine aw_iconst (v := (4 : Int32)) dX12_order_443 (by decide) ?_
        refine aw_idiv dX12_order_444 (by decide) ?_
        refine aw_iald 22 (n := 4096) (f := σ.2.2.1.2.2.2) rfl h.1 dX12_order_445 ?_
        have h := h.2
        refine aw_topi (fun y66 ey66 => ?_)
        have h := h y66 ey66
        refine aw_istore (lv' := [(11, .int y66), (13, .int y63), (0, .ref 0), (1, .int x1), (2, .int x2), (3, .int x3), (4, .int x4), (5, .int x5), (6, .int x6), (7, .int x7), (8, .int x8), (9, .int x9), (10, .int x10), (12, .int x12), (14, .int x14)]) dX12_order_446 (by decide) rfl ?_
        refine aw_goto 657 dX12_order_448 (by decide) ?_
        refine aw_lvsub (lv' := [(0, .ref 0), (3, .int x3), (5, .int x5), (6, .int x6), (9, .int x9), (10, .int x10), (11, .int y66), (12, .int x12), (13, .int y63), (14, .int x14)]) [2, 5, 7, 8, 11, 12, 0, 13, 1, 14] rfl ?_
        exact aw_X12_order_657 hd  h
      · have h := h.2 c67
        refine aw_iconst (v := (3 : Int32)) dX12_order_435 (by decide) ?_
        exact aw_iret rfl dX12_order_436 ⟨_, σ, rfl, rfl, h⟩
def wp_X12_order_404  (post : Int32 → WSX12 → Prop) (σ : WSX12) (x3 : Int32) (x5 : Int32) (x6 : Int32) (x10 : Int32) (x11 : Int32) (x12 : Int32) (x13 : Int32) (x14 : Int32) (s0 : Int32) : Prop :=
  wp_X12_order_657  post σ x3 x5 x6 s0 x10 x11 x12 x13 x14
theorem aw_X12_order_404 {G : aw_G} {d : Nat} (hd : 1 ≤ d) {post : Int32 → WSX12 → Prop}  {σ : WSX12} {x3 : Int32} {x5 : Int32} {x6 : Int32} {x10 : Int32} {x11 : Int32} {x12 : Int32} {x13 : Int32} {x14 : Int32} {s0 : Int32} (h : wp_X12_order_404  post σ x3 x5 x6 x10 x11 x12 x13 x14 s0) : AW G MX12_order d 0 0 25 (aw_pi (wX12 G) post) 404 [(0, .ref 0), (3, .int x3), (5, .int x5), (6, .int x6), (10, .int x10), (11, .int x11), (12, .int x12), (13, .int x13), (14, .int x14)] [.int s0] (wX12 G σ) := by
  unfold wp_X12_order_404 at h
  refine aw_istore (lv' := [(9, .int s0), (0, .ref 0), (3, .int x3), (5, .int x5), (6, .int x6), (10, .int x10), (11, .int x11), (12, .int x12), (13, .int x13), (14, .int x14)]) dX12_order_404 (by decide) rfl ?_
  refine aw_goto 657 dX12_order_406 (by decide) ?_
  refine aw_lvsub (lv' := [(0, .ref 0), (3, .int x3), (5, .int x5), (6, .int x6), (9, .int s0), (10, .int x10), (11, .int x11), (12, .int x12), (13, .int x13), (14, .int x14)]) [1, 2, 3, 4, 0, 5, 6, 7, 8, 9] rfl ?_
  exact aw_X12_order_657 hd  h
def wp_X12_order_348  (post : Int32 → WSX12 → Prop) (σ : WSX12) (x1 : Int32) (x3 : Int32) (x5 : Int32) (x6 : Int32) (x9 : Int32) (x11 : Int32) (x13 : Int32) (x14 : Int32) (s0 : Int32) : Prop :=
  (∀ y70 : Int32, y70 = (((((x1 >>> ((31 : Int32) &&& 31)) <<< ((12 : Int32) &&& 31)) ||| ((x1 <<< ((4 : Int32) &&& 31)) &&& (2048 : Int32))) ||| ((x1 >>> ((20 : Int32) &&& 31)) &&& (2016 : Int32))) ||| ((x1 >>> ((7 : Int32) &&& 31)) &&& (30 : Int32))) → ((s0 = 0 → wp_X12_order_404  post σ x3 x5 x6 s0 x11 (0 : Int32) x13 x14 x9) ∧ (¬ s0 = 0 → wp_X12_order_404  post σ x3 x5 x6 s0 x11 (0 : Int32) x13 x14 (σ.2.2.2.1.2.1 + y70))))
theorem aw_X12_order_348 {G : aw_G} {d : Nat} (hd : 1 ≤ d) {post : Int32 → WSX12 → Prop}  {σ : WSX12} {x1 : Int32} {x3 : Int32} {x5 : Int32} {x6 : Int32} {x9 : Int32} {x11 : Int32} {x13 : Int32} {x14 : Int32} {s0 : Int32} (h : wp_X12_order_348  post σ x1 x3 x5 x6 x9 x11 x13 x14 s0) : AW G MX12_order d 0 0 25 (aw_pi (wX12 G) post) 348 [(0, .ref 0), (1, .int x1), (3, .int x3), (5, .int x5), (6, .int x6), (9, .int x9), (11, .int x11), (13, .int x13), (14, .int x14)] [.int s0] (wX12 G σ) := by
  unfold wp_X12_order_348 at h
  refine aw_istore (lv' := [(10, .int s0), (0, .ref 0), (1, .int x1), (3, .int x3), (5, .int x5), (6, .int x6), (9, .int x9), (11, .int x11), (13, .int x13), (14, .int x14)]) dX12_order_348 (by decide) rfl ?_
  refine aw_iconst (v := (0 : Int32)) dX12_order_350 (by decide) ?_
  refine aw_istore (lv' := [(12, .int (0 : Int32)), (10, .int s0), (0, .ref 0), (1, .int x1), (3, .int x3), (5, .int x5), (6, .int x6), (9, .int x9), (11, .int x11), (13, .int x13), (14, .int x14)]) dX12_order_351 (by decide) rfl ?_
  refine aw_iload_n 3 dX12_order_353 rfl rfl ?_
  refine aw_bipush (v := (31 : Int32)) dX12_order_354 (by decide) ?_
  refine aw_ishr dX12_order_356 ?_
  refine aw_bipush (v := (12 : Int32)) dX12_order_357 (by decide) ?_
  refine aw_ishl dX12_order_359 ?_
  refine aw_iload_n 3 dX12_order_360 rfl rfl ?_
  refine aw_iconst (v := (4 : Int32)) dX12_order_361 (by decide) ?_
  refine aw_ishl dX12_order_362 ?_
  refine aw_sipush (v := (2048 : Int32)) dX12_order_363 (by decide) ?_
  refine aw_iand dX12_order_366 ?_
  refine aw_ior dX12_order_367 ?_
  refine aw_iload_n 3 dX12_order_368 rfl rfl ?_
  refine aw_bipush (v := (20 : Int32)) dX12_order_369 (by decide) ?_
  refine aw_ishr dX12_order_371 ?_
  refine aw_sipush (v := (2016 : Int32)) dX12_order_372 (by decide) ?_
  refine aw_iand dX12_order_375 ?_
  refine aw_ior dX12_order_376 ?_
  refine aw_iload_n 3 dX12_order_377 rfl rfl ?_
  refine aw_bipush (v := (7 : Int32)) dX12_order_378 (by decide) ?_
  refine aw_ishr dX12_order_380 ?_
  refine aw_bipush (v := (30 : Int32)) dX12_order_381 (by decide) ?_
  refine aw_iand dX12_order_383 ?_
  refine aw_ior dX12_order_384 ?_
  refine aw_topi (fun y70 ey70 => ?_)
  have h := h y70 ey70
  refine aw_istore (lv' := [(17, .int y70), (12, .int (0 : Int32)), (10, .int s0), (0, .ref 0), (1, .int x1), (3, .int x3), (5, .int x5), (6, .int x6), (9, .int x9), (11, .int x11), (13, .int x13), (14, .int x14)]) dX12_order_385 (by decide) rfl ?_
  refine aw_iload 2 dX12_order_387 rfl ?_
  refine aw_if_eq 402 dX12_order_389 (by decide) (fun c71 => ?_) (fun c71 => ?_)
  · have h := h.1 c71
    refine aw_iload 8 dX12_order_402 rfl ?_
    refine aw_lvsub (lv' := [(0, .ref 0), (3, .int x3), (5, .int x5), (6, .int x6), (10, .int s0), (11, .int x11), (12, .int (0 : Int32)), (13, .int x13), (14, .int x14)]) [3, 5, 6, 7, 2, 9, 1, 10, 11] rfl ?_
    exact aw_X12_order_404 hd  h
  · have h := h.2 c71
    refine aw_aload_n 3 dX12_order_392 rfl rfl ?_
    refine aw_getf (v := .int σ.2.2.2.1.2.1) fX12_301 0 rfl rfl dX12_order_393 ?_
    refine aw_iload 0 dX12_order_396 rfl ?_
    refine aw_iadd dX12_order_398 ?_
    refine aw_goto 404 dX12_order_399 (by decide) ?_
    refine aw_lvsub (lv' := [(0, .ref 0), (3, .int x3), (5, .int x5), (6, .int x6), (10, .int s0), (11, .int x11), (12, .int (0 : Int32)), (13, .int x13), (14, .int x14)]) [3, 5, 6, 7, 2, 9, 1, 10, 11] rfl ?_
    exact aw_X12_order_404 hd  h
def wp_X12_order_324  (post : Int32 → WSX12 → Prop) (σ : WSX12) (x1 : Int32) (x3 : Int32) (x4 : Int32) (x5 : Int32) (x6 : Int32) (x9 : Int32) (x11 : Int32) (x13 : Int32) (x14 : Int32) (s0 : Int32) : Prop :=
  ((¬ (x4 - x4 / (2 : Int32) * (2 : Int32)) = 0 → ((¬ s0 = 0 → wp_X12_order_348  post σ x1 x3 x5 x6 x9 x11 x13 x14 (0 : Int32)) ∧ (s0 = 0 → wp_X12_order_348  post σ x1 x3 x5 x6 x9 x11 x13 x14 (1 : Int32)))) ∧ ((x4 - x4 / (2 : Int32) * (2 : Int32)) = 0 → wp_X12_order_348  post σ x1 x3 x5 x6 x9 x11 x13 x14 s0))
theorem aw_X12_order_324 {G : aw_G} {d : Nat} (hd : 1 ≤ d) {post : Int32 → WSX12 → Prop}  {σ : WSX12} {x1 : Int32} {x3 : Int32} {x4 : Int32} {x5 : Int32} {x6 : Int32} {x9 : Int32} {x11 : Int32} {x13 : Int32} {x14 : Int32} {s0 : Int32} (h : wp_X12_order_324  post σ x1 x3 x4 x5 x6 x9 x11 x13 x14 s0) : AW G MX12_order d 0 0 25 (aw_pi (wX12 G) post) 324 [(0, .ref 0), (1, .int x1), (3, .int x3), (4, .int x4), (5, .int x5), (6, .int x6), (9, .int x9), (11, .int x11), (13, .int x13), (14, .int x14)] [.int s0] (wX12 G σ) := by
  unfold wp_X12_order_324 at h
  refine aw_istore (lv' := [(16, .int s0), (0, .ref 0), (1, .int x1), (3, .int x3), (4, .int x4), (5, .int x5), (6, .int x6), (9, .int x9), (11, .int x11), (13, .int x13), (14, .int x14)]) dX12_order_324 (by decide) rfl ?_
  refine aw_iload 4 dX12_order_326 rfl ?_
  refine aw_iconst (v := (2 : Int32)) dX12_order_328 (by decide) ?_
  refine aw_irem dX12_order_329 (by decide) ?_
  refine aw_if_ne 338 dX12_order_330 (by decide) (fun c73 => ?_) (fun c73 => ?_)
  · have h := h.1 c73
    refine aw_iload 0 dX12_order_338 rfl ?_
    refine aw_if_ne 347 dX12_order_340 (by decide) (fun c72 => ?_) (fun c72 => ?_)
    · have h := h.1 c72
      refine aw_iconst (v := (0 : Int32)) dX12_order_347 (by decide) ?_
      refine aw_lvsub (lv' := [(0, .ref 0), (1, .int x1), (3, .int x3), (5, .int x5), (6, .int x6), (9, .int x9), (11, .int x11), (13, .int x13), (14, .int x14)]) [1, 2, 3, 5, 6, 7, 8, 9, 10] rfl ?_
      exact aw_X12_order_348 hd  h
    · have h := h.2 c72
      refine aw_iconst (v := (1 : Int32)) dX12_order_343 (by decide) ?_
      refine aw_goto 348 dX12_order_344 (by decide) ?_
      refine aw_lvsub (lv' := [(0, .ref 0), (1, .int x1), (3, .int x3), (5, .int x5), (6, .int x6), (9, .int x9), (11, .int x11), (13, .int x13), (14, .int x14)]) [1, 2, 3, 5, 6, 7, 8, 9, 10] rfl ?_
      exact aw_X12_order_348 hd  h
  · have h := h.2 c73
    refine aw_iload 0 dX12_order_333 rfl ?_
    refine aw_goto 348 dX12_order_335 (by decide) ?_
    refine aw_lvsub (lv' := [(0, .ref 0), (1, .int x1), (3, .int x3), (5, .int x5), (6, .int x6), (9, .int x9), (11, .int x11), (13, .int x13), (14, .int x14)]) [1, 2, 3, 5, 6, 7, 8, 9, 10] rfl ?_
    exact aw_X12_order_348 hd  h
def wp_X12_order_299  (post : Int32 → WSX12 → Prop) (σ : WSX12) (x1 : Int32) (x3 : Int32) (x4 : Int32) (x5 : Int32) (x6 : Int32) (x9 : Int32) (x11 : Int32) (x13 : Int32) (x14 : Int32) (s0 : Int32) : Prop :=
  (((2 : Int32) ≤ x4 → wp_X12_order_324  post σ x1 x3 x4 x5 x6 x9 x11 x13 x14 s0) ∧ (¬ (2 : Int32) ≤ x4 → ((¬ x5 = x6 → wp_X12_order_324  post σ x1 x3 x4 x5 x6 x9 x11 x13 x14 (0 : Int32)) ∧ (x5 = x6 → wp_X12_order_324  post σ x1 x3 x4 x5 x6 x9 x11 x13 x14 (1 : Int32)))))
theorem aw_X12_order_299 {G : aw_G} {d : Nat} (hd : 1 ≤ d) {post : Int32 → WSX12 → Prop}  {σ : WSX12} {x1 : Int32} {x3 : Int32} {x4 : Int32} {x5 : Int32} {x6 : Int32} {x9 : Int32} {x11 : Int32} {x13 : Int32} {x14 : Int32} {s0 : Int32} (h : wp_X12_order_299  post σ x1 x3 x4 x5 x6 x9 x11 x13 x14 s0) : AW G MX12_order d 0 0 25 (aw_pi (wX12 G) post) 299 [(0, .ref 0), (1, .int x1), (3, .int x3), (4, .int x4), (5, .int x5), (6, .int x6), (9, .int x9), (11, .int x11), (13, .int x13), (14, .int x14)] [.int s0] (wX12 G σ) := by
  unfold wp_X12_order_299 at h
  refine aw_istore (lv' := [(15, .int s0), (0, .ref 0), (1, .int x1), (3, .int x3), (4, .int x4), (5, .int x5), (6, .int x6), (9, .int x9), (11, .int x11), (13, .int x13), (14, .int x14)]) dX12_order_299 (by decide) rfl ?_
  refine aw_iload 4 dX12_order_301 rfl ?_
  refine aw_iconst (v := (2 : Int32)) dX12_order_303 (by decide) ?_
  refine aw_icmp_ge 322 dX12_order_304 (by decide) (fun c75 => ?_) (fun c75 => ?_)
  · have h := h.1 c75
    refine aw_iload 0 dX12_order_322 rfl ?_
    refine aw_lvsub (lv' := [(0, .ref 0), (1, .int x1), (3, .int x3), (4, .int x4), (5, .int x5), (6, .int x6), (9, .int x9), (11, .int x11), (13, .int x13), (14, .int x14)]) [1, 2, 3, 4, 5, 6, 7, 8, 9, 10] rfl ?_
    exact aw_X12_order_324 hd  h
  · have h := h.2 c75
    refine aw_iload 5 dX12_order_307 rfl ?_
    refine aw_iload 6 dX12_order_309 rfl ?_
    refine aw_icmp_ne 318 dX12_order_311 (by decide) (fun c74 => ?_) (fun c74 => ?_)
    · have h := h.1 c74
      refine aw_iconst (v := (0 : Int32)) dX12_order_318 (by decide) ?_
      refine aw_goto 324 dX12_order_319 (by decide) ?_
      refine aw_lvsub (lv' := [(0, .ref 0), (1, .int x1), (3, .int x3), (4, .int x4), (5, .int x5), (6, .int x6), (9, .int x9), (11, .int x11), (13, .int x13), (14, .int x14)]) [1, 2, 3, 4, 5, 6, 7, 8, 9, 10] rfl ?_
      exact aw_X12_order_324 hd  h
    · have h := h.2 c74
      refine aw_iconst (v := (1 : Int32)) dX12_order_314 (by decide) ?_
      refine aw_goto 324 dX12_order_315 (by decide) ?_
      refine aw_lvsub (lv' := [(0, .ref 0), (1, .int x1), (3, .int x3), (4, .int x4), (5, .int x5), (6, .int x6), (9, .int x9), (11, .int x11), (13, .int x13), (14, .int x14)]) [1, 2, 3, 4, 5, 6, 7, 8, 9, 10] rfl ?_
      exact aw_X12_order_324 hd  h
def wp_X12_order_239  (post : Int32 → WSX12 → Prop) (σ : WSX12) (x1 : Int32) (x2 : Int32) (x3 : Int32) (x4 : Int32) (x5 : Int32) (x6 : Int32) (x7 : Int32) (x8 : Int32) (x9 : Int32) (x10 : Int32) (x11 : Int32) (x12 : Int32) (x13 : Int32) (x14 : Int32) : Prop :=
  ((¬ x2 = (99 : Int32) → wp_X12_order_409  post σ x1 x2 x3 x4 x5 x6 x7 x8 x9 x10 x11 x12 x13 x14) ∧ (x2 = (99 : Int32) → ((x4 = (2 : Int32) → wp_X12_order_409  post σ x1 x2 x3 x4 x5 x6 x7 x8 x9 x10 x11 x12 x13 x14) ∧ (¬ x4 = (2 : Int32) → ((x4 = (3 : Int32) → wp_X12_order_409  post σ x1 x2 x3 x4 x5 x6 x7 x8 x9 x10 x11 x12 x13 x14) ∧ (¬ x4 = (3 : Int32) → (((6 : Int32) ≤ x4 → (((x6 ^^^ ((-2147483648) : Int32)) ≤ (x5 ^^^ ((-2147483648) : Int32)) → wp_X12_order_299  post σ x1 x3 x4 x5 x6 x9 x11 x13 x14 (0 : Int32)) ∧ (¬ (x6 ^^^ ((-2147483648) : Int32)) ≤ (x5 ^^^ ((-2147483648) : Int32)) → wp_X12_order_299  post σ x1 x3 x4 x5 x6 x9 x11 x13 x14 (1 : Int32)))) ∧ (¬ (6 : Int32) ≤ x4 → ((x6 ≤ x5 → wp_X12_order_299  post σ x1 x3 x4 x5 x6 x9 x11 x13 x14 (0 : Int32)) ∧ (¬ x6 ≤ x5 → wp_X12_order_299  post σ x1 x3 x4 x5 x6 x9 x11 x13 x14 (1 : Int32)))))))))))
theorem aw_X12_order_239 {G : aw_G} {d : Nat} (hd : 1 ≤ d) {post : Int32 → WSX12 → Prop}  {σ : WSX12} {x1 : Int32} {x2 : Int32} {x3 : Int32} {x4 : Int32} {x5 : Int32} {x6 : Int32} {x7 : Int32} {x8 : Int32} {x9 : Int32} {x10 : Int32} {x11 : Int32} {x12 : Int32} {x13 : Int32} {x14 : Int32} (h : wp_X12_order_239  post σ x1 x2 x3 x4 x5 x6 x7 x8 x9 x10 x11 x12 x13 x14) : AW G MX12_order d 0 0 25 (aw_pi (wX12 G) post) 239 [(0, .ref 0), (1, .int x1), (2, .int x2), (3, .int x3), (4, .int x4), (5, .int x5), (6, .int x6), (7, .int x7), (8, .int x8), (9, .int x9), (10, .int x10), (11, .int x11), (12, .int x12), (13, .int x13), (14, .int x14)] [] (wX12 G σ) := by
  unfold wp_X12_order_239 at h
  refine aw_iload_n 2 dX12_order_239 rfl rfl ?_
  refine aw_bipush (v := (99 : Int32)) dX12_order_240 (by decide) ?_
  refine aw_icmp_ne 409 dX12_order_242 (by decide) (fun c81 => ?_) (fun c81 => ?_)
  · have h := h.1 c81
    exact aw_X12_order_409 hd  h
  · have h := h.2 c81
    refine aw_iload 4 dX12_order_245 rfl ?_
    refine aw_iconst (v := (2 : Int32)) dX12_order_247 (by decide) ?_
    refine aw_icmp_eq 409 dX12_order_248 (by decide) (fun c80 => ?_) (fun c80 => ?_)
    · have h := h.1 c80
      exact aw_X12_order_409 hd  h
    · have h := h.2 c80
      refine aw_iload 4 dX12_order_251 rfl ?_
      refine aw_iconst (v := (3 : Int32)) dX12_order_253 (by decide) ?_
      refine aw_icmp_eq 409 dX12_order_254 (by decide) (fun c79 => ?_) (fun c79 => ?_)
      · have h := h.1 c79
        exact aw_X12_order_409 hd  h
      · have h := h.2 c79
        refine aw_iload 4 dX12_order_257 rfl ?_
        refine aw_bipush (v := (6 : Int32)) dX12_order_259 (by decide) ?_
        refine aw_icmp_ge 279 dX12_order_261 (by decide) (fun c78 => ?_) (fun c78 => ?_)
        · have h := h.1 c78
          refine aw_iload 5 dX12_order_279 rfl ?_
          refine aw_ldcw (v := ((-2147483648) : Int32)) dX12_order_281 oX12_319 ?_
          refine aw_ixor dX12_order_284 ?_
          refine aw_iload 6 dX12_order_285 rfl ?_
          refine aw_ldcw (v := ((-2147483648) : Int32)) dX12_order_287 oX12_319 ?_
          refine aw_ixor dX12_order_290 ?_
          refine aw_icmp_ge 298 dX12_order_291 (by decide) (fun c76 => ?_) (fun c76 => ?_)
          · have h := h.1 c76
            refine aw_iconst (v := (0 : Int32)) dX12_order_298 (by decide) ?_
            refine aw_lvsub (lv' := [(0, .ref 0), (1, .int x1), (3, .int x3), (4, .int x4), (5, .int x5), (6, .int x6), (9, .int x9), (11, .int x11), (13, .int x13), (14, .int x14)]) [0, 1, 3, 4, 5, 6, 9, 11, 13, 14] rfl ?_
            exact aw_X12_order_299 hd  h
          · have h := h.2 c76
            refine aw_iconst (v := (1 : Int32)) dX12_order_294 (by decide) ?_
            refine aw_goto 299 dX12_order_295 (by decide) ?_
            refine aw_lvsub (lv' := [(0, .ref 0), (1, .int x1), (3, .int x3), (4, .int x4), (5, .int x5), (6, .int x6), (9, .int x9), (11, .int x11), (13, .int x13), (14, .int x14)]) [0, 1, 3, 4, 5, 6, 9, 11, 13, 14] rfl ?_
            exact aw_X12_order_299 hd  h
        · have h := h.2 c78
          refine aw_iload 5 dX12_order_264 rfl ?_
          refine aw_iload 6 dX12_order_266 rfl ?_
          refine aw_icmp_ge 275 dX12_order_268 (by decide) (fun c77 => ?_) (fun c77 => ?_)
          · have h := h.1 c77
            refine aw_iconst (v := (0 : Int32)) dX12_order_275 (by decide) ?_
            refine aw_goto 299 dX12_order_276 (by decide) ?_
            refine aw_lvsub (lv' := [(0, .ref 0), (1, .int x1), (3, .int x3), (4, .int x4), (5, .int x5), (6, .int x6), (9, .int x9), (11, .int x11), (13, .int x13), (14, .int x14)]) [0, 1, 3, 4, 5, 6, 9, 11, 13, 14] rfl ?_
            exact aw_X12_order_299 hd  h
          · have h := h.2 c77
            refine aw_iconst (v := (1 : Int32)) dX12_order_271 (by decide) ?_
            refine aw_goto 299 dX12_order_272 (by decide) ?_
            refine aw_lvsub (lv' := [(0, .ref 0), (1, .int x1), (3, .int x3), (4, .int x4), (5, .int x5), (6, .int x6), (9, .int x9), (11, .int x11), (13, .int x13), (14, .int x14)]) [0, 1, 3, 4, 5, 6, 9, 11, 13, 14] rfl ?_
            exact aw_X12_order_299 hd  h
def wp_X12_order (σ : WSX12) (post : Int32 → WSX12 → Prop) : Prop :=
  wp_X12_isPlace σ.2.2.2.1.2.1 (fun r1 τ2 => ((¬ r1 = 0 → (vp_in (σ.2.2.2.1.2.1 / (4 : Int32)) 4096 ∧ (∀ y3 : Int32, y3 = (σ.2.2.1.2.2.2 ((σ.2.2.2.1.2.1 / (4 : Int32))).toNatClampNeg) → (∀ y4 : Int32, y4 = (y3 &&& (127 : Int32)) → (∀ y5 : Int32, y5 = ((y3 >>> ((7 : Int32) &&& 31)) &&& (31 : Int32)) → (∀ y6 : Int32, y6 = ((y3 >>> ((12 : Int32) &&& 31)) &&& (7 : Int32)) → (vp_in ((y3 >>> ((15 : Int32) &&& 31)) &&& (31 : Int32)) 32 ∧ (∀ y7 : Int32, y7 = (σ.2.2.2.1.1 (((y3 >>> ((15 : Int32) &&& 31)) &&& (31 : Int32))).toNatClampNeg) → (vp_in ((y3 >>> ((20 : Int32) &&& 31)) &&& (31 : Int32)) 32 ∧ (∀ y8 : Int32, y8 = (σ.2.2.2.1.1 (((y3 >>> ((20 : Int32) &&& 31)) &&& (31 : Int32))).toNatClampNeg) → (∀ y9 : Int32, y9 = ((y3).toUInt32 >>> (((25 : Int32)).toUInt32 &&& Int32.toUInt32 31)).toInt32 → (∀ y10 : Int32, y10 = (y3 >>> ((20 : Int32) &&& 31)) → (∀ y11 : Int32, y11 = (σ.2.2.2.1.2.1 + (4 : Int32)) → ((¬ y3 = (115 : Int32) → ((¬ y4 = (55 : Int32) → ((¬ y4 = (23 : Int32) → ((¬ y4 = (111 : Int32) → ((¬ y4 = (103 : Int32) → wp_X12_order_239  post σ y3 y4 y5 y6 y7 y8 y9 y10 y11 (0 : Int32) (0 : Int32) (1 : Int32) ((-1) : Int32) (0 : Int32)) ∧ (y4 = (103 : Int32) → ((¬ y6 = 0 → wp_X12_order_239  post σ y3 y4 y5 y6 y7 y8 y9 y10 y11 (0 : Int32) (0 : Int32) (1 : Int32) ((-1) : Int32) (0 : Int32)) ∧ (y6 = 0 → (∀ y82 : Int32, y82 = ((y7 + y10) &&& ((-2) : Int32)) → wp_X12_order_657  post σ y5 y7 y8 y82 (1 : Int32) y11 (1 : Int32) ((-1) : Int32) (0 : Int32))))))) ∧ (y4 = (111 : Int32) → (∀ y85 : Int32, y85 = (σ.2.2.2.1.2.1 + (((((y3 >>> ((31 : Int32) &&& 31)) <<< ((20 : Int32) &&& 31)) ||| (y3 &&& (1044480 : Int32))) ||| ((y3 >>> ((9 : Int32) &&& 31)) &&& (2048 : Int32))) ||| ((y3 >>> ((20 : Int32) &&& 31)) &&& (2046 : Int32)))) → wp_X12_order_657  post σ y5 y7 y8 y85 (1 : Int32) y11 (1 : Int32) ((-1) : Int32) (0 : Int32))))) ∧ (y4 = (23 : Int32) → (∀ y87 : Int32, y87 = (σ.2.2.2.1.2.1 + (y3 &&& ((-4096) : Int32))) → wp_X12_order_657  post σ y5 y7 y8 y11 (0 : Int32) y87 (1 : Int32) ((-1) : Int32) (0 : Int32))))) ∧ (y4 = (55 : Int32) → (∀ y89 : Int32, y89 = (y3 &&& ((-4096) : Int32)) → wp_X12_order_657  post σ y5 y7 y8 y11 (0 : Int32) y89 (1 : Int32) ((-1) : Int32) (0 : Int32))))) ∧ (y3 = (115 : Int32) → post (1 : Int32) σ))))))))))))))) ∧ (r1 = 0 → post (3 : Int32) σ)))
theorem kX12_order {G : aw_G} {d : Nat} (hd : 1 ≤ d) {σ : WSX12} {post : Int32 → WSX12 → Prop} (h : wp_X12_order σ post) : AC G MX12_order d 0 0 25 [.ref 0] (wX12 G σ) (aw_pi (wX12 G) post) := by
  refine AC.of (lv := [(0, .ref 0)]) (by decide) (Nat.le_of_ble_eq_true rfl) rfl ?_
  unfold wp_X12_order at h
  refine aw_aload_n 0 dX12_order_0 rfl rfl ?_
  refine aw_getf (v := .int σ.2.2.2.1.2.1) fX12_301 0 rfl rfl dX12_order_1 ?_
  refine aw_callST (st := []) (As := [.int σ.2.2.2.1.2.1]) lX12_298 sttX12_isPlace (by omega) (kX12_isPlace (d := 0) (by omega) h) rfl rfl rfl dX12_order_4 rfl (fun _ _ hh => ?_)
  obtain ⟨r1, τ2, rfl, rfl, h⟩ := hh
  refine ⟨rfl, (fun x hx => by cases hx; rfl), ?_⟩
  refine aw_stk (st' := [.int r1]) rfl ?_
  refine aw_if_ne 12 dX12_order_7 (by decide) (fun c92 => ?_) (fun c92 => ?_)
  · have h := h.1 c92
    refine aw_aload_n 0 dX12_order_12 rfl rfl ?_
    refine aw_getf (v := .ref 22) fX12_81 0 rfl rfl dX12_order_13 ?_
    refine aw_aload_n 0 dX12_order_16 rfl rfl ?_
    refine aw_getf (v := .int σ.2.2.2.1.2.1) fX12_301 0 rfl rfl dX12_order_17 ?_
    refine aw_iconst (v := (4 : Int32)) dX12_order_20 (by decide) ?_
    refine aw_idiv dX12_order_21 (by decide) ?_
    refine aw_iald 22 (n := 4096) (f := σ.2.2.1.2.2.2) rfl h.1 dX12_order_22 ?_
    have h := h.2
    refine aw_topi (fun y3 ey3 => ?_)
    have h := h y3 ey3
    refine aw_istore_n (lv' := [(1, .int y3), (0, .ref 0)]) dX12_order_23 rfl (by decide) rfl ?_
    refine aw_iload_n 0 dX12_order_24 rfl rfl ?_
    refine aw_bipush (v := (127 : Int32)) dX12_order_25 (by decide) ?_
    refine aw_iand dX12_order_27 ?_
    refine aw_topi (fun y4 ey4 => ?_)
    have h := h y4 ey4
    refine aw_istore_n (lv' := [(2, .int y4), (1, .int y3), (0, .ref 0)]) dX12_order_28 rfl (by decide) rfl ?_
    refine aw_iload_n 1 dX12_order_29 rfl rfl ?_
    refine aw_bipush (v := (7 : Int32)) dX12_order_30 (by decide) ?_
    refine aw_ishr dX12_order_32 ?_
    refine aw_bipush (v := (31 : Int32)) dX12_order_33 (by decide) ?_
    refine aw_iand dX12_order_35 ?_
    refine aw_topi (fun y5 ey5 => ?_)
    have h := h y5 ey5
    refine aw_istore_n (lv' := [(3, .int y5), (2, .int y4), (1, .int y3), (0, .ref 0)]) dX12_order_36 rfl (by decide) rfl ?_
    refine aw_iload_n 2 dX12_order_37 rfl rfl ?_
    refine aw_bipush (v := (12 : Int32)) dX12_order_38 (by decide) ?_
    refine aw_ishr dX12_order_40 ?_
    refine aw_bipush (v := (7 : Int32)) dX12_order_41 (by decide) ?_
    refine aw_iand dX12_order_43 ?_
    refine aw_topi (fun y6 ey6 => ?_)
    have h := h y6 ey6
    refine aw_istore (lv' := [(4, .int y6), (3, .int y5), (2, .int y4), (1, .int y3), (0, .ref 0)]) dX12_order_44 (by decide) rfl ?_
    refine aw_aload_n 4 dX12_order_46 rfl rfl ?_
    refine aw_getf (v := .ref 23) fX12_84 0 rfl rfl dX12_order_47 ?_
    refine aw_iload_n 3 dX12_order_50 rfl rfl ?_
    refine aw_bipush (v := (15 : Int32)) dX12_order_51 (by decide) ?_
    refine aw_ishr dX12_order_53 ?_
    refine aw_bipush (v := (31 : Int32)) dX12_order_54 (by decide) ?_
    refine aw_iand dX12_order_56 ?_
    refine aw_iald 23 (n := 32) (f := σ.2.2.2.1.1) rfl h.1 dX12_order_57 ?_
    have h := h.2
    refine aw_topi (fun y7 ey7 => ?_)
    have h := h y7 ey7
    refine aw_istore (lv' := [(5, .int y7), (4, .int y6), (3, .int y5), (2, .int y4), (1, .int y3), (0, .ref 0)]) dX12_order_58 (by decide) rfl ?_
    refine aw_aload_n 5 dX12_order_60 rfl rfl ?_
    refine aw_getf (v := .ref 23) fX12_84 0 rfl rfl dX12_order_61 ?_
    refine aw_iload_n 4 dX12_order_64 rfl rfl ?_
    refine aw_bipush (v := (20 : Int32)) dX12_order_65 (by decide) ?_
    refine aw_ishr dX12_order_67 ?_
    refine aw_bipush (v := (31 : Int32)) dX12_order_68 (by decide) ?_
    refine aw_iand dX12_order_70 ?_
    refine aw_iald 23 (n := 32) (f := σ.2.2.2.1.1) rfl h.1 dX12_order_71 ?_
    have h := h.2
    refine aw_topi (fun y8 ey8 => ?_)
    have h := h y8 ey8
    refine aw_istore (lv' := [(6, .int y8), (5, .int y7), (4, .int y6), (3, .int y5), (2, .int y4), (1, .int y3), (0, .ref 0)]) dX12_order_72 (by decide) rfl ?_
    refine aw_iload_n 5 dX12_order_74 rfl rfl ?_
    refine aw_bipush (v := (25 : Int32)) dX12_order_75 (by decide) ?_
    refine aw_iushr dX12_order_77 ?_
    refine aw_topi (fun y9 ey9 => ?_)
    have h := h y9 ey9
    refine aw_istore (lv' := [(7, .int y9), (6, .int y8), (5, .int y7), (4, .int y6), (3, .int y5), (2, .int y4), (1, .int y3), (0, .ref 0)]) dX12_order_78 (by decide) rfl ?_
    refine aw_iload_n 6 dX12_order_80 rfl rfl ?_
    refine aw_bipush (v := (20 : Int32)) dX12_order_81 (by decide) ?_
    refine aw_ishr dX12_order_83 ?_
    refine aw_topi (fun y10 ey10 => ?_)
    have h := h y10 ey10
    refine aw_istore (lv' := [(8, .int y10), (7, .int y9), (6, .int y8), (5, .int y7), (4, .int y6), (3, .int y5), (2, .int y4), (1, .int y3), (0, .ref 0)]) dX12_order_84 (by decide) rfl ?_
    refine aw_aload_n 8 dX12_order_86 rfl rfl ?_
    refine aw_getf (v := .int σ.2.2.2.1.2.1) fX12_301 0 rfl rfl dX12_order_87 ?_
    refine aw_iconst (v := (4 : Int32)) dX12_order_90 (by decide) ?_
    refine aw_iadd dX12_order_91 ?_
    refine aw_topi (fun y11 ey11 => ?_)
    have h := h y11 ey11
    refine aw_istore (lv' := [(9, .int y11), (8, .int y10), (7, .int y9), (6, .int y8), (5, .int y7), (4, .int y6), (3, .int y5), (2, .int y4), (1, .int y3), (0, .ref 0)]) dX12_order_92 (by decide) rfl ?_
    refine aw_iconst (v := (0 : Int32)) dX12_order_94 (by decide) ?_
    refine aw_istore (lv' := [(10, .int (0 : Int32)), (9, .int y11), (8, .int y10), (7, .int y9), (6, .int y8), (5, .int y7), (4, .int y6), (3, .int y5), (2, .int y4), (1, .int y3), (0, .ref 0)]) dX12_order_95 (by decide) rfl ?_
    refine aw_iconst (v := (0 : Int32)) dX12_order_97 (by decide) ?_
    refine aw_istore (lv' := [(11, .int (0 : Int32)), (10, .int (0 : Int32)), (9, .int y11), (8, .int y10), (7, .int y9), (6, .int y8), (5, .int y7), (4, .int y6), (3, .int y5), (2, .int y4), (1, .int y3), (0, .ref 0)]) dX12_order_98 (by decide) rfl ?_
    refine aw_iconst (v := (1 : Int32)) dX12_order_100 (by decide) ?_
    refine aw_istore (lv' := [(12, .int (1 : Int32)), (11, .int (0 : Int32)), (10, .int (0 : Int32)), (9, .int y11), (8, .int y10), (7, .int y9), (6, .int y8), (5, .int y7), (4, .int y6), (3, .int y5), (2, .int y4), (1, .int y3), (0, .ref 0)]) dX12_order_101 (by decide) rfl ?_
    refine aw_iconst (v := ((-1) : Int32)) dX12_order_103 (by decide) ?_
    refine aw_istore (lv' := [(13, .int ((-1) : Int32)), (12, .int (1 : Int32)), (11, .int (0 : Int32)), (10, .int (0 : Int32)), (9, .int y11), (8, .int y10), (7, .int y9), (6, .int y8), (5, .int y7), (4, .int y6), (3, .int y5), (2, .int y4), (1, .int y3), (0, .ref 0)]) dX12_order_104 (by decide) rfl ?_
    refine aw_iconst (v := (0 : Int32)) dX12_order_106 (by decide) ?_
    refine aw_istore (lv' := [(14, .int (0 : Int32)), (13, .int ((-1) : Int32)), (12, .int (1 : Int32)), (11, .int (0 : Int32)), (10, .int (0 : Int32)), (9, .int y11), (8, .int y10), (7, .int y9), (6, .int y8), (5, .int y7), (4, .int y6), (3, .int y5), (2, .int y4), (1, .int y3), (0, .ref 0)]) dX12_order_107 (by decide) rfl ?_
    refine aw_iload_n 13 dX12_order_109 rfl rfl ?_
    refine aw_bipush (v := (115 : Int32)) dX12_order_110 (by decide) ?_
    refine aw_icmp_ne 117 dX12_order_112 (by decide) (fun c91 => ?_) (fun c91 => ?_)
    · have h := h.1 c91
      refine aw_iload_n 12 dX12_order_117 rfl rfl ?_
      refine aw_bipush (v := (55 : Int32)) dX12_order_118 (by decide) ?_
      refine aw_icmp_ne 133 dX12_order_120 (by decide) (fun c90 => ?_) (fun c90 => ?_)
      · have h := h.1 c90
        refine aw_iload_n 12 dX12_order_133 rfl rfl ?_
        refine aw_bipush (v := (23 : Int32)) dX12_order_134 (by decide) ?_
        refine aw_icmp_ne 154 dX12_order_136 (by decide) (fun c88 => ?_) (fun c88 => ?_)
        · have h := h.1 c88
          refine aw_iload_n 12 dX12_order_154 rfl rfl ?_
          refine aw_bipush (v := (111 : Int32)) dX12_order_155 (by decide) ?_
          refine aw_icmp_ne 208 dX12_order_157 (by decide) (fun c86 => ?_) (fun c86 => ?_)
          · have h := h.1 c86
            refine aw_iload_n 12 dX12_order_208 rfl rfl ?_
            refine aw_bipush (v := (103 : Int32)) dX12_order_209 (by decide) ?_
            refine aw_icmp_ne 239 dX12_order_211 (by decide) (fun c84 => ?_) (fun c84 => ?_)
            · have h := h.1 c84
              refine aw_lvsub (lv' := [(0, .ref 0), (1, .int y3), (2, .int y4), (3, .int y5), (4, .int y6), (5, .int y7), (6, .int y8), (7, .int y9), (8, .int y10), (9, .int y11), (10, .int (0 : Int32)), (11, .int (0 : Int32)), (12, .int (1 : Int32)), (13, .int ((-1) : Int32)), (14, .int (0 : Int32))]) [14, 13, 12, 11, 10, 9, 8, 7, 6, 5, 4, 3, 2, 1, 0] rfl ?_
              exact aw_X12_order_239 hd  h
            · have h := h.2 c84
              refine aw_iload 10 dX12_order_214 rfl ?_
              refine aw_if_ne 239 dX12_order_216 (by decide) (fun c83 => ?_) (fun c83 => ?_)
              · have h := h.1 c83
                refine aw_lvsub (lv' := [(0, .ref 0), (1, .int y3), (2, .int y4), (3, .int y5), (4, .int y6), (5, .int y7), (6, .int y8), (7, .int y9), (8, .int y10), (9, .int y11), (10, .int (0 : Int32)), (11, .int (0 : Int32)), (12, .int (1 : Int32)), (13, .int ((-1) : Int32)), (14, .int (0 : Int32))]) [14, 13, 12, 11, 10, 9, 8, 7, 6, 5, 4, 3, 2, 1, 0] rfl ?_
                exact aw_X12_order_239 hd  h
              · have h := h.2 c83
                refine aw_iload 5 dX12_order_219 rfl ?_
                refine aw_istore (lv' := [(11, .int y11), (14, .int (0 : Int32)), (13, .int ((-1) : Int32)), (12, .int (1 : Int32)), (10, .int (0 : Int32)), (9, .int y11), (8, .int y10), (7, .int y9), (6, .int y8), (5, .int y7), (4, .int y6), (3, .int y5), (2, .int y4), (1, .int y3), (0, .ref 0)]) dX12_order_221 (by decide) rfl ?_
                refine aw_iconst (v := (1 : Int32)) dX12_order_223 (by decide) ?_
                refine aw_istore (lv' := [(10, .int (1 : Int32)), (11, .int y11), (14, .int (0 : Int32)), (13, .int ((-1) : Int32)), (12, .int (1 : Int32)), (9, .int y11), (8, .int y10), (7, .int y9), (6, .int y8), (5, .int y7), (4, .int y6), (3, .int y5), (2, .int y4), (1, .int y3), (0, .ref 0)]) dX12_order_224 (by decide) rfl ?_
                refine aw_iload 9 dX12_order_226 rfl ?_
                refine aw_iload 6 dX12_order_228 rfl ?_
                refine aw_iadd dX12_order_230 ?_
                refine aw_bipush (v := ((-2) : Int32)) dX12_order_231 (by decide) ?_
                refine aw_iand dX12_order_233 ?_
                refine aw_topi (fun y82 ey82 => ?_)
                have h := h y82 ey82
                refine aw_istore (lv' := [(9, .int y82), (10, .int (1 : Int32)), (11, .int y11), (14, .int (0 : Int32)), (13, .int ((-1) : Int32)), (12, .int (1 : Int32)), (8, .int y10), (7, .int y9), (6, .int y8), (5, .int y7), (4, .int y6), (3, .int y5), (2, .int y4), (1, .int y3), (0, .ref 0)]) dX12_order_234 (by decide) rfl ?_
                refine aw_goto 657 dX12_order_236 (by decide) ?_
                refine aw_lvsub (lv' := [(0, .ref 0), (3, .int y5), (5, .int y7), (6, .int y8), (9, .int y82), (10, .int (1 : Int32)), (11, .int y11), (12, .int (1 : Int32)), (13, .int ((-1) : Int32)), (14, .int (0 : Int32))]) [14, 11, 9, 8, 0, 1, 2, 5, 4, 3] rfl ?_
                exact aw_X12_order_657 hd  h
          · have h := h.2 c86
            refine aw_iload 5 dX12_order_160 rfl ?_
            refine aw_istore (lv' := [(11, .int y11), (14, .int (0 : Int32)), (13, .int ((-1) : Int32)), (12, .int (1 : Int32)), (10, .int (0 : Int32)), (9, .int y11), (8, .int y10), (7, .int y9), (6, .int y8), (5, .int y7), (4, .int y6), (3, .int y5), (2, .int y4), (1, .int y3), (0, .ref 0)]) dX12_order_162 (by decide) rfl ?_
            refine aw_iconst (v := (1 : Int32)) dX12_order_164 (by decide) ?_
            refine aw_istore (lv' := [(10, .int (1 : Int32)), (11, .int y11), (14, .int (0 : Int32)), (13, .int ((-1) : Int32)), (12, .int (1 : Int32)), (9, .int y11), (8, .int y10), (7, .int y9), (6, .int y8), (5, .int y7), (4, .int y6), (3, .int y5), (2, .int y4), (1, .int y3), (0, .ref 0)]) dX12_order_165 (by decide) rfl ?_
            refine aw_aload_n 14 dX12_order_167 rfl rfl ?_
            refine aw_getf (v := .int σ.2.2.2.1.2.1) fX12_301 0 rfl rfl dX12_order_168 ?_
            refine aw_iload_n 13 dX12_order_171 rfl rfl ?_
            refine aw_bipush (v := (31 : Int32)) dX12_order_172 (by decide) ?_
            refine aw_ishr dX12_order_174 ?_
            refine aw_bipush (v := (20 : Int32)) dX12_order_175 (by decide) ?_
            refine aw_ishl dX12_order_177 ?_
            refine aw_iload_n 13 dX12_order_178 rfl rfl ?_
            refine aw_ldcw (v := (1044480 : Int32)) dX12_order_179 oX12_322 ?_
            refine aw_iand dX12_order_182 ?_
            refine aw_ior dX12_order_183 ?_
            refine aw_iload_n 13 dX12_order_184 rfl rfl ?_
            refine aw_bipush (v := (9 : Int32)) dX12_order_185 (by decide) ?_
            refine aw_ishr dX12_order_187 ?_
            refine aw_sipush (v := (2048 : Int32)) dX12_order_188 (by decide) ?_
            refine aw_iand dX12_order_191 ?_
            refine aw_ior dX12_order_192 ?_
            refine aw_iload_n 13 dX12_order_193 rfl rfl ?_
            refine aw_bipush (v := (20 : Int32)) dX12_order_194 (by decide) ?_
            refine aw_ishr dX12_order_196 ?_
            refine aw_sipush (v := (2046 : Int32)) dX12_order_197 (by decide) ?_
            refine aw_iand dX12_order_200 ?_
            refine aw_ior dX12_order_201 ?_
            refine aw_iadd dX12_order_202 ?_
            refine aw_topi (fun y85 ey85 => ?_)
            have h := h y85 ey85
            refine aw_istore (lv' := [(9, .int y85), (10, .int (1 : Int32)), (11, .int y11), (14, .int (0 : Int32)), (13, .int ((-1) : Int32)), (12, .int (1 : Int32)), (8, .int y10), (7, .int y9), (6, .int y8), (5, .int y7), (4, .int y6), (3, .int y5), (2, .int y4), (1, .int y3), (0, .ref 0)]) dX12_order_203 (by decide) rfl ?_
            refine aw_goto 657 dX12_order_205 (by decide) ?_
            refine aw_lvsub (lv' := [(0, .ref 0), (3, .int y5), (5, .int y7), (6, .int y8), (9, .int y85), (10, .int (1 : Int32)), (11, .int y11), (12, .int (1 : Int32)), (13, .int ((-1) : Int32)), (14, .int (0 : Int32))]) [14, 11, 9, 8, 0, 1, 2, 5, 4, 3] rfl ?_
            exact aw_X12_order_657 hd  h
        · have h := h.2 c88
          refine aw_aload_n 14 dX12_order_139 rfl rfl ?_
          refine aw_getf (v := .int σ.2.2.2.1.2.1) fX12_301 0 rfl rfl dX12_order_140 ?_
          refine aw_iload_n 13 dX12_order_143 rfl rfl ?_
          refine aw_sipush (v := ((-4096) : Int32)) dX12_order_144 (by decide) ?_
          refine aw_iand dX12_order_147 ?_
          refine aw_iadd dX12_order_148 ?_
          refine aw_topi (fun y87 ey87 => ?_)
          have h := h y87 ey87
          refine aw_istore (lv' := [(11, .int y87), (14, .int (0 : Int32)), (13, .int ((-1) : Int32)), (12, .int (1 : Int32)), (10, .int (0 : Int32)), (9, .int y11), (8, .int y10), (7, .int y9), (6, .int y8), (5, .int y7), (4, .int y6), (3, .int y5), (2, .int y4), (1, .int y3), (0, .ref 0)]) dX12_order_149 (by decide) rfl ?_
          refine aw_goto 657 dX12_order_151 (by decide) ?_
          refine aw_lvsub (lv' := [(0, .ref 0), (3, .int y5), (5, .int y7), (6, .int y8), (9, .int y11), (10, .int (0 : Int32)), (11, .int y87), (12, .int (1 : Int32)), (13, .int ((-1) : Int32)), (14, .int (0 : Int32))]) [14, 11, 9, 8, 5, 4, 0, 3, 2, 1] rfl ?_
          exact aw_X12_order_657 hd  h
      · have h := h.2 c90
        refine aw_iload_n 13 dX12_order_123 rfl rfl ?_
        refine aw_sipush (v := ((-4096) : Int32)) dX12_order_124 (by decide) ?_
        refine aw_iand dX12_order_127 ?_
        refine aw_topi (fun y89 ey89 => ?_)
        have h := h y89 ey89
        refine aw_istore (lv' := [(11, .int y89), (14, .int (0 : Int32)), (13, .int ((-1) : Int32)), (12, .int (1 : Int32)), (10, .int (0 : Int32)), (9, .int y11), (8, .int y10), (7, .int y9), (6, .int y8), (5, .int y7), (4, .int y6), (3, .int y5), (2, .int y4), (1, .int y3), (0, .ref 0)]) dX12_order_128 (by decide) rfl ?_
        refine aw_goto 657 dX12_order_130 (by decide) ?_
        refine aw_lvsub (lv' := [(0, .ref 0), (3, .int y5), (5, .int y7), (6, .int y8), (9, .int y11), (10, .int (0 : Int32)), (11, .int y89), (12, .int (1 : Int32)), (13, .int ((-1) : Int32)), (14, .int (0 : Int32))]) [14, 11, 9, 8, 5, 4, 0, 3, 2, 1] rfl ?_
        exact aw_X12_order_657 hd  h
    · have h := h.2 c91
      refine aw_iconst (v := (1 : Int32)) dX12_order_115 (by decide) ?_
      exact aw_iret rfl dX12_order_116 ⟨_, σ, rfl, rfl, h⟩
  · have h := h.2 c92
    refine aw_iconst (v := (3 : Int32)) dX12_order_10 (by decide) ?_
    exact aw_iret rfl dX12_order_11 ⟨_, σ, rfl, rfl, h⟩
def wb_X12_go_17  (post : Int32 → WSX12 → Prop) (rec_17 : WSX12 × Int32 × Int32 × Int32 → Prop) (σ : WSX12) (x1 : Int32) (x2 : Int32) (x3 : Int32) : Prop :=
  ((x1 ≤ x3 → post x2 σ) ∧ (¬ x1 ≤ x3 → ((¬ x2 = 0 → post x2 σ) ∧ (x2 = 0 → wp_X12_order σ  (fun r1 τ2 => rec_17 (τ2, x1, r1, (x3 + 1)))))))
def wp_X12_go_17  (post : Int32 → WSX12 → Prop) (n : Nat) (σ : WSX12) (x1 : Int32) (x2 : Int32) (x3 : Int32) : Prop := aw_loop (fun r (a : WSX12 × Int32 × Int32 × Int32) => wb_X12_go_17  post r a.1 a.2.1 a.2.2.1 a.2.2.2) n (σ, x1, x2, x3)
theorem aw_X12_go_17 {G : aw_G} {d : Nat} (hd : 2 ≤ d) {post : Int32 → WSX12 → Prop}  : ∀ (n : Nat) (σ : WSX12) (x1 : Int32) (x2 : Int32) (x3 : Int32), wp_X12_go_17  post n σ x1 x2 x3 → AW G MX12_go d 0 0 25 (aw_pi (wX12 G) post) 17 [(0, .ref 0), (1, .int x1), (2, .int x2), (3, .int x3)] [] (wX12 G σ) := by
  intro n
  induction n with
  | zero => intro σ x1 x2 x3 h; exact h.elim
  | succ n ih =>
    intro σ x1 x2 x3 h
    have hrec_17 : ∀ a : WSX12 × Int32 × Int32 × Int32, aw_loop (fun r (a : WSX12 × Int32 × Int32 × Int32) => wb_X12_go_17  post r a.1 a.2.1 a.2.2.1 a.2.2.2) n a → AW G MX12_go d 0 0 25 (aw_pi (wX12 G) post) 17 [(0, .ref 0), (1, .int a.2.1), (2, .int a.2.2.1), (3, .int a.2.2.2)] [] (wX12 G a.1) := fun a h => ih a.1 a.2.1 a.2.2.1 a.2.2.2 h
    have h : wb_X12_go_17  post (aw_loop (fun r (a : WSX12 × Int32 × Int32 × Int32) => wb_X12_go_17  post r a.1 a.2.1 a.2.2.1 a.2.2.2) n) σ x1 x2 x3 := h
    unfold wb_X12_go_17 at h
    refine aw_iload_n 3 dX12_go_17 rfl rfl ?_
    refine aw_iload_n 1 dX12_go_18 rfl rfl ?_
    refine aw_icmp_ge 37 dX12_go_19 (by decide) (fun c4 => ?_) (fun c4 => ?_)
    · have h := h.1 c4
      refine aw_iload_n 2 dX12_go_37 rfl rfl ?_
      exact aw_iret rfl dX12_go_38 ⟨_, σ, rfl, rfl, h⟩
    · have h := h.2 c4
      refine aw_iload_n 2 dX12_go_22 rfl rfl ?_
      refine aw_if_ne 37 dX12_go_23 (by decide) (fun c3 => ?_) (fun c3 => ?_)
      · have h := h.1 c3
        refine aw_iload_n 2 dX12_go_37 rfl rfl ?_
        exact aw_iret rfl dX12_go_38 ⟨_, σ, rfl, rfl, h⟩
      · have h := h.2 c3
        refine aw_aload_n 0 dX12_go_26 rfl rfl ?_
        refine aw_callVT (mc1 := 0) (ms1 := 0) (mc := 0) (ms := 0) (st := []) (q := 0) (As := []) lX12_340 insX12_order selX12_order ⟨TX12, 50, rfl⟩ (by omega) (kX12_order (d := 1) (by omega) h) (Nat.le_of_ble_eq_true rfl) rfl rfl rfl dX12_go_27 rfl (fun _ _ hh => ?_)
        obtain ⟨r1, τ2, rfl, rfl, h⟩ := hh
        refine aw_stk (st' := [.int r1]) rfl ?_
        refine aw_istore_n (lv' := [(2, .int r1), (0, .ref 0), (1, .int x1), (3, .int x3)]) dX12_go_30 rfl (by decide) rfl ?_
        refine aw_iinc 3 (v := (x3 + 1)) (lv' := [(3, .int (x3 + 1)), (2, .int r1), (0, .ref 0), (1, .int x1)]) dX12_go_31 rfl rfl (by decide) rfl ?_
        refine aw_goto 17 dX12_go_34 (by decide) ?_
        refine aw_lvsub (lv' := [(0, .ref 0), (1, .int x1), (2, .int r1), (3, .int (x3 + 1))]) [2, 3, 1, 0] rfl ?_
        exact hrec_17 (τ2, x1, r1, (x3 + 1)) h
def wp_X12_go (σ : WSX12) (a1 : Int32) (post : Int32 → WSX12 → Prop) : Prop :=
  ((a1 < 0 → post ((-1) : Int32) σ) ∧ (¬ a1 < 0 → ((a1 ≤ (2000 : Int32) → (∃ n5, wp_X12_go_17  post n5 σ a1 (0 : Int32) (0 : Int32))) ∧ (¬ a1 ≤ (2000 : Int32) → post ((-1) : Int32) σ))))
theorem kX12_go {G : aw_G} {d : Nat} (hd : 2 ≤ d) {σ : WSX12} {a1 : Int32} {post : Int32 → WSX12 → Prop} (h : wp_X12_go σ a1 post) : AC G MX12_go d 0 0 25 [.ref 0, .int a1] (wX12 G σ) (aw_pi (wX12 G) post) := by
  refine AC.of (lv := [(0, .ref 0), (1, .int a1)]) (by decide) (Nat.le_of_ble_eq_true rfl) rfl ?_
  unfold wp_X12_go at h
  refine aw_iload_n 1 dX12_go_0 rfl rfl ?_
  refine aw_if_lt 11 dX12_go_1 (by decide) (fun c7 => ?_) (fun c7 => ?_)
  · have h := h.1 c7
    refine aw_iconst (v := ((-1) : Int32)) dX12_go_11 (by decide) ?_
    exact aw_iret rfl dX12_go_12 ⟨_, σ, rfl, rfl, h⟩
  · have h := h.2 c7
    refine aw_iload_n 1 dX12_go_4 rfl rfl ?_
    refine aw_sipush (v := (2000 : Int32)) dX12_go_5 (by decide) ?_
    refine aw_icmp_le 13 dX12_go_8 (by decide) (fun c6 => ?_) (fun c6 => ?_)
    · have h := h.1 c6
      refine aw_iconst (v := (0 : Int32)) dX12_go_13 (by decide) ?_
      refine aw_istore_n (lv' := [(2, .int (0 : Int32)), (0, .ref 0), (1, .int a1)]) dX12_go_14 rfl (by decide) rfl ?_
      refine aw_iconst (v := (0 : Int32)) dX12_go_15 (by decide) ?_
      refine aw_istore_n (lv' := [(3, .int (0 : Int32)), (2, .int (0 : Int32)), (0, .ref 0), (1, .int a1)]) dX12_go_16 rfl (by decide) rfl ?_
      refine aw_lvsub (lv' := [(0, .ref 0), (1, .int a1), (2, .int (0 : Int32)), (3, .int (0 : Int32))]) [2, 3, 1, 0] rfl ?_
      obtain ⟨n5, h⟩ := h
      exact aw_X12_go_17 hd  n5 σ a1 (0 : Int32) (0 : Int32) h
    · have h := h.2 c6
      refine aw_iconst (v := ((-1) : Int32)) dX12_go_11 (by decide) ?_
      exact aw_iret rfl dX12_go_12 ⟨_, σ, rfl, rfl, h⟩
def wp_X12_state (σ : WSX12) (a1 : Int32) (post : Int32 → WSX12 → Prop) : Prop :=
  ((¬ a1 = 0 → ((¬ a1 = (1 : Int32) → ((¬ a1 = (2 : Int32) → ((¬ a1 = (3 : Int32) → post ((-1) : Int32) σ) ∧ (a1 = (3 : Int32) → post σ.2.2.2.2.1.2 σ))) ∧ (a1 = (2 : Int32) → post σ.2.2.2.2.1.1 σ))) ∧ (a1 = (1 : Int32) → post σ.2.2.2.1.2.2 σ))) ∧ (a1 = 0 → post σ.2.2.2.1.2.1 σ))
theorem kX12_state {G : aw_G} {d : Nat} (hd : 0 ≤ d) {σ : WSX12} {a1 : Int32} {post : Int32 → WSX12 → Prop} (h : wp_X12_state σ a1 post) : AC G MX12_state d 0 0 25 [.ref 0, .int a1] (wX12 G σ) (aw_pi (wX12 G) post) := by
  refine AC.of (lv := [(0, .ref 0), (1, .int a1)]) (by decide) (Nat.le_of_ble_eq_true rfl) rfl ?_
  unfold wp_X12_state at h
  refine aw_iload_n 1 dX12_state_0 rfl rfl ?_
  refine aw_if_ne 11 dX12_state_1 (by decide) (fun c4 => ?_) (fun c4 => ?_)
  · have h := h.1 c4
    refine aw_iload_n 1 dX12_state_11 rfl rfl ?_
    refine aw_iconst (v := (1 : Int32)) dX12_state_12 (by decide) ?_
    refine aw_icmp_ne 23 dX12_state_13 (by decide) (fun c3 => ?_) (fun c3 => ?_)
    · have h := h.1 c3
      refine aw_iload_n 1 dX12_state_23 rfl rfl ?_
      refine aw_iconst (v := (2 : Int32)) dX12_state_24 (by decide) ?_
      refine aw_icmp_ne 35 dX12_state_25 (by decide) (fun c2 => ?_) (fun c2 => ?_)
      · have h := h.1 c2
        refine aw_iload_n 1 dX12_state_35 rfl rfl ?_
        refine aw_iconst (v := (3 : Int32)) dX12_state_36 (by decide) ?_
        refine aw_icmp_ne 47 dX12_state_37 (by decide) (fun c1 => ?_) (fun c1 => ?_)
        · have h := h.1 c1
          refine aw_iconst (v := ((-1) : Int32)) dX12_state_47 (by decide) ?_
          exact aw_iret rfl dX12_state_48 ⟨_, σ, rfl, rfl, h⟩
        · have h := h.2 c1
          refine aw_aload_n 0 dX12_state_40 rfl rfl ?_
          refine aw_getf (v := .int σ.2.2.2.2.1.2) fX12_310 0 rfl rfl dX12_state_41 ?_
          refine aw_goto 48 dX12_state_44 (by decide) ?_
          exact aw_iret rfl dX12_state_48 ⟨_, σ, rfl, rfl, h⟩
      · have h := h.2 c2
        refine aw_aload_n 0 dX12_state_28 rfl rfl ?_
        refine aw_getf (v := .int σ.2.2.2.2.1.1) fX12_307 0 rfl rfl dX12_state_29 ?_
        refine aw_goto 48 dX12_state_32 (by decide) ?_
        exact aw_iret rfl dX12_state_48 ⟨_, σ, rfl, rfl, h⟩
    · have h := h.2 c3
      refine aw_aload_n 0 dX12_state_16 rfl rfl ?_
      refine aw_getf (v := .int σ.2.2.2.1.2.2) fX12_304 0 rfl rfl dX12_state_17 ?_
      refine aw_goto 48 dX12_state_20 (by decide) ?_
      exact aw_iret rfl dX12_state_48 ⟨_, σ, rfl, rfl, h⟩
  · have h := h.2 c4
    refine aw_aload_n 0 dX12_state_4 rfl rfl ?_
    refine aw_getf (v := .int σ.2.2.2.1.2.1) fX12_301 0 rfl rfl dX12_state_5 ?_
    refine aw_goto 48 dX12_state_8 (by decide) ?_
    exact aw_iret rfl dX12_state_48 ⟨_, σ, rfl, rfl, h⟩
def wp_X12_trail (σ : WSX12) (post : Int64 → WSX12 → Prop) : Prop :=
  post σ.2.2.2.2.2.1 σ
theorem kX12_trail {G : aw_G} {d : Nat} (hd : 0 ≤ d) {σ : WSX12} {post : Int64 → WSX12 → Prop} (h : wp_X12_trail σ post) : AC G MX12_trail d 0 0 25 [.ref 0] (wX12 G σ) (aw_pl (wX12 G) post) := by
  refine AC.of (lv := [(0, .ref 0)]) (by decide) (Nat.le_of_ble_eq_true rfl) rfl ?_
  unfold wp_X12_trail at h
  refine aw_aload_n 0 dX12_trail_0 rfl rfl ?_
  refine aw_getf (v := .long σ.2.2.2.2.2.1) fX12_313 0 rfl rfl dX12_trail_1 ?_
  exact aw_lret rfl dX12_trail_4 ⟨_, σ, rfl, rfl, h⟩
end WalkX12
