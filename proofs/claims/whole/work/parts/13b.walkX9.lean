section WalkX9
def wp_X9_isWord (σ : WSX9) (a1 : Nat) (post : Int32 → WSX9 → Prop) : Prop :=
  wp_X8_isText σ.2 σ.1.2.2.1 σ.1.2.2.2.1 a1 (fun r1 τ2 => (aw_bz r1 ∧ post r1 (σ.1, τ2)))
theorem kX9_isWord {G : aw_G} {d : Nat} (hd : 5 ≤ d) {σ : WSX9} {a1 : Nat} {post : Int32 → WSX9 → Prop} (h : wp_X9_isWord σ a1 post) : AC G MX9_isWord d 0 0 6 [.ref 0, .retAddr a1] (wX9 G σ) (aw_pi (wX9 G) post) := by
  refine AC.of (lv := [(0, .ref 0), (1, .retAddr a1)]) (by decide) (Nat.le_of_ble_eq_true rfl) rfl ?_
  unfold wp_X9_isWord at h
  refine aw_aload_n 0 dX9_isWord_0 rfl rfl ?_
  refine aw_getf (v := .ref 1) fX9_21 0 rfl rfl dX9_isWord_1 ?_
  refine aw_aload_n 0 dX9_isWord_4 rfl rfl ?_
  refine aw_getf (v := .int σ.1.2.2.1) fX9_41 0 rfl rfl dX9_isWord_5 ?_
  refine aw_aload_n 0 dX9_isWord_8 rfl rfl ?_
  refine aw_getf (v := .int σ.1.2.2.2.1) fX9_32 0 rfl rfl dX9_isWord_9 ?_
  refine aw_aload_nS 1 dX9_isWord_12 rfl rfl ?_
  refine aw_callV (mc1 := 0) (ms1 := 0) (mc := 0) (ms := 0) (st := []) (q := 1) (As := [.int σ.1.2.2.1, .int σ.1.2.2.2.1, .retAddr a1]) (vsc := [.int σ.1.2.2.1, .int σ.1.2.2.2.1, .retAddr a1]) lX9_107 insX8_isText selX8_isText ⟨TX8, 2, rfl⟩ (by omega) (kX8_isText (d := 4) (by omega) h) [1, 2] rfl rfl rfl rfl rfl dX9_isWord_13 rfl rfl (fun _ _ hh => ?_)
  obtain ⟨r1, τ2, rfl, rfl, h⟩ := hh
  refine ⟨(wX9 G (σ.1, τ2)), [.int r1], rfl, rfl, rfl, ?_⟩
  exact aw_zret rfl h.1.1 dX9_isWord_16 ⟨_, (σ.1, τ2), rfl, rfl, h.2⟩
def wp_X9_wordOrName (σ : WSX9) (post : Int32 → WSX9 → Prop) : Prop :=
  wp_X9_isWord σ 0 (fun r1 τ2 => ((r1 = 0 → wp_X9_isWord τ2 1 (fun r3 τ4 => ((r3 = 0 → wp_X9_isWord τ4 2 (fun r5 τ6 => ((r5 = 0 → wp_X9_isWord τ6 3 (fun r7 τ8 => ((r7 = 0 → wp_X9_isWord τ8 4 (fun r9 τ10 => ((r9 = 0 → wp_X9_isWord τ10 5 (fun r11 τ12 => ((r11 = 0 → wp_X9_isWord τ12 6 (fun r13 τ14 => ((r13 = 0 → post (2 : Int32) τ14) ∧ (¬ r13 = 0 → post (10 : Int32) τ14)))) ∧ (¬ r11 = 0 → post (9 : Int32) τ12)))) ∧ (¬ r9 = 0 → post (8 : Int32) τ10)))) ∧ (¬ r7 = 0 → post (7 : Int32) τ8)))) ∧ (¬ r5 = 0 → post (6 : Int32) τ6)))) ∧ (¬ r3 = 0 → post (5 : Int32) τ4)))) ∧ (¬ r1 = 0 → post (4 : Int32) τ2)))
theorem kX9_wordOrName {G : aw_G} {d : Nat} (hd : 6 ≤ d) {σ : WSX9} {post : Int32 → WSX9 → Prop} (h : wp_X9_wordOrName σ post) : AC G MX9_wordOrName d 0 0 6 [.ref 0] (wX9 G σ) (aw_pi (wX9 G) post) := by
  refine AC.of (lv := [(0, .ref 0)]) (by decide) (Nat.le_of_ble_eq_true rfl) rfl ?_
  unfold wp_X9_wordOrName at h
  refine aw_aload_n 0 dX9_wordOrName_0 rfl rfl ?_
  refine aw_ldcS (k := 0) (tx := "pub") (by decide +kernel) dX9_wordOrName_1 ?_
  refine aw_callVT (mc1 := 0) (ms1 := 0) (mc := 0) (ms := 0) (st := []) (q := 0) (As := [.retAddr 0]) lX9_91 insX9_isWord selX9_isWord ⟨TX9, 9, rfl⟩ (by omega) (kX9_isWord (d := 5) (by omega) h) (Nat.le_of_ble_eq_true rfl) rfl rfl rfl dX9_wordOrName_3 rfl (fun _ _ hh => ?_)
  obtain ⟨r1, τ2, rfl, rfl, h⟩ := hh
  refine aw_stk (st' := [.int r1]) rfl ?_
  refine aw_if_eq 11 dX9_wordOrName_6 (by decide) (fun c21 => ?_) (fun c21 => ?_)
  · have h := h.1 c21
    refine aw_aload_n 0 dX9_wordOrName_11 rfl rfl ?_
    refine aw_ldcS (k := 1) (tx := "sec") (by decide +kernel) dX9_wordOrName_12 ?_
    refine aw_callVT (mc1 := 0) (ms1 := 0) (mc := 0) (ms := 0) (st := []) (q := 0) (As := [.retAddr 1]) lX9_91 insX9_isWord selX9_isWord ⟨TX9, 9, rfl⟩ (by omega) (kX9_isWord (d := 5) (by omega) h) (Nat.le_of_ble_eq_true rfl) rfl rfl rfl dX9_wordOrName_14 rfl (fun _ _ hh => ?_)
    obtain ⟨r3, τ4, rfl, rfl, h⟩ := hh
    refine aw_stk (st' := [.int r3]) rfl ?_
    refine aw_if_eq 22 dX9_wordOrName_17 (by decide) (fun c20 => ?_) (fun c20 => ?_)
    · have h := h.1 c20
      refine aw_aload_n 0 dX9_wordOrName_22 rfl rfl ?_
      refine aw_ldcS (k := 2) (tx := "in") (by decide +kernel) dX9_wordOrName_23 ?_
      refine aw_callVT (mc1 := 0) (ms1 := 0) (mc := 0) (ms := 0) (st := []) (q := 0) (As := [.retAddr 2]) lX9_91 insX9_isWord selX9_isWord ⟨TX9, 9, rfl⟩ (by omega) (kX9_isWord (d := 5) (by omega) h) (Nat.le_of_ble_eq_true rfl) rfl rfl rfl dX9_wordOrName_25 rfl (fun _ _ hh => ?_)
      obtain ⟨r5, τ6, rfl, rfl, h⟩ := hh
      refine aw_stk (st' := [.int r5]) rfl ?_
      refine aw_if_eq 34 dX9_wordOrName_28 (by decide) (fun c19 => ?_) (fun c19 => ?_)
      · have h := h.1 c19
        refine aw_aload_n 0 dX9_wordOrName_34 rfl rfl ?_
        refine aw_ldcS (k := 3) (tx := "out") (by decide +kernel) dX9_wordOrName_35 ?_
        refine aw_callVT (mc1 := 0) (ms1 := 0) (mc := 0) (ms := 0) (st := []) (q := 0) (As := [.retAddr 3]) lX9_91 insX9_isWord selX9_isWord ⟨TX9, 9, rfl⟩ (by omega) (kX9_isWord (d := 5) (by omega) h) (Nat.le_of_ble_eq_true rfl) rfl rfl rfl dX9_wordOrName_37 rfl (fun _ _ hh => ?_)
        obtain ⟨r7, τ8, rfl, rfl, h⟩ := hh
        refine aw_stk (st' := [.int r7]) rfl ?_
        refine aw_if_eq 46 dX9_wordOrName_40 (by decide) (fun c18 => ?_) (fun c18 => ?_)
        · have h := h.1 c18
          refine aw_aload_n 0 dX9_wordOrName_46 rfl rfl ?_
          refine aw_ldcS (k := 4) (tx := "if") (by decide +kernel) dX9_wordOrName_47 ?_
          refine aw_callVT (mc1 := 0) (ms1 := 0) (mc := 0) (ms := 0) (st := []) (q := 0) (As := [.retAddr 4]) lX9_91 insX9_isWord selX9_isWord ⟨TX9, 9, rfl⟩ (by omega) (kX9_isWord (d := 5) (by omega) h) (Nat.le_of_ble_eq_true rfl) rfl rfl rfl dX9_wordOrName_49 rfl (fun _ _ hh => ?_)
          obtain ⟨r9, τ10, rfl, rfl, h⟩ := hh
          refine aw_stk (st' := [.int r9]) rfl ?_
          refine aw_if_eq 58 dX9_wordOrName_52 (by decide) (fun c17 => ?_) (fun c17 => ?_)
          · have h := h.1 c17
            refine aw_aload_n 0 dX9_wordOrName_58 rfl rfl ?_
            refine aw_ldcS (k := 5) (tx := "else") (by decide +kernel) dX9_wordOrName_59 ?_
            refine aw_callVT (mc1 := 0) (ms1 := 0) (mc := 0) (ms := 0) (st := []) (q := 0) (As := [.retAddr 5]) lX9_91 insX9_isWord selX9_isWord ⟨TX9, 9, rfl⟩ (by omega) (kX9_isWord (d := 5) (by omega) h) (Nat.le_of_ble_eq_true rfl) rfl rfl rfl dX9_wordOrName_61 rfl (fun _ _ hh => ?_)
            obtain ⟨r11, τ12, rfl, rfl, h⟩ := hh
            refine aw_stk (st' := [.int r11]) rfl ?_
            refine aw_if_eq 70 dX9_wordOrName_64 (by decide) (fun c16 => ?_) (fun c16 => ?_)
            · have h := h.1 c16
              refine aw_aload_n 0 dX9_wordOrName_70 rfl rfl ?_
              refine aw_ldcS (k := 6) (tx := "while") (by decide +kernel) dX9_wordOrName_71 ?_
              refine aw_callVT (mc1 := 0) (ms1 := 0) (mc := 0) (ms := 0) (st := []) (q := 0) (As := [.retAddr 6]) lX9_91 insX9_isWord selX9_isWord ⟨TX9, 9, rfl⟩ (by omega) (kX9_isWord (d := 5) (by omega) h) (Nat.le_of_ble_eq_true rfl) rfl rfl rfl dX9_wordOrName_73 rfl (fun _ _ hh => ?_)
              obtain ⟨r13, τ14, rfl, rfl, h⟩ := hh
              refine aw_stk (st' := [.int r13]) rfl ?_
              refine aw_if_eq 84 dX9_wordOrName_76 (by decide) (fun c15 => ?_) (fun c15 => ?_)
              · have h := h.1 c15
                refine aw_iconst (v := (2 : Int32)) dX9_wordOrName_84 (by decide) ?_
                exact aw_iret rfl dX9_wordOrName_85 ⟨_, τ14, rfl, rfl, h⟩
              · have h := h.2 c15
                refine aw_bipush (v := (10 : Int32)) dX9_wordOrName_79 (by decide) ?_
                refine aw_goto 85 dX9_wordOrName_81 (by decide) ?_
                exact aw_iret rfl dX9_wordOrName_85 ⟨_, τ14, rfl, rfl, h⟩
            · have h := h.2 c16
              refine aw_bipush (v := (9 : Int32)) dX9_wordOrName_67 (by decide) ?_
              exact aw_iret rfl dX9_wordOrName_69 ⟨_, τ12, rfl, rfl, h⟩
          · have h := h.2 c17
            refine aw_bipush (v := (8 : Int32)) dX9_wordOrName_55 (by decide) ?_
            exact aw_iret rfl dX9_wordOrName_57 ⟨_, τ10, rfl, rfl, h⟩
        · have h := h.2 c18
          refine aw_bipush (v := (7 : Int32)) dX9_wordOrName_43 (by decide) ?_
          exact aw_iret rfl dX9_wordOrName_45 ⟨_, τ8, rfl, rfl, h⟩
      · have h := h.2 c19
        refine aw_bipush (v := (6 : Int32)) dX9_wordOrName_31 (by decide) ?_
        exact aw_iret rfl dX9_wordOrName_33 ⟨_, τ6, rfl, rfl, h⟩
    · have h := h.2 c20
      refine aw_iconst (v := (5 : Int32)) dX9_wordOrName_20 (by decide) ?_
      exact aw_iret rfl dX9_wordOrName_21 ⟨_, τ4, rfl, rfl, h⟩
  · have h := h.2 c21
    refine aw_iconst (v := (4 : Int32)) dX9_wordOrName_9 (by decide) ?_
    exact aw_iret rfl dX9_wordOrName_10 ⟨_, τ2, rfl, rfl, h⟩
def wp_X9_readNumber_80  (post : Int32 → WSX9 → Prop) (σ : WSX9) (x1 : Int64) (s0 : Int32) : Prop :=
  ((0 < (lg_cmp x1 (2147483647 : Int64)) → post (1 : Int32) σ) ∧ (¬ 0 < (lg_cmp x1 (2147483647 : Int64)) → ((¬ s0 = 0 → post (1 : Int32) σ) ∧ (s0 = 0 → wp_X8_at σ.2 σ.1.2.2.2.1 (fun r3 τ4 => wp_X8_isLetter r3 (fun r5 τ6 => ((r5 = 0 → (∀ y7 : Int32, y7 = (x1).toInt32 → post (3 : Int32) ((σ.1.1, (σ.1.2.1, (σ.1.2.2.1, (σ.1.2.2.2.1, y7)))), τ4))) ∧ (¬ r5 = 0 → post (1 : Int32) (σ.1, τ4)))))))))
theorem aw_X9_readNumber_80 {G : aw_G} {d : Nat} (hd : 1 ≤ d) {post : Int32 → WSX9 → Prop}  {σ : WSX9} {x1 : Int64} {s0 : Int32} (h : wp_X9_readNumber_80  post σ x1 s0) : AW G MX9_readNumber d 0 0 6 (aw_pi (wX9 G) post) 80 [(0, .ref 0), (1, .long x1)] [.int s0] (wX9 G σ) := by
  unfold wp_X9_readNumber_80 at h
  refine aw_istore_n (lv' := [(3, .int s0), (0, .ref 0), (1, .long x1)]) dX9_readNumber_80 rfl (by decide) rfl ?_
  refine aw_lload_n 2 dX9_readNumber_81 rfl rfl ?_
  refine aw_ldc2 (v := (2147483647 : Int64)) dX9_readNumber_82 oX9_118 ?_
  refine aw_lcmp dX9_readNumber_85 ?_
  refine aw_if_gt 110 dX9_readNumber_86 (by decide) (fun c10 => ?_) (fun c10 => ?_)
  · have h := h.1 c10
    refine aw_iconst (v := (1 : Int32)) dX9_readNumber_110 (by decide) ?_
    exact aw_iret rfl dX9_readNumber_111 ⟨_, σ, rfl, rfl, h⟩
  · have h := h.2 c10
    refine aw_iload_n 0 dX9_readNumber_89 rfl rfl ?_
    refine aw_if_ne 110 dX9_readNumber_90 (by decide) (fun c9 => ?_) (fun c9 => ?_)
    · have h := h.1 c9
      refine aw_iconst (v := (1 : Int32)) dX9_readNumber_110 (by decide) ?_
      exact aw_iret rfl dX9_readNumber_111 ⟨_, σ, rfl, rfl, h⟩
    · have h := h.2 c9
      refine aw_aload_n 1 dX9_readNumber_93 rfl rfl ?_
      refine aw_getf (v := .ref 1) fX9_21 0 rfl rfl dX9_readNumber_94 ?_
      refine aw_aload_n 1 dX9_readNumber_97 rfl rfl ?_
      refine aw_getf (v := .int σ.1.2.2.2.1) fX9_32 0 rfl rfl dX9_readNumber_98 ?_
      refine aw_callV (mc1 := 0) (ms1 := 0) (mc := 0) (ms := 0) (st := []) (q := 1) (As := [.int σ.1.2.2.2.1]) (vsc := [.int σ.1.2.2.2.1]) lX9_47 insX8_at selX8_at ⟨TX8, 2, rfl⟩ (by omega) (kX8_at (d := 0) (by omega) h) [1, 2] rfl rfl rfl rfl rfl dX9_readNumber_101 rfl rfl (fun _ _ hh => ?_)
      obtain ⟨r3, τ4, rfl, rfl, h⟩ := hh
      refine ⟨(wX9 G (σ.1, τ4)), [.int r3], rfl, rfl, rfl, ?_⟩
      refine aw_callST (st := []) (As := [.int r3]) lX9_59 sttX8_isLetter (by omega) (kX8_isLetter (d := 0) (by omega) h) rfl rfl rfl dX9_readNumber_104 rfl (fun _ _ hh => ?_)
      obtain ⟨r5, τ6, rfl, rfl, h⟩ := hh
      refine ⟨rfl, (fun x hx => by cases hx; rfl), ?_⟩
      refine aw_stk (st' := [.int r5]) rfl ?_
      refine aw_if_eq 112 dX9_readNumber_107 (by decide) (fun c8 => ?_) (fun c8 => ?_)
      · have h := h.1 c8
        refine aw_aload_n 1 dX9_readNumber_112 rfl rfl ?_
        refine aw_lload_n 2 dX9_readNumber_113 rfl rfl ?_
        refine aw_l2i dX9_readNumber_114 ?_
        refine aw_topi (fun y7 ey7 => ?_)
        have h := h y7 ey7
        refine aw_putf fX9_44 0 (w' := (wX9 G ((σ.1.1, (σ.1.2.1, (σ.1.2.2.1, (σ.1.2.2.2.1, y7)))), τ4))) rfl (fun _ => ⟨rfl, rfl⟩) (Nat.le_of_ble_eq_true rfl) rfl dX9_readNumber_115 ?_
        refine aw_iconst (v := (3 : Int32)) dX9_readNumber_118 (by decide) ?_
        exact aw_iret rfl dX9_readNumber_119 ⟨_, ((σ.1.1, (σ.1.2.1, (σ.1.2.2.1, (σ.1.2.2.2.1, y7)))), τ4), rfl, rfl, h⟩
      · have h := h.2 c8
        refine aw_iconst (v := (1 : Int32)) dX9_readNumber_110 (by decide) ?_
        exact aw_iret rfl dX9_readNumber_111 ⟨_, (σ.1, τ4), rfl, rfl, h⟩
def wp_X9_readNumber_79  (post : Int32 → WSX9 → Prop) (σ : WSX9) (x1 : Int64) : Prop :=
  wp_X9_readNumber_80  post σ x1 (0 : Int32)
theorem aw_X9_readNumber_79 {G : aw_G} {d : Nat} (hd : 1 ≤ d) {post : Int32 → WSX9 → Prop}  {σ : WSX9} {x1 : Int64} (h : wp_X9_readNumber_79  post σ x1) : AW G MX9_readNumber d 0 0 6 (aw_pi (wX9 G) post) 79 [(0, .ref 0), (1, .long x1)] [] (wX9 G σ) := by
  unfold wp_X9_readNumber_79 at h
  refine aw_iconst (v := (0 : Int32)) dX9_readNumber_79 (by decide) ?_
  exact aw_X9_readNumber_80 hd  h
def wb_X9_readNumber_7  (post : Int32 → WSX9 → Prop) (rec_7 : WSX9 × Int64 × Int32 → Prop) (σ : WSX9) (x1 : Int64) (x3 : Int32) : Prop :=
  ((σ.1.2.2.2.1 ≤ x3 → wp_X8_at σ.2 σ.1.2.2.1 (fun r1 τ2 => ((¬ r1 = (48 : Int32) → wp_X9_readNumber_79  post (σ.1, τ2) x1) ∧ (r1 = (48 : Int32) → (((σ.1.2.2.2.1 - σ.1.2.2.1) ≤ (1 : Int32) → wp_X9_readNumber_79  post (σ.1, τ2) x1) ∧ (¬ (σ.1.2.2.2.1 - σ.1.2.2.1) ≤ (1 : Int32) → wp_X9_readNumber_80  post (σ.1, τ2) x1 (1 : Int32))))))) ∧ (¬ σ.1.2.2.2.1 ≤ x3 → wp_X8_at σ.2 x3 (fun r13 τ14 => (∀ y15 : Int64, y15 = (if (2147483648 : Int64) < ((x1 * (10 : Int64)) + ((r13 - (48 : Int32))).toInt64) then (2147483648 : Int64) else ((x1 * (10 : Int64)) + ((r13 - (48 : Int32))).toInt64)) → rec_7 ((σ.1, τ14), y15, (x3 + 1))))))
def wp_X9_readNumber_7  (post : Int32 → WSX9 → Prop) (n : Nat) (σ : WSX9) (x1 : Int64) (x3 : Int32) : Prop := aw_loop (fun r (a : WSX9 × Int64 × Int32) => wb_X9_readNumber_7  post r a.1 a.2.1 a.2.2) n (σ, x1, x3)
theorem aw_X9_readNumber_7 {G : aw_G} {d : Nat} (hd : 1 ≤ d) {post : Int32 → WSX9 → Prop}  : ∀ (n : Nat) (σ : WSX9) (x1 : Int64) (x3 : Int32), wp_X9_readNumber_7  post n σ x1 x3 → AW G MX9_readNumber d 0 0 6 (aw_pi (wX9 G) post) 7 [(0, .ref 0), (1, .long x1), (3, .int x3)] [] (wX9 G σ) := by
  intro n
  induction n with
  | zero => intro σ x1 x3 h; exact h.elim
  | succ n ih =>
    intro σ x1 x3 h
    have hrec_7 : ∀ a : WSX9 × Int64 × Int32, aw_loop (fun r (a : WSX9 × Int64 × Int32) => wb_X9_readNumber_7  post r a.1 a.2.1 a.2.2) n a → AW G MX9_readNumber d 0 0 6 (aw_pi (wX9 G) post) 7 [(0, .ref 0), (1, .long a.2.1), (3, .int a.2.2)] [] (wX9 G a.1) := fun a h => ih a.1 a.2.1 a.2.2 h
    have h : wb_X9_readNumber_7  post (aw_loop (fun r (a : WSX9 × Int64 × Int32) => wb_X9_readNumber_7  post r a.1 a.2.1 a.2.2) n) σ x1 x3 := h
    unfold wb_X9_readNumber_7 at h
    refine aw_iload_n 2 dX9_readNumber_7 rfl rfl ?_
    refine aw_aload_n 0 dX9_readNumber_8 rfl rfl ?_
    refine aw_getf (v := .int σ.1.2.2.2.1) fX9_32 0 rfl rfl dX9_readNumber_9 ?_
    refine aw_icmp_ge 46 dX9_readNumber_12 (by decide) (fun c16 => ?_) (fun c16 => ?_)
    · have h := h.1 c16
      refine aw_aload_n 0 dX9_readNumber_46 rfl rfl ?_
      refine aw_getf (v := .ref 1) fX9_21 0 rfl rfl dX9_readNumber_47 ?_
      refine aw_aload_n 0 dX9_readNumber_50 rfl rfl ?_
      refine aw_getf (v := .int σ.1.2.2.1) fX9_41 0 rfl rfl dX9_readNumber_51 ?_
      refine aw_callV (mc1 := 0) (ms1 := 0) (mc := 0) (ms := 0) (st := []) (q := 1) (As := [.int σ.1.2.2.1]) (vsc := [.int σ.1.2.2.1]) lX9_47 insX8_at selX8_at ⟨TX8, 2, rfl⟩ (by omega) (kX8_at (d := 0) (by omega) h) [1, 2] rfl rfl rfl rfl rfl dX9_readNumber_54 rfl rfl (fun _ _ hh => ?_)
      obtain ⟨r1, τ2, rfl, rfl, h⟩ := hh
      refine ⟨(wX9 G (σ.1, τ2)), [.int r1], rfl, rfl, rfl, ?_⟩
      refine aw_bipush (v := (48 : Int32)) dX9_readNumber_57 (by decide) ?_
      refine aw_icmp_ne 79 dX9_readNumber_59 (by decide) (fun c12 => ?_) (fun c12 => ?_)
      · have h := h.1 c12
        refine aw_lvsub (lv' := [(0, .ref 0), (1, .long x1)]) [0, 1] rfl ?_
        exact aw_X9_readNumber_79 hd  h
      · have h := h.2 c12
        refine aw_aload_n 0 dX9_readNumber_62 rfl rfl ?_
        refine aw_getf (v := .int σ.1.2.2.2.1) fX9_32 0 rfl rfl dX9_readNumber_63 ?_
        refine aw_aload_n 0 dX9_readNumber_66 rfl rfl ?_
        refine aw_getf (v := .int σ.1.2.2.1) fX9_41 0 rfl rfl dX9_readNumber_67 ?_
        refine aw_isub dX9_readNumber_70 ?_
        refine aw_iconst (v := (1 : Int32)) dX9_readNumber_71 (by decide) ?_
        refine aw_icmp_le 79 dX9_readNumber_72 (by decide) (fun c11 => ?_) (fun c11 => ?_)
        · have h := h.1 c11
          refine aw_lvsub (lv' := [(0, .ref 0), (1, .long x1)]) [0, 1] rfl ?_
          exact aw_X9_readNumber_79 hd  h
        · have h := h.2 c11
          refine aw_iconst (v := (1 : Int32)) dX9_readNumber_75 (by decide) ?_
          refine aw_goto 80 dX9_readNumber_76 (by decide) ?_
          refine aw_lvsub (lv' := [(0, .ref 0), (1, .long x1)]) [0, 1] rfl ?_
          exact aw_X9_readNumber_80 hd  h
    · have h := h.2 c16
      refine aw_lload_n 1 dX9_readNumber_15 rfl rfl ?_
      refine aw_ldc2 (v := (10 : Int64)) dX9_readNumber_16 oX9_111 ?_
      refine aw_lmul dX9_readNumber_19 ?_
      refine aw_aload_n 0 dX9_readNumber_20 rfl rfl ?_
      refine aw_getf (v := .ref 1) fX9_21 0 rfl rfl dX9_readNumber_21 ?_
      refine aw_iload_n 2 dX9_readNumber_24 rfl rfl ?_
      refine aw_callV (mc1 := 0) (ms1 := 0) (mc := 0) (ms := 0) (st := [.long (x1 * (10 : Int64))]) (q := 1) (As := [.int x3]) (vsc := [.int x3]) lX9_47 insX8_at selX8_at ⟨TX8, 2, rfl⟩ (by omega) (kX8_at (d := 0) (by omega) h) [1, 2] rfl rfl rfl rfl rfl dX9_readNumber_25 rfl rfl (fun _ _ hh => ?_)
      obtain ⟨r13, τ14, rfl, rfl, h⟩ := hh
      refine ⟨(wX9 G (σ.1, τ14)), [.int r13, .long (x1 * (10 : Int64))], rfl, rfl, rfl, ?_⟩
      refine aw_bipush (v := (48 : Int32)) dX9_readNumber_28 (by decide) ?_
      refine aw_isub dX9_readNumber_30 ?_
      refine aw_i2l dX9_readNumber_31 ?_
      refine aw_ladd dX9_readNumber_32 ?_
      refine aw_ldc2 (v := (2147483648 : Int64)) dX9_readNumber_33 oX9_113 ?_
      refine aw_mmin_long qX9_115 mathS_minl iniJ9 mathK_minl (by omega) (Nat.le_of_ble_eq_true rfl) dX9_readNumber_36 ?_
      refine aw_topl (fun y15 ey15 => ?_)
      have h := h y15 ey15
      refine aw_lstore_n (lv' := [(1, .long y15), (0, .ref 0), (3, .int x3)]) dX9_readNumber_39 rfl (by decide) rfl ?_
      refine aw_iinc 2 (v := (x3 + 1)) (lv' := [(3, .int (x3 + 1)), (1, .long y15), (0, .ref 0)]) dX9_readNumber_40 rfl rfl (by decide) rfl ?_
      refine aw_goto 7 dX9_readNumber_43 (by decide) ?_
      refine aw_lvsub (lv' := [(0, .ref 0), (1, .long y15), (3, .int (x3 + 1))]) [2, 1, 0] rfl ?_
      exact hrec_7 ((σ.1, τ14), y15, (x3 + 1)) h
def wp_X9_readNumber (σ : WSX9) (post : Int32 → WSX9 → Prop) : Prop :=
  (∃ n17, wp_X9_readNumber_7  post n17 σ (0 : Int64) σ.1.2.2.1)
theorem kX9_readNumber {G : aw_G} {d : Nat} (hd : 1 ≤ d) {σ : WSX9} {post : Int32 → WSX9 → Prop} (h : wp_X9_readNumber σ post) : AC G MX9_readNumber d 0 0 6 [.ref 0] (wX9 G σ) (aw_pi (wX9 G) post) := by
  refine AC.of (lv := [(0, .ref 0)]) (by decide) (Nat.le_of_ble_eq_true rfl) rfl ?_
  unfold wp_X9_readNumber at h
  refine aw_lconst (v := (0 : Int64)) dX9_readNumber_0 (by decide) ?_
  refine aw_lstore_n (lv' := [(1, .long (0 : Int64)), (0, .ref 0)]) dX9_readNumber_1 rfl (by decide) rfl ?_
  refine aw_aload_n 1 dX9_readNumber_2 rfl rfl ?_
  refine aw_getf (v := .int σ.1.2.2.1) fX9_41 0 rfl rfl dX9_readNumber_3 ?_
  refine aw_istore_n (lv' := [(3, .int σ.1.2.2.1), (1, .long (0 : Int64)), (0, .ref 0)]) dX9_readNumber_6 rfl (by decide) rfl ?_
  refine aw_lvsub (lv' := [(0, .ref 0), (1, .long (0 : Int64)), (3, .int σ.1.2.2.1)]) [2, 1, 0] rfl ?_
  obtain ⟨n17, h⟩ := h
  exact aw_X9_readNumber_7 hd  n17 σ (0 : Int64) σ.1.2.2.1 h
def wp_X9_longSign_48  (post : Int32 → Unit → Prop) (x0 : Int32) (x1 : Int32) : Prop :=
  ((¬ x0 = (62 : Int32) → post (1 : Int32) ()) ∧ (x0 = (62 : Int32) → ((¬ x1 = (62 : Int32) → post (1 : Int32) ()) ∧ (x1 = (62 : Int32) → post (131 : Int32) ()))))
theorem aw_X9_longSign_48 {G : aw_G} {d : Nat} (hd : 0 ≤ d) {post : Int32 → Unit → Prop}  {x0 : Int32} {x1 : Int32} (h : wp_X9_longSign_48  post x0 x1) : AW G MX9_longSign d 0 0 0 (aw_pi (fun _ : Unit => []) post) 48 [(0, .int x0), (1, .int x1)] [] [] := by
  unfold wp_X9_longSign_48 at h
  refine aw_iload_n 0 dX9_longSign_48 rfl rfl ?_
  refine aw_bipush (v := (62 : Int32)) dX9_longSign_49 (by decide) ?_
  refine aw_icmp_ne 66 dX9_longSign_51 (by decide) (fun c2 => ?_) (fun c2 => ?_)
  · have h := h.1 c2
    refine aw_iconst (v := (1 : Int32)) dX9_longSign_66 (by decide) ?_
    exact aw_iret rfl dX9_longSign_67 ⟨_, (), rfl, rfl, h⟩
  · have h := h.2 c2
    refine aw_iload_n 1 dX9_longSign_54 rfl rfl ?_
    refine aw_bipush (v := (62 : Int32)) dX9_longSign_55 (by decide) ?_
    refine aw_icmp_ne 66 dX9_longSign_57 (by decide) (fun c1 => ?_) (fun c1 => ?_)
    · have h := h.1 c1
      refine aw_iconst (v := (1 : Int32)) dX9_longSign_66 (by decide) ?_
      exact aw_iret rfl dX9_longSign_67 ⟨_, (), rfl, rfl, h⟩
    · have h := h.2 c1
      refine aw_sipush (v := (131 : Int32)) dX9_longSign_60 (by decide) ?_
      refine aw_goto 67 dX9_longSign_63 (by decide) ?_
      exact aw_iret rfl dX9_longSign_67 ⟨_, (), rfl, rfl, h⟩
def wp_X9_longSign_32  (post : Int32 → Unit → Prop) (x0 : Int32) (x1 : Int32) : Prop :=
  ((¬ x0 = (61 : Int32) → wp_X9_longSign_48  post x0 x1) ∧ (x0 = (61 : Int32) → ((¬ x1 = (61 : Int32) → wp_X9_longSign_48  post x0 x1) ∧ (x1 = (61 : Int32) → post (129 : Int32) ()))))
theorem aw_X9_longSign_32 {G : aw_G} {d : Nat} (hd : 0 ≤ d) {post : Int32 → Unit → Prop}  {x0 : Int32} {x1 : Int32} (h : wp_X9_longSign_32  post x0 x1) : AW G MX9_longSign d 0 0 0 (aw_pi (fun _ : Unit => []) post) 32 [(0, .int x0), (1, .int x1)] [] [] := by
  unfold wp_X9_longSign_32 at h
  refine aw_iload_n 0 dX9_longSign_32 rfl rfl ?_
  refine aw_bipush (v := (61 : Int32)) dX9_longSign_33 (by decide) ?_
  refine aw_icmp_ne 48 dX9_longSign_35 (by decide) (fun c4 => ?_) (fun c4 => ?_)
  · have h := h.1 c4
    exact aw_X9_longSign_48 hd  h
  · have h := h.2 c4
    refine aw_iload_n 1 dX9_longSign_38 rfl rfl ?_
    refine aw_bipush (v := (61 : Int32)) dX9_longSign_39 (by decide) ?_
    refine aw_icmp_ne 48 dX9_longSign_41 (by decide) (fun c3 => ?_) (fun c3 => ?_)
    · have h := h.1 c3
      exact aw_X9_longSign_48 hd  h
    · have h := h.2 c3
      refine aw_sipush (v := (129 : Int32)) dX9_longSign_44 (by decide) ?_
      exact aw_iret rfl dX9_longSign_47 ⟨_, (), rfl, rfl, h⟩
def wp_X9_longSign_16  (post : Int32 → Unit → Prop) (x0 : Int32) (x1 : Int32) : Prop :=
  ((¬ x0 = (60 : Int32) → wp_X9_longSign_32  post x0 x1) ∧ (x0 = (60 : Int32) → ((¬ x1 = (60 : Int32) → wp_X9_longSign_32  post x0 x1) ∧ (x1 = (60 : Int32) → post (130 : Int32) ()))))
theorem aw_X9_longSign_16 {G : aw_G} {d : Nat} (hd : 0 ≤ d) {post : Int32 → Unit → Prop}  {x0 : Int32} {x1 : Int32} (h : wp_X9_longSign_16  post x0 x1) : AW G MX9_longSign d 0 0 0 (aw_pi (fun _ : Unit => []) post) 16 [(0, .int x0), (1, .int x1)] [] [] := by
  unfold wp_X9_longSign_16 at h
  refine aw_iload_n 0 dX9_longSign_16 rfl rfl ?_
  refine aw_bipush (v := (60 : Int32)) dX9_longSign_17 (by decide) ?_
  refine aw_icmp_ne 32 dX9_longSign_19 (by decide) (fun c6 => ?_) (fun c6 => ?_)
  · have h := h.1 c6
    exact aw_X9_longSign_32 hd  h
  · have h := h.2 c6
    refine aw_iload_n 1 dX9_longSign_22 rfl rfl ?_
    refine aw_bipush (v := (60 : Int32)) dX9_longSign_23 (by decide) ?_
    refine aw_icmp_ne 32 dX9_longSign_25 (by decide) (fun c5 => ?_) (fun c5 => ?_)
    · have h := h.1 c5
      exact aw_X9_longSign_32 hd  h
    · have h := h.2 c5
      refine aw_sipush (v := (130 : Int32)) dX9_longSign_28 (by decide) ?_
      exact aw_iret rfl dX9_longSign_31 ⟨_, (), rfl, rfl, h⟩
def wp_X9_longSign (a0 : Int32) (a1 : Int32) (post : Int32 → Unit → Prop) : Prop :=
  ((¬ a0 = (60 : Int32) → wp_X9_longSign_16  post a0 a1) ∧ (a0 = (60 : Int32) → ((¬ a1 = (61 : Int32) → wp_X9_longSign_16  post a0 a1) ∧ (a1 = (61 : Int32) → post (128 : Int32) ()))))
theorem kX9_longSign {G : aw_G} {d : Nat} (hd : 0 ≤ d) {a0 : Int32} {a1 : Int32} {post : Int32 → Unit → Prop} (h : wp_X9_longSign a0 a1 post) : AC G MX9_longSign d 0 0 0 [.int a0, .int a1] [] (aw_pi (fun _ : Unit => []) post) := by
  refine AC.of (lv := [(0, .int a0), (1, .int a1)]) (by decide) (Nat.le_of_ble_eq_true rfl) rfl ?_
  unfold wp_X9_longSign at h
  refine aw_iload_n 0 dX9_longSign_0 rfl rfl ?_
  refine aw_bipush (v := (60 : Int32)) dX9_longSign_1 (by decide) ?_
  refine aw_icmp_ne 16 dX9_longSign_3 (by decide) (fun c8 => ?_) (fun c8 => ?_)
  · have h := h.1 c8
    exact aw_X9_longSign_16 hd  h
  · have h := h.2 c8
    refine aw_iload_n 1 dX9_longSign_6 rfl rfl ?_
    refine aw_bipush (v := (61 : Int32)) dX9_longSign_7 (by decide) ?_
    refine aw_icmp_ne 16 dX9_longSign_9 (by decide) (fun c7 => ?_) (fun c7 => ?_)
    · have h := h.1 c7
      exact aw_X9_longSign_16 hd  h
    · have h := h.2 c7
      refine aw_sipush (v := (128 : Int32)) dX9_longSign_12 (by decide) ?_
      exact aw_iret rfl dX9_longSign_15 ⟨_, (), rfl, rfl, h⟩
def wp_X9_readOne_112  (post : Int32 → WSX9 → Prop) (σ : WSX9) (x1 : Int32) (x2 : Int32) (s0 : Int32) (s1 : Int32) : Prop :=
  (∀ y9 : Int32, y9 = (s1 + s0) → ((¬ x2 = (1 : Int32) → post x2 ((σ.1.1, (σ.1.2.1, (σ.1.2.2.1, (y9, σ.1.2.2.2.2)))), σ.2)) ∧ (x2 = (1 : Int32) → (¬ ((x1).toUInt32 % 65536).toInt32 < 0 ∧ ¬ 255 < ((x1).toUInt32 % 65536).toInt32 ∧ (((aw_ixF 7 (((x1).toUInt32 % 65536).toInt32).toInt8.toInt32 (aw_lenS.getD 7 0) 0) < 0 → post x2 ((σ.1.1, (σ.1.2.1, (σ.1.2.2.1, (y9, σ.1.2.2.2.2)))), σ.2)) ∧ (¬ (aw_ixF 7 (((x1).toUInt32 % 65536).toInt32).toInt8.toInt32 (aw_lenS.getD 7 0) 0) < 0 → post x1 ((σ.1.1, (σ.1.2.1, (σ.1.2.2.1, (y9, σ.1.2.2.2.2)))), σ.2)))))))
theorem aw_X9_readOne_112 {G : aw_G} {d : Nat} (hd : 7 ≤ d) {post : Int32 → WSX9 → Prop}  {σ : WSX9} {x1 : Int32} {x2 : Int32} {s0 : Int32} {s1 : Int32} (h : wp_X9_readOne_112  post σ x1 x2 s0 s1) : AW G MX9_readOne d 0 0 6 (aw_pi (wX9 G) post) 112 [(1, .int x1), (2, .int x2)] [.int s0, .int s1, .ref 0] (wX9 G σ) := by
  unfold wp_X9_readOne_112 at h
  refine aw_iadd dX9_readOne_112 ?_
  refine aw_topi (fun y9 ey9 => ?_)
  have h := h y9 ey9
  refine aw_putf fX9_32 0 (w' := (wX9 G ((σ.1.1, (σ.1.2.1, (σ.1.2.2.1, (y9, σ.1.2.2.2.2)))), σ.2))) rfl (fun _ => ⟨rfl, rfl⟩) (Nat.le_of_ble_eq_true rfl) rfl dX9_readOne_113 ?_
  refine aw_iload_n 1 dX9_readOne_116 rfl rfl ?_
  refine aw_iconst (v := (1 : Int32)) dX9_readOne_117 (by decide) ?_
  refine aw_icmp_ne 133 dX9_readOne_118 (by decide) (fun c12 => ?_) (fun c12 => ?_)
  · have h := h.1 c12
    refine aw_iload_n 1 dX9_readOne_133 rfl rfl ?_
    exact aw_iret rfl dX9_readOne_134 ⟨_, ((σ.1.1, (σ.1.2.1, (σ.1.2.2.1, (y9, σ.1.2.2.2.2)))), σ.2), rfl, rfl, h⟩
  · have h := h.2 c12
    refine aw_ldcS (k := 7) (tx := "()[]{};=+-*/%&|^~!<") (by decide +kernel) dX9_readOne_121 ?_
    refine aw_iload_n 0 dX9_readOne_123 rfl rfl ?_
    refine aw_i2c dX9_readOne_124 ?_
    refine aw_callVS (mc := 0) (ms := 0) (st := []) (As := [.int ((x1).toUInt32 % 65536).toInt32]) (vsc := [.int ((x1).toUInt32 % 65536).toInt32]) lX9_84 insJ0_indexOf_0f7a4 selJ0_indexOf_0f7a4 rfl (by decide) (by omega) (kJ0_indexOf (d := 3) (by omega) (by decide) h.1 h.2.1 (by decide) (post := fun r _ => r = (aw_ixF 7 (((x1).toUInt32 % 65536).toInt32).toInt8.toInt32 (aw_lenS.getD 7 0) 0)) rfl) [] rfl rfl rfl rfl dX9_readOne_125 rfl rfl (fun _ _ hh => ?_)
    obtain ⟨r10, τ, rfl, rfl, er10⟩ := hh
    have h := h.2.2
    refine ⟨(wX9 G ((σ.1.1, (σ.1.2.1, (σ.1.2.2.1, (y9, σ.1.2.2.2.2)))), σ.2)), [.int r10], rfl, rfl, rfl, ?_⟩
    rw [er10]
    refine aw_if_lt 133 dX9_readOne_128 (by decide) (fun c11 => ?_) (fun c11 => ?_)
    · have h := h.1 c11
      refine aw_iload_n 1 dX9_readOne_133 rfl rfl ?_
      exact aw_iret rfl dX9_readOne_134 ⟨_, ((σ.1.1, (σ.1.2.1, (σ.1.2.2.1, (y9, σ.1.2.2.2.2)))), σ.2), rfl, rfl, h⟩
    · have h := h.2 c11
      refine aw_iload_n 0 dX9_readOne_131 rfl rfl ?_
      exact aw_iret rfl dX9_readOne_132 ⟨_, ((σ.1.1, (σ.1.2.1, (σ.1.2.2.1, (y9, σ.1.2.2.2.2)))), σ.2), rfl, rfl, h⟩
def wp_X9_readOne (σ : WSX9) (a1 : Int32) (post : Int32 → WSX9 → Prop) : Prop :=
  ((¬ a1 = ((-1) : Int32) → wp_X8_isLetter a1 (fun r1 τ2 => ((r1 = 0 → wp_X8_isDigit a1 (fun r3 τ4 => ((r3 = 0 → wp_X8_at σ.2 (σ.1.2.2.1 + (1 : Int32)) (fun r5 τ6 => wp_X9_longSign a1 r5 (fun r7 τ8 => ((¬ r7 = (1 : Int32) → wp_X9_readOne_112  post (σ.1, τ6) a1 r7 (2 : Int32) σ.1.2.2.1) ∧ (r7 = (1 : Int32) → wp_X9_readOne_112  post (σ.1, τ6) a1 r7 (1 : Int32) σ.1.2.2.1))))) ∧ (¬ r3 = 0 → wp_X8_afterDigits σ.2 σ.1.2.2.1 (fun r14 τ15 => wp_X9_readNumber ((σ.1.1, (σ.1.2.1, (σ.1.2.2.1, (r14, σ.1.2.2.2.2)))), τ15)  (fun r16 τ17 => post r16 τ17)))))) ∧ (¬ r1 = 0 → wp_X8_afterName σ.2 σ.1.2.2.1 (fun r19 τ20 => (((r19 - σ.1.2.2.1) ≤ (10 : Int32) → wp_X9_wordOrName ((σ.1.1, (σ.1.2.1, (σ.1.2.2.1, (r19, σ.1.2.2.2.2)))), τ20)  (fun r21 τ22 => post r21 τ22)) ∧ (¬ (r19 - σ.1.2.2.1) ≤ (10 : Int32) → post (1 : Int32) ((σ.1.1, (σ.1.2.1, (σ.1.2.2.1, (r19, σ.1.2.2.2.2)))), τ20)))))))) ∧ (a1 = ((-1) : Int32) → post (0 : Int32) σ))
theorem kX9_readOne {G : aw_G} {d : Nat} (hd : 7 ≤ d) {σ : WSX9} {a1 : Int32} {post : Int32 → WSX9 → Prop} (h : wp_X9_readOne σ a1 post) : AC G MX9_readOne d 0 0 6 [.ref 0, .int a1] (wX9 G σ) (aw_pi (wX9 G) post) := by
  refine AC.of (lv := [(0, .ref 0), (1, .int a1)]) (by decide) (Nat.le_of_ble_eq_true rfl) rfl ?_
  unfold wp_X9_readOne at h
  refine aw_iload_n 1 dX9_readOne_0 rfl rfl ?_
  refine aw_iconst (v := ((-1) : Int32)) dX9_readOne_1 (by decide) ?_
  refine aw_icmp_ne 7 dX9_readOne_2 (by decide) (fun c25 => ?_) (fun c25 => ?_)
  · have h := h.1 c25
    refine aw_iload_n 1 dX9_readOne_7 rfl rfl ?_
    refine aw_callST (st := []) (As := [.int a1]) lX9_59 sttX8_isLetter (by omega) (kX8_isLetter (d := 0) (by omega) h) rfl rfl rfl dX9_readOne_8 rfl (fun _ _ hh => ?_)
    obtain ⟨r1, τ2, rfl, rfl, h⟩ := hh
    refine ⟨rfl, (fun x hx => by cases hx; rfl), ?_⟩
    refine aw_stk (st' := [.int r1]) rfl ?_
    refine aw_if_eq 52 dX9_readOne_11 (by decide) (fun c24 => ?_) (fun c24 => ?_)
    · have h := h.1 c24
      refine aw_iload_n 1 dX9_readOne_52 rfl rfl ?_
      refine aw_callST (st := []) (As := [.int a1]) lX9_70 sttX8_isDigit (by omega) (kX8_isDigit (d := 0) (by omega) h) rfl rfl rfl dX9_readOne_53 rfl (fun _ _ hh => ?_)
      obtain ⟨r3, τ4, rfl, rfl, h⟩ := hh
      refine ⟨rfl, (fun x hx => by cases hx; rfl), ?_⟩
      refine aw_stk (st' := [.int r3]) rfl ?_
      refine aw_if_eq 79 dX9_readOne_56 (by decide) (fun c18 => ?_) (fun c18 => ?_)
      · have h := h.1 c18
        refine aw_iload_n 1 dX9_readOne_79 rfl rfl ?_
        refine aw_aload_n 0 dX9_readOne_80 rfl rfl ?_
        refine aw_getf (v := .ref 1) fX9_21 0 rfl rfl dX9_readOne_81 ?_
        refine aw_aload_n 0 dX9_readOne_84 rfl rfl ?_
        refine aw_getf (v := .int σ.1.2.2.1) fX9_41 0 rfl rfl dX9_readOne_85 ?_
        refine aw_iconst (v := (1 : Int32)) dX9_readOne_88 (by decide) ?_
        refine aw_iadd dX9_readOne_89 ?_
        refine aw_callV (mc1 := 0) (ms1 := 0) (mc := 0) (ms := 0) (st := [.int a1]) (q := 1) (As := [.int (σ.1.2.2.1 + (1 : Int32))]) (vsc := [.int (σ.1.2.2.1 + (1 : Int32))]) lX9_47 insX8_at selX8_at ⟨TX8, 2, rfl⟩ (by omega) (kX8_at (d := 0) (by omega) h) [1, 2] rfl rfl rfl rfl rfl dX9_readOne_90 rfl rfl (fun _ _ hh => ?_)
        obtain ⟨r5, τ6, rfl, rfl, h⟩ := hh
        refine ⟨(wX9 G (σ.1, τ6)), [.int r5, .int a1], rfl, rfl, rfl, ?_⟩
        refine aw_callST (st := []) (As := [.int a1, .int r5]) lX9_79 sttX9_longSign (by omega) (kX9_longSign (d := 0) (by omega) h) rfl rfl rfl dX9_readOne_93 rfl (fun _ _ hh => ?_)
        obtain ⟨r7, τ8, rfl, rfl, h⟩ := hh
        refine ⟨rfl, (fun x hx => by cases hx; rfl), ?_⟩
        refine aw_stk (st' := [.int r7]) rfl ?_
        refine aw_istore_n (lv' := [(2, .int r7), (0, .ref 0), (1, .int a1)]) dX9_readOne_96 rfl (by decide) rfl ?_
        refine aw_aload_n 1 dX9_readOne_97 rfl rfl ?_
        refine aw_aload_n 1 dX9_readOne_98 rfl rfl ?_
        refine aw_getf (v := .int σ.1.2.2.1) fX9_41 0 rfl rfl dX9_readOne_99 ?_
        refine aw_iload_n 0 dX9_readOne_102 rfl rfl ?_
        refine aw_iconst (v := (1 : Int32)) dX9_readOne_103 (by decide) ?_
        refine aw_icmp_ne 111 dX9_readOne_104 (by decide) (fun c13 => ?_) (fun c13 => ?_)
        · have h := h.1 c13
          refine aw_iconst (v := (2 : Int32)) dX9_readOne_111 (by decide) ?_
          refine aw_lvsub (lv' := [(1, .int a1), (2, .int r7)]) [2, 0] rfl ?_
          exact aw_X9_readOne_112 hd  h
        · have h := h.2 c13
          refine aw_iconst (v := (1 : Int32)) dX9_readOne_107 (by decide) ?_
          refine aw_goto 112 dX9_readOne_108 (by decide) ?_
          refine aw_lvsub (lv' := [(1, .int a1), (2, .int r7)]) [2, 0] rfl ?_
          exact aw_X9_readOne_112 hd  h
      · have h := h.2 c18
        refine aw_aload_n 0 dX9_readOne_59 rfl rfl ?_
        refine aw_aload_n 0 dX9_readOne_60 rfl rfl ?_
        refine aw_getf (v := .ref 1) fX9_21 0 rfl rfl dX9_readOne_61 ?_
        refine aw_aload_n 0 dX9_readOne_64 rfl rfl ?_
        refine aw_getf (v := .int σ.1.2.2.1) fX9_41 0 rfl rfl dX9_readOne_65 ?_
        refine aw_callV (mc1 := 0) (ms1 := 0) (mc := 0) (ms := 0) (st := [.ref 0]) (q := 1) (As := [.int σ.1.2.2.1]) (vsc := [.int σ.1.2.2.1]) lX9_73 insX8_afterDigits selX8_afterDigits ⟨TX8, 2, rfl⟩ (by omega) (kX8_afterDigits (d := 1) (by omega) h) [1, 2] rfl rfl rfl rfl rfl dX9_readOne_68 rfl rfl (fun _ _ hh => ?_)
        obtain ⟨r14, τ15, rfl, rfl, h⟩ := hh
        refine ⟨(wX9 G (σ.1, τ15)), [.int r14, .ref 0], rfl, rfl, rfl, ?_⟩
        refine aw_putf fX9_32 0 (w' := (wX9 G ((σ.1.1, (σ.1.2.1, (σ.1.2.2.1, (r14, σ.1.2.2.2.2)))), τ15))) rfl (fun _ => ⟨rfl, rfl⟩) (Nat.le_of_ble_eq_true rfl) rfl dX9_readOne_71 ?_
        refine aw_aload_n 0 dX9_readOne_74 rfl rfl ?_
        refine aw_callVT (mc1 := 0) (ms1 := 0) (mc := 0) (ms := 0) (st := []) (q := 0) (As := []) lX9_76 insX9_readNumber selX9_readNumber ⟨TX9, 9, rfl⟩ (by omega) (kX9_readNumber (d := 1) (by omega) h) (Nat.le_of_ble_eq_true rfl) rfl rfl rfl dX9_readOne_75 rfl (fun _ _ hh => ?_)
        obtain ⟨r16, τ17, rfl, rfl, h⟩ := hh
        refine aw_stk (st' := [.int r16]) rfl ?_
        exact aw_iret rfl dX9_readOne_78 ⟨_, τ17, rfl, rfl, h⟩
    · have h := h.2 c24
      refine aw_aload_n 0 dX9_readOne_14 rfl rfl ?_
      refine aw_aload_n 0 dX9_readOne_15 rfl rfl ?_
      refine aw_getf (v := .ref 1) fX9_21 0 rfl rfl dX9_readOne_16 ?_
      refine aw_aload_n 0 dX9_readOne_19 rfl rfl ?_
      refine aw_getf (v := .int σ.1.2.2.1) fX9_41 0 rfl rfl dX9_readOne_20 ?_
      refine aw_callV (mc1 := 0) (ms1 := 0) (mc := 0) (ms := 0) (st := [.ref 0]) (q := 1) (As := [.int σ.1.2.2.1]) (vsc := [.int σ.1.2.2.1]) lX9_63 insX8_afterName selX8_afterName ⟨TX8, 2, rfl⟩ (by omega) (kX8_afterName (d := 2) (by omega) h) [1, 2] rfl rfl rfl rfl rfl dX9_readOne_23 rfl rfl (fun _ _ hh => ?_)
      obtain ⟨r19, τ20, rfl, rfl, h⟩ := hh
      refine ⟨(wX9 G (σ.1, τ20)), [.int r19, .ref 0], rfl, rfl, rfl, ?_⟩
      refine aw_putf fX9_32 0 (w' := (wX9 G ((σ.1.1, (σ.1.2.1, (σ.1.2.2.1, (r19, σ.1.2.2.2.2)))), τ20))) rfl (fun _ => ⟨rfl, rfl⟩) (Nat.le_of_ble_eq_true rfl) rfl dX9_readOne_26 ?_
      refine aw_aload_n 0 dX9_readOne_29 rfl rfl ?_
      refine aw_getf (v := .int r19) fX9_32 0 rfl rfl dX9_readOne_30 ?_
      refine aw_aload_n 0 dX9_readOne_33 rfl rfl ?_
      refine aw_getf (v := .int σ.1.2.2.1) fX9_41 0 rfl rfl dX9_readOne_34 ?_
      refine aw_isub dX9_readOne_37 ?_
      refine aw_bipush (v := (10 : Int32)) dX9_readOne_38 (by decide) ?_
      refine aw_icmp_le 47 dX9_readOne_40 (by decide) (fun c23 => ?_) (fun c23 => ?_)
      · have h := h.1 c23
        refine aw_aload_n 0 dX9_readOne_47 rfl rfl ?_
        refine aw_callVT (mc1 := 0) (ms1 := 0) (mc := 0) (ms := 0) (st := []) (q := 0) (As := []) lX9_66 insX9_wordOrName selX9_wordOrName ⟨TX9, 9, rfl⟩ (by omega) (kX9_wordOrName (d := 6) (by omega) h) (Nat.le_of_ble_eq_true rfl) rfl rfl rfl dX9_readOne_48 rfl (fun _ _ hh => ?_)
        obtain ⟨r21, τ22, rfl, rfl, h⟩ := hh
        refine aw_stk (st' := [.int r21]) rfl ?_
        exact aw_iret rfl dX9_readOne_51 ⟨_, τ22, rfl, rfl, h⟩
      · have h := h.2 c23
        refine aw_iconst (v := (1 : Int32)) dX9_readOne_43 (by decide) ?_
        refine aw_goto 51 dX9_readOne_44 (by decide) ?_
        exact aw_iret rfl dX9_readOne_51 ⟨_, ((σ.1.1, (σ.1.2.1, (σ.1.2.2.1, (r19, σ.1.2.2.2.2)))), τ20), rfl, rfl, h⟩
  · have h := h.2 c25
    refine aw_iconst (v := (0 : Int32)) dX9_readOne_5 (by decide) ?_
    exact aw_iret rfl dX9_readOne_6 ⟨_, σ, rfl, rfl, h⟩
def wb_X9_read_53  (post : WSX9 → Prop) (rec_53 : WSX9 × Int32 → Prop) (σ : WSX9) (x2 : Int32) : Prop :=
  (((nI σ.1.1.1.1) ≤ σ.1.2.1.1 → post σ) ∧ (¬ (nI σ.1.1.1.1) ≤ σ.1.2.1.1 → ((x2 = 0 → post σ) ∧ (¬ x2 = 0 → ((x2 = (1 : Int32) → post σ) ∧ (¬ x2 = (1 : Int32) → wp_X8_afterBlanks σ.2 σ.1.2.2.2.1 (fun r1 τ2 => wp_X8_at τ2 r1 (fun r3 τ4 => wp_X9_readOne ((σ.1.1, (σ.1.2.1, (r1, (σ.1.2.2.2.1, (0 : Int32))))), τ4) r3 (fun r5 τ6 => (vp_in τ6.1.2.1.1 τ6.1.1.1.1 ∧ ∀ y7 : Nat → Int32, y7 = upd τ6.1.1.1.2 (τ6.1.2.1.1).toNatClampNeg r5 → (vp_in τ6.1.2.1.1 τ6.1.1.1.1 ∧ ∀ y8 : Nat → Int32, y8 = upd τ6.1.1.2.1 (τ6.1.2.1.1).toNatClampNeg τ6.1.2.2.1 → (vp_in τ6.1.2.1.1 τ6.1.1.1.1 ∧ ∀ y9 : Nat → Int32, y9 = upd τ6.1.1.2.2 (τ6.1.2.1.1).toNatClampNeg τ6.1.2.2.2.2 → (∀ y10 : Int32, y10 = (τ6.1.2.1.1 + (1 : Int32)) → rec_53 (((((τ6.1.1.1.1, y7), (y8, y9)), ((y10, τ6.1.2.1.2), τ6.1.2.2)), τ6.2), r5))))))))))))))
def wp_X9_read_53  (post : WSX9 → Prop) (n : Nat) (σ : WSX9) (x2 : Int32) : Prop := aw_loop (fun r (a : WSX9 × Int32) => wb_X9_read_53  post r a.1 a.2) n (σ, x2)
theorem aw_X9_read_53 {G : aw_G} {d : Nat} (hd : 8 ≤ d) {post : WSX9 → Prop}  : ∀ (n : Nat) (σ : WSX9) (x2 : Int32), wp_X9_read_53  post n σ x2 → AW G MX9_read d 0 0 3 (aw_pv (wX9 G) post) 53 [(0, .ref 0), (2, .int x2)] [] (wX9 G σ) := by
  intro n
  induction n with
  | zero => intro σ x2 h; exact h.elim
  | succ n ih =>
    intro σ x2 h
    have hrec_53 : ∀ a : WSX9 × Int32, aw_loop (fun r (a : WSX9 × Int32) => wb_X9_read_53  post r a.1 a.2) n a → AW G MX9_read d 0 0 3 (aw_pv (wX9 G) post) 53 [(0, .ref 0), (2, .int a.2)] [] (wX9 G a.1) := fun a h => ih a.1 a.2 h
    have h : wb_X9_read_53  post (aw_loop (fun r (a : WSX9 × Int32) => wb_X9_read_53  post r a.1 a.2) n) σ x2 := h
    unfold wb_X9_read_53 at h
    refine aw_aload_n 0 dX9_read_53 rfl rfl ?_
    refine aw_getf (v := .int σ.1.2.1.1) fX9_25 0 rfl rfl dX9_read_54 ?_
    refine aw_aload_n 0 dX9_read_57 rfl rfl ?_
    refine aw_getf (v := .ref 3) fX9_9 0 rfl rfl dX9_read_58 ?_
    refine aw_alen 3 0 (v := (nI σ.1.1.1.1)) rfl rfl rfl dX9_read_61 ?_
    refine aw_icmp_ge 159 dX9_read_62 (by decide) (fun c13 => ?_) (fun c13 => ?_)
    · have h := h.1 c13
      exact aw_vret rfl dX9_read_159 ⟨σ, rfl, rfl, h⟩
    · have h := h.2 c13
      refine aw_iload_n 1 dX9_read_65 rfl rfl ?_
      refine aw_if_eq 159 dX9_read_66 (by decide) (fun c12 => ?_) (fun c12 => ?_)
      · have h := h.1 c12
        exact aw_vret rfl dX9_read_159 ⟨σ, rfl, rfl, h⟩
      · have h := h.2 c12
        refine aw_iload_n 1 dX9_read_69 rfl rfl ?_
        refine aw_iconst (v := (1 : Int32)) dX9_read_70 (by decide) ?_
        refine aw_icmp_eq 159 dX9_read_71 (by decide) (fun c11 => ?_) (fun c11 => ?_)
        · have h := h.1 c11
          exact aw_vret rfl dX9_read_159 ⟨σ, rfl, rfl, h⟩
        · have h := h.2 c11
          refine aw_aload_n 0 dX9_read_74 rfl rfl ?_
          refine aw_aload_n 0 dX9_read_75 rfl rfl ?_
          refine aw_getf (v := .ref 1) fX9_21 0 rfl rfl dX9_read_76 ?_
          refine aw_aload_n 0 dX9_read_79 rfl rfl ?_
          refine aw_getf (v := .int σ.1.2.2.2.1) fX9_32 0 rfl rfl dX9_read_80 ?_
          refine aw_callV (mc1 := 0) (ms1 := 0) (mc := 0) (ms := 0) (st := [.ref 0]) (q := 1) (As := [.int σ.1.2.2.2.1]) (vsc := [.int σ.1.2.2.2.1]) lX9_35 insX8_afterBlanks selX8_afterBlanks ⟨TX8, 2, rfl⟩ (by omega) (kX8_afterBlanks (d := 1) (by omega) h) [1, 2] rfl rfl rfl rfl rfl dX9_read_83 rfl rfl (fun _ _ hh => ?_)
          obtain ⟨r1, τ2, rfl, rfl, h⟩ := hh
          refine ⟨(wX9 G (σ.1, τ2)), [.int r1, .ref 0], rfl, rfl, rfl, ?_⟩
          refine aw_putf fX9_41 0 (w' := (wX9 G ((σ.1.1, (σ.1.2.1, (r1, σ.1.2.2.2))), τ2))) rfl (fun _ => ⟨rfl, rfl⟩) (Nat.le_of_ble_eq_true rfl) rfl dX9_read_86 ?_
          refine aw_aload_n 0 dX9_read_89 rfl rfl ?_
          refine aw_iconst (v := (0 : Int32)) dX9_read_90 (by decide) ?_
          refine aw_putf fX9_44 0 (w' := (wX9 G ((σ.1.1, (σ.1.2.1, (r1, (σ.1.2.2.2.1, (0 : Int32))))), τ2))) rfl (fun _ => ⟨rfl, rfl⟩) (Nat.le_of_ble_eq_true rfl) rfl dX9_read_91 ?_
          refine aw_aload_n 0 dX9_read_94 rfl rfl ?_
          refine aw_aload_n 0 dX9_read_95 rfl rfl ?_
          refine aw_getf (v := .ref 1) fX9_21 0 rfl rfl dX9_read_96 ?_
          refine aw_aload_n 0 dX9_read_99 rfl rfl ?_
          refine aw_getf (v := .int r1) fX9_41 0 rfl rfl dX9_read_100 ?_
          refine aw_callV (mc1 := 0) (ms1 := 0) (mc := 0) (ms := 0) (st := [.ref 0]) (q := 1) (As := [.int r1]) (vsc := [.int r1]) lX9_47 insX8_at selX8_at ⟨TX8, 2, rfl⟩ (by omega) (kX8_at (d := 0) (by omega) h) [1, 2] rfl rfl rfl rfl rfl dX9_read_103 rfl rfl (fun _ _ hh => ?_)
          obtain ⟨r3, τ4, rfl, rfl, h⟩ := hh
          refine ⟨(wX9 G ((σ.1.1, (σ.1.2.1, (r1, (σ.1.2.2.2.1, (0 : Int32))))), τ4)), [.int r3, .ref 0], rfl, rfl, rfl, ?_⟩
          refine aw_callVT (mc1 := 0) (ms1 := 0) (mc := 0) (ms := 0) (st := []) (q := 0) (As := [.int r3]) lX9_50 insX9_readOne selX9_readOne ⟨TX9, 9, rfl⟩ (by omega) (kX9_readOne (d := 7) (by omega) h) (Nat.le_of_ble_eq_true rfl) rfl rfl rfl dX9_read_106 rfl (fun _ _ hh => ?_)
          obtain ⟨r5, τ6, rfl, rfl, h⟩ := hh
          refine aw_stk (st' := [.int r5]) rfl ?_
          refine aw_istore_n (lv' := [(2, .int r5), (0, .ref 0)]) dX9_read_109 rfl (by decide) rfl ?_
          refine aw_aload_n 1 dX9_read_110 rfl rfl ?_
          refine aw_getf (v := .ref 3) fX9_9 0 rfl rfl dX9_read_111 ?_
          refine aw_aload_n 1 dX9_read_114 rfl rfl ?_
          refine aw_getf (v := .int τ6.1.2.1.1) fX9_25 0 rfl rfl dX9_read_115 ?_
          refine aw_iload_n 0 dX9_read_118 rfl rfl ?_
          refine aw_iast 3 (n := τ6.1.1.1.1) (f := τ6.1.1.1.2) (w' := fun y7 => (wX9 G ((((τ6.1.1.1.1, y7), τ6.1.1.2), τ6.1.2), τ6.2))) rfl h.1 (fun _ => rfl) dX9_read_119 (fun y7 ey7 => ?_)
          have h := h.2 y7 ey7
          refine aw_aload_n 1 dX9_read_120 rfl rfl ?_
          refine aw_getf (v := .ref 4) fX9_15 0 rfl rfl dX9_read_121 ?_
          refine aw_aload_n 1 dX9_read_124 rfl rfl ?_
          refine aw_getf (v := .int τ6.1.2.1.1) fX9_25 0 rfl rfl dX9_read_125 ?_
          refine aw_aload_n 1 dX9_read_128 rfl rfl ?_
          refine aw_getf (v := .int τ6.1.2.2.1) fX9_41 0 rfl rfl dX9_read_129 ?_
          refine aw_iast 4 (n := τ6.1.1.1.1) (f := τ6.1.1.2.1) (w' := fun y8 => (wX9 G ((((τ6.1.1.1.1, y7), (y8, τ6.1.1.2.2)), τ6.1.2), τ6.2))) rfl h.1 (fun _ => rfl) dX9_read_132 (fun y8 ey8 => ?_)
          have h := h.2 y8 ey8
          refine aw_aload_n 1 dX9_read_133 rfl rfl ?_
          refine aw_getf (v := .ref 5) fX9_18 0 rfl rfl dX9_read_134 ?_
          refine aw_aload_n 1 dX9_read_137 rfl rfl ?_
          refine aw_getf (v := .int τ6.1.2.1.1) fX9_25 0 rfl rfl dX9_read_138 ?_
          refine aw_aload_n 1 dX9_read_141 rfl rfl ?_
          refine aw_getf (v := .int τ6.1.2.2.2.2) fX9_44 0 rfl rfl dX9_read_142 ?_
          refine aw_iast 5 (n := τ6.1.1.1.1) (f := τ6.1.1.2.2) (w' := fun y9 => (wX9 G ((((τ6.1.1.1.1, y7), (y8, y9)), τ6.1.2), τ6.2))) rfl h.1 (fun _ => rfl) dX9_read_145 (fun y9 ey9 => ?_)
          have h := h.2 y9 ey9
          refine aw_aload_n 1 dX9_read_146 rfl rfl ?_
          refine aw_dup dX9_read_147 rfl ?_
          refine aw_getf (v := .int τ6.1.2.1.1) fX9_25 0 rfl rfl dX9_read_148 ?_
          refine aw_iconst (v := (1 : Int32)) dX9_read_151 (by decide) ?_
          refine aw_iadd dX9_read_152 ?_
          refine aw_topi (fun y10 ey10 => ?_)
          have h := h y10 ey10
          refine aw_putf fX9_25 0 (w' := (wX9 G ((((τ6.1.1.1.1, y7), (y8, y9)), ((y10, τ6.1.2.1.2), τ6.1.2.2)), τ6.2))) rfl (fun _ => ⟨rfl, rfl⟩) (Nat.le_of_ble_eq_true rfl) rfl dX9_read_153 ?_
          refine aw_goto 53 dX9_read_156 (by decide) ?_
          refine aw_lvsub (lv' := [(0, .ref 0), (2, .int r5)]) [1, 0] rfl ?_
          exact hrec_53 (((((τ6.1.1.1.1, y7), (y8, y9)), ((y10, τ6.1.2.1.2), τ6.1.2.2)), τ6.2), r5) h
def wp_X9_read_36  (post : WSX9 → Prop) (σ : WSX9) : Prop :=
  (∃ n14, wp_X9_read_53  post n14 ((σ.1.1, (((0 : Int32), (0 : Int32)), (σ.1.2.2.1, ((0 : Int32), σ.1.2.2.2.2)))), σ.2) (2 : Int32))
theorem aw_X9_read_36 {G : aw_G} {d : Nat} (hd : 8 ≤ d) {post : WSX9 → Prop}  {σ : WSX9} (h : wp_X9_read_36  post σ) : AW G MX9_read d 0 0 3 (aw_pv (wX9 G) post) 36 [(0, .ref 0)] [] (wX9 G σ) := by
  unfold wp_X9_read_36 at h
  refine aw_aload_n 0 dX9_read_36 rfl rfl ?_
  refine aw_iconst (v := (0 : Int32)) dX9_read_37 (by decide) ?_
  refine aw_putf fX9_25 0 (w' := (wX9 G ((σ.1.1, (((0 : Int32), σ.1.2.1.2), σ.1.2.2)), σ.2))) rfl (fun _ => ⟨rfl, rfl⟩) (Nat.le_of_ble_eq_true rfl) rfl dX9_read_38 ?_
  refine aw_aload_n 0 dX9_read_41 rfl rfl ?_
  refine aw_iconst (v := (0 : Int32)) dX9_read_42 (by decide) ?_
  refine aw_putf fX9_29 0 (w' := (wX9 G ((σ.1.1, (((0 : Int32), (0 : Int32)), σ.1.2.2)), σ.2))) rfl (fun _ => ⟨rfl, rfl⟩) (Nat.le_of_ble_eq_true rfl) rfl dX9_read_43 ?_
  refine aw_aload_n 0 dX9_read_46 rfl rfl ?_
  refine aw_iconst (v := (0 : Int32)) dX9_read_47 (by decide) ?_
  refine aw_putf fX9_32 0 (w' := (wX9 G ((σ.1.1, (((0 : Int32), (0 : Int32)), (σ.1.2.2.1, ((0 : Int32), σ.1.2.2.2.2)))), σ.2))) rfl (fun _ => ⟨rfl, rfl⟩) (Nat.le_of_ble_eq_true rfl) rfl dX9_read_48 ?_
  refine aw_iconst (v := (2 : Int32)) dX9_read_51 (by decide) ?_
  refine aw_istore_n (lv' := [(2, .int (2 : Int32)), (0, .ref 0)]) dX9_read_52 rfl (by decide) rfl ?_
  refine aw_lvsub (lv' := [(0, .ref 0), (2, .int (2 : Int32))]) [1, 0] rfl ?_
  obtain ⟨n14, h⟩ := h
  exact aw_X9_read_53 hd  n14 ((σ.1.1, (((0 : Int32), (0 : Int32)), (σ.1.2.2.1, ((0 : Int32), σ.1.2.2.2.2)))), σ.2) (2 : Int32) h
def wp_X9_read (bs : Nat) (σ : WSX9) (a1 : Int32) (post : WSX9 → Prop) : Prop :=
  ((a1 < (nI σ.1.1.1.1) → wp_X9_read_36  post σ) ∧ (¬ a1 < (nI σ.1.1.1.1) → (∀ y15 : Nat, y15 = ((a1 + (1 : Int32))).toNatClampNeg → (¬ (a1 + (1 : Int32)) < 0 ∧ y15 ≤ 100000 ∧ 3 * y15 ≤ bs ∧ wp_X9_read_36  post ((((y15, aw_z), (aw_z, aw_z)), σ.1.2), σ.2)))))
theorem kX9_read {G : aw_G} {d : Nat} (hd : 8 ≤ d) {bs : Nat} {σ : WSX9} {a1 : Int32} {post : WSX9 → Prop} (h : wp_X9_read bs σ a1 post) : AC G MX9_read d 3 bs 3 [.ref 0, .int a1] (wX9 G σ) (aw_pv (wX9 G) post) := by
  refine AC.of (lv := [(0, .ref 0), (1, .int a1)]) (by decide) (Nat.le_of_ble_eq_true rfl) rfl ?_
  unfold wp_X9_read at h
  refine aw_iload_n 1 dX9_read_0 rfl rfl ?_
  refine aw_aload_n 0 dX9_read_1 rfl rfl ?_
  refine aw_getf (v := .ref 3) fX9_9 0 rfl rfl dX9_read_2 ?_
  refine aw_alen 3 0 (v := (nI σ.1.1.1.1)) rfl rfl rfl dX9_read_5 ?_
  refine aw_icmp_lt 36 dX9_read_6 (by decide) (fun c16 => ?_) (fun c16 => ?_)
  · have h := h.1 c16
    refine aw_bud (mc := 0) (ms := 0) (Nat.zero_le _) (Nat.zero_le _) ?_
    refine aw_lvsub (lv' := [(0, .ref 0)]) [0] rfl ?_
    exact aw_X9_read_36 hd  h
  · have h := h.2 c16
    refine aw_aload_n 0 dX9_read_9 rfl rfl ?_
    refine aw_iload_n 1 dX9_read_10 rfl rfl ?_
    refine aw_iconst (v := (1 : Int32)) dX9_read_11 (by decide) ?_
    refine aw_iadd dX9_read_12 ?_
    have h := h _ rfl
    generalize hy15 : ((a1 + (1 : Int32))).toNatClampNeg = y15 at h
    obtain ⟨hy15a, hy15b, hy15c, h⟩ := h
    refine aw_bud (mc := (1 + (1 + (1 + 0)))) (ms := (y15 + (y15 + (y15 + 0)))) (by decide) (by omega) ?_
    refine aw_newa_int (N' := y15) (q := 6) (w' := [.inr (9, [.ref 1, .ref 3, .ref 4, .ref 5, .int σ.1.2.1.1, .int σ.1.2.1.2, .int σ.1.2.2.1, .int σ.1.2.2.2.1, .int σ.1.2.2.2.2]), .inr (8, [.ref 2, .int σ.2.2]), .inl (G.2.2.2.1, 3000, .inl σ.2.1), .inl (G.2.2.1, σ.1.1.1.1, .inl σ.1.1.1.2), .inl (G.2.2.1, σ.1.1.1.1, .inl σ.1.1.2.1), .inl (G.2.2.1, σ.1.1.1.1, .inl σ.1.1.2.2), .inl (G.2.2.1, y15, .inl (fun _ => 0))]) arr_int hy15a hy15 hy15b rfl rfl rfl dX9_read_13 ?_
    refine aw_putf fX9_9 0 (w' := [.inr (9, [.ref 1, .ref 6, .ref 4, .ref 5, .int σ.1.2.1.1, .int σ.1.2.1.2, .int σ.1.2.2.1, .int σ.1.2.2.2.1, .int σ.1.2.2.2.2]), .inr (8, [.ref 2, .int σ.2.2]), .inl (G.2.2.2.1, 3000, .inl σ.2.1), .inl (G.2.2.1, σ.1.1.1.1, .inl σ.1.1.1.2), .inl (G.2.2.1, σ.1.1.1.1, .inl σ.1.1.2.1), .inl (G.2.2.1, σ.1.1.1.1, .inl σ.1.1.2.2), .inl (G.2.2.1, y15, .inl (fun _ => 0))]) rfl (fun _ => ⟨rfl, rfl⟩) (Nat.le_of_ble_eq_true rfl) rfl dX9_read_15 ?_
    refine aw_aload_n 0 dX9_read_18 rfl rfl ?_
    refine aw_iload_n 1 dX9_read_19 rfl rfl ?_
    refine aw_iconst (v := (1 : Int32)) dX9_read_20 (by decide) ?_
    refine aw_iadd dX9_read_21 ?_
    refine aw_newa_int (N' := y15) (q := 7) (w' := [.inr (9, [.ref 1, .ref 6, .ref 4, .ref 5, .int σ.1.2.1.1, .int σ.1.2.1.2, .int σ.1.2.2.1, .int σ.1.2.2.2.1, .int σ.1.2.2.2.2]), .inr (8, [.ref 2, .int σ.2.2]), .inl (G.2.2.2.1, 3000, .inl σ.2.1), .inl (G.2.2.1, σ.1.1.1.1, .inl σ.1.1.1.2), .inl (G.2.2.1, σ.1.1.1.1, .inl σ.1.1.2.1), .inl (G.2.2.1, σ.1.1.1.1, .inl σ.1.1.2.2), .inl (G.2.2.1, y15, .inl (fun _ => 0)), .inl (G.2.2.1, y15, .inl (fun _ => 0))]) arr_int hy15a hy15 hy15b rfl rfl rfl dX9_read_22 ?_
    refine aw_putf fX9_15 0 (w' := [.inr (9, [.ref 1, .ref 6, .ref 7, .ref 5, .int σ.1.2.1.1, .int σ.1.2.1.2, .int σ.1.2.2.1, .int σ.1.2.2.2.1, .int σ.1.2.2.2.2]), .inr (8, [.ref 2, .int σ.2.2]), .inl (G.2.2.2.1, 3000, .inl σ.2.1), .inl (G.2.2.1, σ.1.1.1.1, .inl σ.1.1.1.2), .inl (G.2.2.1, σ.1.1.1.1, .inl σ.1.1.2.1), .inl (G.2.2.1, σ.1.1.1.1, .inl σ.1.1.2.2), .inl (G.2.2.1, y15, .inl (fun _ => 0)), .inl (G.2.2.1, y15, .inl (fun _ => 0))]) rfl (fun _ => ⟨rfl, rfl⟩) (Nat.le_of_ble_eq_true rfl) rfl dX9_read_24 ?_
    refine aw_aload_n 0 dX9_read_27 rfl rfl ?_
    refine aw_iload_n 1 dX9_read_28 rfl rfl ?_
    refine aw_iconst (v := (1 : Int32)) dX9_read_29 (by decide) ?_
    refine aw_iadd dX9_read_30 ?_
    refine aw_newa_int (N' := y15) (q := 8) (w' := [.inr (9, [.ref 1, .ref 6, .ref 7, .ref 5, .int σ.1.2.1.1, .int σ.1.2.1.2, .int σ.1.2.2.1, .int σ.1.2.2.2.1, .int σ.1.2.2.2.2]), .inr (8, [.ref 2, .int σ.2.2]), .inl (G.2.2.2.1, 3000, .inl σ.2.1), .inl (G.2.2.1, σ.1.1.1.1, .inl σ.1.1.1.2), .inl (G.2.2.1, σ.1.1.1.1, .inl σ.1.1.2.1), .inl (G.2.2.1, σ.1.1.1.1, .inl σ.1.1.2.2), .inl (G.2.2.1, y15, .inl (fun _ => 0)), .inl (G.2.2.1, y15, .inl (fun _ => 0)), .inl (G.2.2.1, y15, .inl (fun _ => 0))]) arr_int hy15a hy15 hy15b rfl rfl rfl dX9_read_31 ?_
    refine aw_putf fX9_18 0 (w' := [.inr (9, [.ref 1, .ref 6, .ref 7, .ref 8, .int σ.1.2.1.1, .int σ.1.2.1.2, .int σ.1.2.2.1, .int σ.1.2.2.2.1, .int σ.1.2.2.2.2]), .inr (8, [.ref 2, .int σ.2.2]), .inl (G.2.2.2.1, 3000, .inl σ.2.1), .inl (G.2.2.1, σ.1.1.1.1, .inl σ.1.1.1.2), .inl (G.2.2.1, σ.1.1.1.1, .inl σ.1.1.2.1), .inl (G.2.2.1, σ.1.1.1.1, .inl σ.1.1.2.2), .inl (G.2.2.1, y15, .inl (fun _ => 0)), .inl (G.2.2.1, y15, .inl (fun _ => 0)), .inl (G.2.2.1, y15, .inl (fun _ => 0))]) rfl (fun _ => ⟨rfl, rfl⟩) (Nat.le_of_ble_eq_true rfl) rfl dX9_read_33 ?_
    refine aw_pick [0, 1, 2, 6, 7, 8] (lv' := [(0, .ref 0), (1, .int a1)]) (st' := []) (w' := (wX9 G ((((y15, aw_z), (aw_z, aw_z)), σ.1.2), σ.2))) rfl rfl rfl rfl ?_
    refine aw_lvsub (lv' := [(0, .ref 0)]) [0] rfl ?_
    exact aw_X9_read_36 hd  h
def wp_X9_kind (σ : WSX9) (post : Int32 → WSX9 → Prop) : Prop :=
  ((σ.1.2.1.1 ≤ σ.1.2.1.2 → post (0 : Int32) σ) ∧ (¬ σ.1.2.1.1 ≤ σ.1.2.1.2 → (((nI σ.1.1.1.1) ≤ σ.1.2.1.2 → post (0 : Int32) σ) ∧ (¬ (nI σ.1.1.1.1) ≤ σ.1.2.1.2 → (vp_in σ.1.2.1.2 σ.1.1.1.1 ∧ post (σ.1.1.1.2 (σ.1.2.1.2).toNatClampNeg) σ)))))
theorem kX9_kind {G : aw_G} {d : Nat} (hd : 0 ≤ d) {σ : WSX9} {post : Int32 → WSX9 → Prop} (h : wp_X9_kind σ post) : AC G MX9_kind d 0 0 6 [.ref 0] (wX9 G σ) (aw_pi (wX9 G) post) := by
  refine AC.of (lv := [(0, .ref 0)]) (by decide) (Nat.le_of_ble_eq_true rfl) rfl ?_
  unfold wp_X9_kind at h
  refine aw_aload_n 0 dX9_kind_0 rfl rfl ?_
  refine aw_getf (v := .int σ.1.2.1.2) fX9_29 0 rfl rfl dX9_kind_1 ?_
  refine aw_aload_n 0 dX9_kind_4 rfl rfl ?_
  refine aw_getf (v := .int σ.1.2.1.1) fX9_25 0 rfl rfl dX9_kind_5 ?_
  refine aw_icmp_ge 35 dX9_kind_8 (by decide) (fun c2 => ?_) (fun c2 => ?_)
  · have h := h.1 c2
    refine aw_iconst (v := (0 : Int32)) dX9_kind_35 (by decide) ?_
    exact aw_iret rfl dX9_kind_36 ⟨_, σ, rfl, rfl, h⟩
  · have h := h.2 c2
    refine aw_aload_n 0 dX9_kind_11 rfl rfl ?_
    refine aw_getf (v := .int σ.1.2.1.2) fX9_29 0 rfl rfl dX9_kind_12 ?_
    refine aw_aload_n 0 dX9_kind_15 rfl rfl ?_
    refine aw_getf (v := .ref 3) fX9_9 0 rfl rfl dX9_kind_16 ?_
    refine aw_alen 3 0 (v := (nI σ.1.1.1.1)) rfl rfl rfl dX9_kind_19 ?_
    refine aw_icmp_ge 35 dX9_kind_20 (by decide) (fun c1 => ?_) (fun c1 => ?_)
    · have h := h.1 c1
      refine aw_iconst (v := (0 : Int32)) dX9_kind_35 (by decide) ?_
      exact aw_iret rfl dX9_kind_36 ⟨_, σ, rfl, rfl, h⟩
    · have h := h.2 c1
      refine aw_aload_n 0 dX9_kind_23 rfl rfl ?_
      refine aw_getf (v := .ref 3) fX9_9 0 rfl rfl dX9_kind_24 ?_
      refine aw_aload_n 0 dX9_kind_27 rfl rfl ?_
      refine aw_getf (v := .int σ.1.2.1.2) fX9_29 0 rfl rfl dX9_kind_28 ?_
      refine aw_iald 3 (n := σ.1.1.1.1) (f := σ.1.1.1.2) rfl h.1 dX9_kind_31 ?_
      have h := h.2
      refine aw_goto 36 dX9_kind_32 (by decide) ?_
      exact aw_iret rfl dX9_kind_36 ⟨_, σ, rfl, rfl, h⟩
def wp_X9_place (σ : WSX9) (post : Int32 → WSX9 → Prop) : Prop :=
  ((σ.1.2.1.1 ≤ σ.1.2.1.2 → post ((-1) : Int32) σ) ∧ (¬ σ.1.2.1.1 ≤ σ.1.2.1.2 → (((nI σ.1.1.1.1) ≤ σ.1.2.1.2 → post ((-1) : Int32) σ) ∧ (¬ (nI σ.1.1.1.1) ≤ σ.1.2.1.2 → (vp_in σ.1.2.1.2 σ.1.1.1.1 ∧ post (σ.1.1.2.1 (σ.1.2.1.2).toNatClampNeg) σ)))))
theorem kX9_place {G : aw_G} {d : Nat} (hd : 0 ≤ d) {σ : WSX9} {post : Int32 → WSX9 → Prop} (h : wp_X9_place σ post) : AC G MX9_place d 0 0 6 [.ref 0] (wX9 G σ) (aw_pi (wX9 G) post) := by
  refine AC.of (lv := [(0, .ref 0)]) (by decide) (Nat.le_of_ble_eq_true rfl) rfl ?_
  unfold wp_X9_place at h
  refine aw_aload_n 0 dX9_place_0 rfl rfl ?_
  refine aw_getf (v := .int σ.1.2.1.2) fX9_29 0 rfl rfl dX9_place_1 ?_
  refine aw_aload_n 0 dX9_place_4 rfl rfl ?_
  refine aw_getf (v := .int σ.1.2.1.1) fX9_25 0 rfl rfl dX9_place_5 ?_
  refine aw_icmp_ge 35 dX9_place_8 (by decide) (fun c2 => ?_) (fun c2 => ?_)
  · have h := h.1 c2
    refine aw_iconst (v := ((-1) : Int32)) dX9_place_35 (by decide) ?_
    exact aw_iret rfl dX9_place_36 ⟨_, σ, rfl, rfl, h⟩
  · have h := h.2 c2
    refine aw_aload_n 0 dX9_place_11 rfl rfl ?_
    refine aw_getf (v := .int σ.1.2.1.2) fX9_29 0 rfl rfl dX9_place_12 ?_
    refine aw_aload_n 0 dX9_place_15 rfl rfl ?_
    refine aw_getf (v := .ref 4) fX9_15 0 rfl rfl dX9_place_16 ?_
    refine aw_alen 4 0 (v := (nI σ.1.1.1.1)) rfl rfl rfl dX9_place_19 ?_
    refine aw_icmp_ge 35 dX9_place_20 (by decide) (fun c1 => ?_) (fun c1 => ?_)
    · have h := h.1 c1
      refine aw_iconst (v := ((-1) : Int32)) dX9_place_35 (by decide) ?_
      exact aw_iret rfl dX9_place_36 ⟨_, σ, rfl, rfl, h⟩
    · have h := h.2 c1
      refine aw_aload_n 0 dX9_place_23 rfl rfl ?_
      refine aw_getf (v := .ref 4) fX9_15 0 rfl rfl dX9_place_24 ?_
      refine aw_aload_n 0 dX9_place_27 rfl rfl ?_
      refine aw_getf (v := .int σ.1.2.1.2) fX9_29 0 rfl rfl dX9_place_28 ?_
      refine aw_iald 4 (n := σ.1.1.1.1) (f := σ.1.1.2.1) rfl h.1 dX9_place_31 ?_
      have h := h.2
      refine aw_goto 36 dX9_place_32 (by decide) ?_
      exact aw_iret rfl dX9_place_36 ⟨_, σ, rfl, rfl, h⟩
def wp_X9_number (σ : WSX9) (post : Int32 → WSX9 → Prop) : Prop :=
  ((σ.1.2.1.1 ≤ σ.1.2.1.2 → post (0 : Int32) σ) ∧ (¬ σ.1.2.1.1 ≤ σ.1.2.1.2 → (((nI σ.1.1.1.1) ≤ σ.1.2.1.2 → post (0 : Int32) σ) ∧ (¬ (nI σ.1.1.1.1) ≤ σ.1.2.1.2 → (vp_in σ.1.2.1.2 σ.1.1.1.1 ∧ post (σ.1.1.2.2 (σ.1.2.1.2).toNatClampNeg) σ)))))
theorem kX9_number {G : aw_G} {d : Nat} (hd : 0 ≤ d) {σ : WSX9} {post : Int32 → WSX9 → Prop} (h : wp_X9_number σ post) : AC G MX9_number d 0 0 6 [.ref 0] (wX9 G σ) (aw_pi (wX9 G) post) := by
  refine AC.of (lv := [(0, .ref 0)]) (by decide) (Nat.le_of_ble_eq_true rfl) rfl ?_
  unfold wp_X9_number at h
  refine aw_aload_n 0 dX9_number_0 rfl rfl ?_
  refine aw_getf (v := .int σ.1.2.1.2) fX9_29 0 rfl rfl dX9_number_1 ?_
  refine aw_aload_n 0 dX9_number_4 rfl rfl ?_
  refine aw_getf (v := .int σ.1.2.1.1) fX9_25 0 rfl rfl dX9_number_5 ?_
  refine aw_icmp_ge 35 dX9_number_8 (by decide) (fun c2 => ?_) (fun c2 => ?_)
  · have h := h.1 c2
    refine aw_iconst (v := (0 : Int32)) dX9_number_35 (by decide) ?_
    exact aw_iret rfl dX9_number_36 ⟨_, σ, rfl, rfl, h⟩
  · have h := h.2 c2
    refine aw_aload_n 0 dX9_number_11 rfl rfl ?_
    refine aw_getf (v := .int σ.1.2.1.2) fX9_29 0 rfl rfl dX9_number_12 ?_
    refine aw_aload_n 0 dX9_number_15 rfl rfl ?_
    refine aw_getf (v := .ref 5) fX9_18 0 rfl rfl dX9_number_16 ?_
    refine aw_alen 5 0 (v := (nI σ.1.1.1.1)) rfl rfl rfl dX9_number_19 ?_
    refine aw_icmp_ge 35 dX9_number_20 (by decide) (fun c1 => ?_) (fun c1 => ?_)
    · have h := h.1 c1
      refine aw_iconst (v := (0 : Int32)) dX9_number_35 (by decide) ?_
      exact aw_iret rfl dX9_number_36 ⟨_, σ, rfl, rfl, h⟩
    · have h := h.2 c1
      refine aw_aload_n 0 dX9_number_23 rfl rfl ?_
      refine aw_getf (v := .ref 5) fX9_18 0 rfl rfl dX9_number_24 ?_
      refine aw_aload_n 0 dX9_number_27 rfl rfl ?_
      refine aw_getf (v := .int σ.1.2.1.2) fX9_29 0 rfl rfl dX9_number_28 ?_
      refine aw_iald 5 (n := σ.1.1.1.1) (f := σ.1.1.2.2) rfl h.1 dX9_number_31 ?_
      have h := h.2
      refine aw_goto 36 dX9_number_32 (by decide) ?_
      exact aw_iret rfl dX9_number_36 ⟨_, σ, rfl, rfl, h⟩
def wp_X9_next (σ : WSX9) (post : WSX9 → Prop) : Prop :=
  (∀ y1 : Int32, y1 = (if σ.1.2.1.1 < (σ.1.2.1.2 + (1 : Int32)) then σ.1.2.1.1 else (σ.1.2.1.2 + (1 : Int32))) → post ((σ.1.1, ((σ.1.2.1.1, y1), σ.1.2.2)), σ.2))
theorem kX9_next {G : aw_G} {d : Nat} (hd : 1 ≤ d) {σ : WSX9} {post : WSX9 → Prop} (h : wp_X9_next σ post) : AC G MX9_next d 0 0 6 [.ref 0] (wX9 G σ) (aw_pv (wX9 G) post) := by
  refine AC.of (lv := [(0, .ref 0)]) (by decide) (Nat.le_of_ble_eq_true rfl) rfl ?_
  unfold wp_X9_next at h
  refine aw_aload_n 0 dX9_next_0 rfl rfl ?_
  refine aw_aload_n 0 dX9_next_1 rfl rfl ?_
  refine aw_getf (v := .int σ.1.2.1.2) fX9_29 0 rfl rfl dX9_next_2 ?_
  refine aw_iconst (v := (1 : Int32)) dX9_next_5 (by decide) ?_
  refine aw_iadd dX9_next_6 ?_
  refine aw_aload_n 0 dX9_next_7 rfl rfl ?_
  refine aw_getf (v := .int σ.1.2.1.1) fX9_25 0 rfl rfl dX9_next_8 ?_
  refine aw_mmin qX9_53 mathS_min iniJ9 mathK_min (by omega) (Nat.le_of_ble_eq_true rfl) dX9_next_11 ?_
  refine aw_topi (fun y1 ey1 => ?_)
  have h := h y1 ey1
  refine aw_putf fX9_29 0 (w' := (wX9 G ((σ.1.1, ((σ.1.2.1.1, y1), σ.1.2.2)), σ.2))) rfl (fun _ => ⟨rfl, rfl⟩) (Nat.le_of_ble_eq_true rfl) rfl dX9_next_14 ?_
  exact aw_vret rfl dX9_next_17 ⟨((σ.1.1, ((σ.1.2.1.1, y1), σ.1.2.2)), σ.2), rfl, rfl, h⟩
end WalkX9
