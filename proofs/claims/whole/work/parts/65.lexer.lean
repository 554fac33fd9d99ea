section Lexer
def plA (T : TX) (k : Nat) : Nat := scan (pb isBl T) (T.2 - k) k
def bpos (T : TX) : Nat → Nat
  | 0 => 0
  | t + 1 => plA T (bpos T t) + lnA T (plA T (bpos T t))
/-- token t: its place, kind, bytes and number -/
def PL (T : TX) (t : Nat) : Nat := plA T (bpos T t)
def TK (T : TX) (t : Nat) : Nat := kdA T (PL T t)
def LN (T : TX) (t : Nat) : Nat := lnA T (PL T t)
def NB (T : TX) (t : Nat) : Nat := nbA T (PL T t)
def tfin (T : TX) (t : Nat) : Prop := TK T t = 0 ∨ TK T t = 1
theorem plA_le {T : TX} {k : Nat} (h : k ≤ T.2) : k ≤ plA T k ∧ plA T k ≤ T.2 := by
  have h1 := scan_ge (pb isBl T) (T.2 - k) k
  have h2 := scan_le (pb isBl T) (T.2 - k) k
  unfold plA
  omega
theorem lnA_le {T : TX} {p : Nat} (h : p ≤ T.2) : p + lnA T p ≤ T.2 := by
  by_cases hlt : p < T.2
  · cases e1 : isLet (T.1 p) with
    | true =>
      rw [(kdA_let hlt e1).2.1]
      have := nmE_le h
      omega
    | false =>
      cases e2 : isDig (T.1 p) with
      | true =>
        rw [(kdA_dig hlt e2).2]
        have := dgE_le h
        omega
      | false =>
        rw [(kdA_sg hlt e1 e2).2.1]
        split
        · omega
        · rename_i q
          have : bt T (p + 1) ≠ 0 := by
            intro z
            apply q
            unfold lsK
            rw [z]
            simp
          unfold bt at this
          split at this
          · omega
          · exact absurd rfl this
  · rw [(kdA_end hlt).2.1]
    omega
theorem lnA_pos {T : TX} {p : Nat} (hlt : p < T.2) : 0 < lnA T p := by
  cases e1 : isLet (T.1 p) with
  | true =>
    rw [(kdA_let hlt e1).2.1]
    have := nmE_gt hlt e1
    omega
  | false =>
    cases e2 : isDig (T.1 p) with
    | true =>
      rw [(kdA_dig hlt e2).2]
      have := dgE_gt hlt e2
      omega
    | false =>
      rw [(kdA_sg hlt e1 e2).2.1]
      split <;> omega
theorem bpos_le (T : TX) (t : Nat) : bpos T t ≤ T.2 := by
  induction t with
  | zero => exact Nat.zero_le _
  | succ t ih => exact lnA_le (plA_le ih).2
theorem PL_le (T : TX) (t : Nat) : PL T t ≤ T.2 := (plA_le (bpos_le T t)).2
theorem bpos_succ (T : TX) (t : Nat) : bpos T (t + 1) = PL T t + LN T t := rfl
theorem PL_next (T : TX) (t : Nat) : PL T t + LN T t ≤ PL T (t + 1) := (plA_le (bpos_le T (t + 1))).1
theorem PL_lt {T : TX} {t : Nat} (h : ¬ tfin T t) : PL T t < T.2 := by
  have := PL_le T t
  by_cases q : PL T t < T.2
  · exact q
  · exact absurd (Or.inl (kdA_end q).1) h
theorem LN_pos {T : TX} {t : Nat} (h : ¬ tfin T t) : 0 < LN T t := lnA_pos (PL_lt h)
theorem PL_ge {T : TX} : ∀ t, (∀ s, s < t → ¬ tfin T s) → t ≤ PL T t := by
  intro t
  induction t with
  | zero => intro _; exact Nat.zero_le _
  | succ t ih =>
    intro h
    have h1 := ih (fun s hs => h s (by omega))
    have h2 := PL_next T t
    have h3 := LN_pos (h t (by omega))
    omega
/-- N tokens, the last of which ends the row -/
def LT (T : TX) (N : Nat) : Prop := 0 < N ∧ N ≤ T.2 + 1 ∧ tfin T (N - 1) ∧ ∀ s, s + 1 < N → ¬ tfin T s
theorem LT.uniq {T : TX} {N M : Nat} (h : LT T N) (g : LT T M) : N = M := by
  obtain ⟨h1, h2, h3, h4⟩ := h
  obtain ⟨g1, g2, g3, g4⟩ := g
  by_cases q : N < M
  · exact absurd h3 (g4 (N - 1) (by omega))
  · by_cases q2 : M < N
    · exact absurd g3 (h4 (M - 1) (by omega))
    · omega
def LC (σ : SX9) (T : TX) (N : Nat) : Prop := N ≤ σ.1.1.1 ∧ σ.1.1.1 < 2 ^ 31 ∧ σ.2.1.1 = nI N ∧ ∀ t, t < N → σ.1.1.2 t = nI (TK T t) ∧ σ.1.2.1 t = nI (PL T t) ∧ σ.1.2.2 t = nI (NB T t)
def LM (τ : SX12) (T : TX) (N : Nat) : Prop := ∀ t, t < N → τ.1.1.1.2.1 t = nI (kM (TK T t)) ∧ τ.1.1.1.2.2.1 t = nI (PL T t) ∧ τ.1.1.1.2.2.2 t = nI (LN T t)
theorem TK_r (T : TX) (t : Nat) : TK T t ≤ 131 ∧ (TK T t ≤ 10 ∨ 33 ≤ TK T t) := by
  have hp := PL_le T t
  unfold TK
  by_cases hlt : PL T t < T.2
  · cases e1 : isLet (T.1 (PL T t)) with
    | true =>
      rw [(kdA_let hlt e1).1]
      have := wK_r T (PL T t) (nmE T (PL T t) - PL T t)
      split <;> omega
    | false =>
      cases e2 : isDig (T.1 (PL T t)) with
      | true =>
        rw [(kdA_dig hlt e2).1]
        split <;> omega
      | false =>
        rw [(kdA_sg hlt e1 e2).1]
        unfold sgK
        have := lsK_r (T.1 (PL T t)) (bt T (PL T t + 1))
        split
        · split
          · rename_i q
            have := sgn_r q
            omega
          · omega
        · omega
  · rw [(kdA_end hlt).1]
    omega
theorem c_read53 {T : TX} {t8 : SX8} {L : Nat} {post : WSX9 → Prop} (hT : TC t8 T) (hL : T.2 < L) (hL2 : L < 2 ^ 31)
    (hp : ∀ (σ : WSX9) (N : Nat), LT T N → LC σ.1 T N → σ.1.2.1.2 = 0 → σ.2 = t8 → post σ) : ∀ (m t : Nat) (σ : WSX9) (x : Int32), t + m = T.2 + 2 → (∀ s, s + 1 < t → ¬ tfin T s) → (t = 0 ∧ x = 2 ∨ 0 < t ∧ x = nI (TK T (t - 1))) → σ.2 = t8 → σ.1.1.1.1 = L → σ.1.2.1.1 = nI t → σ.1.2.1.2 = 0 → ((0 < t → ¬ tfin T (t - 1)) → σ.1.2.2.2.1 = nI (bpos T t)) → (∀ s, s < t → σ.1.1.1.2 s = nI (TK T s) ∧ σ.1.1.2.1 s = nI (PL T s) ∧ σ.1.1.2.2 s = nI (NB T s)) → wp_X9_read_53 post (m + 1) σ x := by
  have hn := hT.2.1
  intro m
  induction m with
  | zero =>
    intro t σ x ht hf
    have h1 := hf T.2 (by omega)
    have h2 := PL_ge T.2 (fun s hs => hf s (by omega))
    have h3 := PL_lt h1
    omega
  | succ m ih =>
    intro t σ x ht hf hx e8 eL eu ec eb hs
    show wb_X9_read_53 post _ σ x
    by_cases hfin : 0 < t ∧ tfin T (t - 1)
    · have done : post σ := by
        refine hp σ t ⟨hfin.1, by omega, hfin.2, hf⟩ ⟨?_, by rw [eL]; exact hL2, eu, hs⟩ ec e8
        rw [eL]
        omega
      refine ⟨fun _ => done, fun _ => ⟨fun _ => done, fun c0 => ⟨fun _ => done, fun c1 => ?_⟩⟩⟩
      exfalso
      rcases hx with hx | hx
      · omega
      · rcases hfin.2 with q | q
        · rw [q] at hx
          exact c0 hx.2
        · rw [q] at hx
          exact c1 hx.2
    · have hnf : ∀ s, s < t → ¬ tfin T s := by
        intro s hs
        by_cases q : s + 1 < t
        · exact hf s q
        · intro z
          exact hfin ⟨by omega, by rw [show t - 1 = s by omega]; exact z⟩
      have hge := PL_ge t hnf
      have hle := PL_le T t
      have hbp := bpos_le T t
      have eb := eb (fun h0 => hnf (t - 1) (by omega))
      have hx0 : ¬ x = 0 ∧ ¬ x = 1 := by
        rcases hx with hx | hx
        · rw [hx.2]
          decide
        · have h1 := hnf (t - 1) (by omega)
          have h2 := TK_r T (t - 1)
          rw [hx.2]
          exact ⟨fun q => h1 (Or.inl ((nI_eq (b := 0) (by omega) (by omega)).mp q)), fun q => h1 (Or.inr ((nI_eq (b := 1) (by omega) (by omega)).mp q))⟩
      have hT2 : TC σ.2 T := by rw [e8]; exact hT
      refine ⟨fun c => absurd c ?_, fun _ => ⟨fun c => absurd c hx0.1, fun _ => ⟨fun c => absurd c hx0.2, fun _ => ?_⟩⟩⟩
      · rw [eL, eu]
        exact nI_ge (by omega) hL2
      · rw [eb]
        refine c_afterBlanks hT2 (by omega) (c_at hT2 (show PL T t < 2 ^ 31 by omega) ?_)
        refine c_readOne (p := PL T t) hT2 rfl hle rfl (fun b hb => ?_)
        show (vp_in σ.1.2.1.1 σ.1.1.1.1 ∧ _)
        rw [eu, eL]
        have hin : vp_in (nI t) L := in_k (by omega) hL2
        refine ⟨hin, fun y7 e7 => ⟨hin, fun y8 e8' => ⟨hin, fun y9 e9 y10 e10 => ?_⟩⟩⟩
        have e10 : y10 = nI (t + 1) := e10.trans (nI_1 t)
        have e7 : y7 = upd σ.1.1.1.2 t (nI (TK T t)) := by
          rw [e7, nI_clamp (by omega)]
          rfl
        have e8' : y8 = upd σ.1.1.2.1 t (nI (PL T t)) := by
          rw [e8', nI_clamp (by omega)]
          rfl
        have e9 : y9 = upd σ.1.1.2.2 t (nI (NB T t)) := by
          rw [e9, nI_clamp (by omega)]
          rfl
        refine ih (t + 1) _ _ (by omega) (fun s hs => hnf s (by omega)) (Or.inr ⟨by omega, rfl⟩) e8 rfl e10 ec (fun q => ?_) (fun s hs' => ?_)
        · have q := q (by omega)
          show b = nI (bpos T (t + 1))
          rw [bpos_succ]
          exact hb (fun z => q (Or.inl z)) (fun z => q (Or.inr z))
        · show y7 s = _ ∧ y8 s = _ ∧ y9 s = _
          rw [e7, e8', e9]
          by_cases q : s = t
          · rw [q, pk_us, pk_us, pk_us]
            exact ⟨rfl, rfl, rfl⟩
          · rw [pk_un q, pk_un q, pk_un q]
            exact hs s (by omega)
theorem c_read {σ : WSX9} {T : TX} {bs : Nat} {post : WSX9 → Prop} (hT : TC σ.2 T) (hL : σ.1.1.1.1 < 2 ^ 31) (hb : 3 * (T.2 + 1) ≤ bs)
    (hp : ∀ (σ' : WSX9) (N : Nat), LT T N → LC σ'.1 T N → σ'.1.2.1.2 = 0 → σ'.2 = σ.2 → post σ') : wp_X9_read bs σ (nI T.2) post := by
  have hn := hT.2.1
  refine ⟨fun c => ?_, fun c y ey => ?_⟩
  · have c := (nI_ltI (by omega) hL).mp c
    exact ⟨_, c_read53 hT c hL hp (T.2 + 2) 0 _ _ (by omega) (fun s hs => absurd hs (by omega)) (Or.inl ⟨rfl, rfl⟩) rfl rfl rfl rfl (fun _ => rfl) (fun s hs => absurd hs (by omega))⟩
  · have e1 : nI T.2 + 1 = nI (T.2 + 1) := nI_1 _
    rw [e1, nI_clamp (by omega)] at ey
    rw [e1]
    refine ⟨nI_pos (by omega), by omega, by omega, ?_⟩
    exact ⟨_, c_read53 hT (L := y) (by omega) (by omega) hp (T.2 + 2) 0 _ _ (by omega) (fun s hs => absurd hs (by omega)) (Or.inl ⟨rfl, rfl⟩) rfl rfl rfl rfl (fun _ => rfl) (fun s hs => absurd hs (by omega))⟩
theorem m_blank {τ : SX12} {T : TX} {x2 : Int32} {post : SX12 → Prop} {rec : SX12 × Int32 × Int32 × Int32 → Prop} (h : TM τ T) : ∀ (m k : Nat), m = T.2 - k → k ≤ T.2 → wp_X12_cut_64 rec post τ (nI (scan (pb isBl T) m k)) x2 → wp_X12_cut_10 rec post (m + 1) τ (nI k) x2 := by
  have hn := h.2.1
  intro m
  induction m with
  | zero =>
    intro k hm hk hq
    show wb_X12_cut_10 rec post _ τ (nI k) x2
    refine ⟨fun _ => hq, fun c => absurd ?_ c⟩
    rw [h.1]
    exact nI_le (by omega) (by omega)
  | succ m ih =>
    intro k hm hk hq
    show wb_X12_cut_10 rec post _ τ (nI k) x2
    have hlt : k < T.2 := by omega
    have hb := (h.2.2 k hlt).1
    have eb : bt T k = T.1 k := if_pos hlt
    have eq : ∀ b : Nat, b < 256 → (nI (bt T k) = nI b ↔ T.1 k = b) := fun b hb2 => by rw [eb, nI_eq (by omega) (by omega)]
    unfold scan at hq
    rw [pb_in hlt] at hq
    have yes : isBl (T.1 k) = true → wp_X12_cut_58 rec (fun a => wp_X12_cut_10 rec post (m + 1) a.1 a.2.1 a.2.2) post τ (nI k) x2 := by
      intro q
      rw [if_pos q] at hq
      have := ih (k + 1) (by omega) (by omega) hq
      rw [← nI_1] at this
      exact this
    refine ⟨fun c => absurd c ?_, fun _ => m_byteAt h (by omega) ⟨fun c => yes (isBl_iff.mpr (Or.inr (Or.inr (Or.inr ((eq 32 (by omega)).mp c))))), fun c1 => m_byteAt h (by omega) ⟨fun c => yes (isBl_iff.mpr (Or.inl ((eq 9 (by omega)).mp c))), fun c2 => m_byteAt h (by omega) ⟨fun c => yes (isBl_iff.mpr (Or.inr (Or.inl ((eq 10 (by omega)).mp c)))), fun c3 => m_byteAt h (by omega) ⟨fun c4 => ?_, fun c => yes (isBl_iff.mpr (Or.inr (Or.inr (Or.inl ((eq 13 (by omega)).mp c)))))⟩⟩⟩⟩⟩
    · rw [h.1]
      exact nI_ge hlt (by omega)
    · have q : ¬ isBl (T.1 k) = true := by
        rw [isBl_iff]
        rintro (q | q | q | q)
        · exact c2 ((eq 9 (by omega)).mpr q)
        · exact c3 ((eq 10 (by omega)).mpr q)
        · exact c4 ((eq 13 (by omega)).mpr q)
        · exact c1 ((eq 32 (by omega)).mpr q)
      rw [if_neg q] at hq
      exact hq
/-- of the reference only tokens, places, bytes, now and bad have changed -/
def CU (τ τ' : SX12) : Prop := τ'.2 = τ.2 ∧ τ'.1.2 = τ.1.2 ∧ τ'.1.1.1.1 = τ.1.1.1.1 ∧ τ'.1.1.2.2 = τ.1.1.2.2 ∧ τ'.1.1.2.1.2.2 = τ.1.1.2.1.2.2
theorem kM_fin {k : Nat} (h : k ≤ 131) (h2 : k ≤ 10 ∨ 33 ≤ k) : (nI (kM k) = 10 ↔ k = 0) ∧ (nI (kM k) = 11 ↔ k = 1) := by
  have : ∀ k : Fin 132, (nI (kM k.1) = 10 ↔ k.1 = 0) ∧ (nI (kM k.1) = 11 ↔ k.1 = 1) ∨ (k.1 = 10 ∨ k.1 = 11) := by decide +kernel
  rcases this ⟨k, by omega⟩ with q | q
  · exact q
  · rcases q with q | q
    · have q : k = 10 := q
      rw [q]
      decide
    · have q : k = 11 := q
      omega
theorem m_cut6 {T : TX} {τ0 : SX12} {post : SX12 → Prop} (hn : T.2 ≤ 3000) (hp : ∀ (τ : SX12) (N : Nat), LT T N → LM τ T N → τ.1.1.2.1.1 = 0 → τ.1.1.2.1.2.1 = 0 → CU τ0 τ → post τ) : ∀ (m t : Nat) (τ : SX12) (k x : Int32), t + m = T.2 + 2 → (∀ s, s + 1 < t → ¬ tfin T s) → TM τ T → CU τ0 τ → (t = 0 ∧ x = 1 ∨ 0 < t ∧ ((tfin T (t - 1) ∧ x = 0) ∨ (¬ tfin T (t - 1) ∧ x = 1))) → ((0 < t → ¬ tfin T (t - 1)) → k = nI (bpos T t)) → (∀ s, s < t → τ.1.1.1.2.1 s = nI (kM (TK T s)) ∧ τ.1.1.1.2.2.1 s = nI (PL T s) ∧ τ.1.1.1.2.2.2 s = nI (LN T s)) → wp_X12_cut_6 post (m + 1) τ k (nI t) x := by
  intro m
  induction m with
  | zero =>
    intro t τ k x ht hf
    have h1 := hf T.2 (by omega)
    have h2 := PL_ge T.2 (fun s hs => hf s (by omega))
    have h3 := PL_lt h1
    omega
  | succ m ih =>
    intro t τ k x ht hf hT hcu hx ek hs
    show wb_X12_cut_6 post _ τ k (nI t) x
    by_cases hfin : 0 < t ∧ tfin T (t - 1)
    · have x0 : x = 0 := by
        rcases hx with hx | hx
        · omega
        · rcases hx.2 with q | q
          · exact q.2
          · exact absurd hfin.2 q.1
      refine ⟨fun _ => ?_, fun c => absurd x0 c⟩
      refine hp _ t ⟨hfin.1, by omega, hfin.2, hf⟩ hs rfl rfl ?_
      obtain ⟨c1, c2, c3, c4, c5⟩ := hcu
      exact ⟨c1, c2, c3, c4, c5⟩
    · have hnf : ∀ s, s < t → ¬ tfin T s := by
        intro s hs
        by_cases q : s + 1 < t
        · exact hf s q
        · intro z
          exact hfin ⟨by omega, by rw [show t - 1 = s by omega]; exact z⟩
      have x1 : x = 1 := by
        rcases hx with hx | hx
        · exact hx.2
        · rcases hx.2 with q | q
          · exact absurd q.1 (hnf (t - 1) (by omega))
          · exact q.2
      have hge := PL_ge t hnf
      have hle := PL_le T t
      have hbp := bpos_le T t
      have ek := ek (fun h0 => hnf (t - 1) (by omega))
      refine ⟨fun c => absurd (x1.symm.trans c) (by decide), fun _ => ?_⟩
      rw [ek]
      refine ⟨_, m_blank hT _ _ rfl hbp ?_⟩
      show wp_X12_cut_64 _ post τ (nI (PL T t)) (nI t)
      unfold wp_X12_cut_64
      have hin : vp_in (nI t) 3002 := in_k (by omega) (by omega)
      refine ⟨hin, fun y1 e1 => m_tokenAt (τ := ((((τ.1.1.1.1, (τ.1.1.1.2.1, (y1, τ.1.1.1.2.2.2))), τ.1.1.2), τ.1.2), τ.2)) hT (by omega) hle ?_⟩
      rw [nI_clamp (by omega)] at e1 ⊢
      refine ⟨hin, fun y4 e4 => ⟨hin, fun y5 e5 => ⟨hin, ?_⟩⟩⟩
      have e5 : y5 = nI (bpos T (t + 1)) := by
        rw [e5]
        show nI (PL T t) + upd τ.1.1.1.2.2.2 t (nI (lnA T (PL T t))) t = _
        rw [pk_us, nI_add]
        rfl
      have e4t : y4 t = nI (kM (TK T t)) := by
        rw [e4]
        show upd τ.1.1.1.2.1 t (nI (kM (kdA T (PL T t)))) t = _
        rw [pk_us]
        rfl
      obtain ⟨r1, r2⟩ := TK_r T t
      obtain ⟨q10, q11⟩ := kM_fin r1 r2
      rw [e4t, e5]
      have nx : ∀ z : Int32, ((tfin T t ∧ z = 0) ∨ (¬ tfin T t ∧ z = 1)) → wp_X12_cut_119 (fun a => wp_X12_cut_6 post (m + 1) a.1 a.2.1 a.2.2.1 a.2.2.2) post ((((τ.1.1.1.1, (y4, (y1, (upd τ.1.1.1.2.2.2 t (nI (lnA T (PL T t))))))), τ.1.1.2), τ.1.2), τ.2) (nI (bpos T (t + 1))) (nI t) z := by
        intro z hz
        have := ih (t + 1) ((((τ.1.1.1.1, (y4, (y1, (upd τ.1.1.1.2.2.2 t (nI (lnA T (PL T t))))))), τ.1.1.2), τ.1.2), τ.2) (nI (bpos T (t + 1))) z (by omega) (fun s hs => hnf s (by omega)) hT ?_ (Or.inr ⟨by omega, hz⟩) (fun _ => rfl) ?_
        · rw [← nI_1] at this
          exact this
        · obtain ⟨c1, c2, c3, c4, c5⟩ := hcu
          exact ⟨c1, c2, c3, c4, c5⟩
        · intro s hs'
          show y4 s = _ ∧ y1 s = _ ∧ upd τ.1.1.1.2.2.2 t (nI (lnA T (PL T t))) s = _
          rw [e1]
          by_cases q : s = t
          · rw [q, e4t, pk_us, pk_us]
            exact ⟨rfl, rfl, rfl⟩
          · have e4s : y4 s = τ.1.1.1.2.1 s := by
              rw [e4]
              show upd τ.1.1.1.2.1 t _ s = _
              rw [pk_un q]
            rw [e4s, pk_un q, pk_un q]
            exact hs s (by omega)
      refine ⟨fun c => nx 0 (Or.inl ⟨Or.inl (q10.mp c), rfl⟩), fun c => ⟨hin, fun c2 => nx 0 (Or.inl ⟨Or.inr (q11.mp c2), rfl⟩), fun c2 => nx 1 (Or.inr ⟨?_, rfl⟩)⟩⟩
      rintro (z | z)
      · exact c (q10.mpr z)
      · exact c2 (q11.mpr z)
theorem m_cut {T : TX} {τ : SX12} {post : SX12 → Prop} (h : TM τ T) (hp : ∀ (τ' : SX12) (N : Nat), LT T N → LM τ' T N → τ'.1.1.2.1.1 = 0 → τ'.1.1.2.1.2.1 = 0 → CU τ τ' → post τ') : wp_X12_cut τ post :=
  ⟨_, m_cut6 h.2.1 hp (T.2 + 2) 0 τ 0 1 (by omega) (fun s hs => absurd hs (by omega)) h ⟨rfl, rfl, rfl, rfl, rfl⟩ (Or.inl ⟨rfl, rfl⟩) (fun _ => rfl) (fun s hs => absurd hs (by omega))⟩
end Lexer
