section Tok2
def nmE (T : TX) (p : Nat) : Nat := scan (pb isNm T) (T.2 - p) p
def dgE (T : TX) (p : Nat) : Nat := scan (pb isDig T) (T.2 - p) p
def sgK (c d : Nat) : Nat := if lsK c d = 1 then (if sgn c then c else 1) else lsK c d
/-- the token at a place: its kind and its bytes -/
def kdA (T : TX) (p : Nat) : Nat := if p < T.2 then (if isLet (T.1 p) then (if nmE T p - p ≤ 10 then wK T p (nmE T p - p) else 1) else if isDig (T.1 p) then (if numOk T p (dgE T p) then 3 else 1) else sgK (T.1 p) (bt T (p + 1))) else 0
def lnA (T : TX) (p : Nat) : Nat := if p < T.2 then (if isLet (T.1 p) then nmE T p - p else if isDig (T.1 p) then dgE T p - p else if lsK (T.1 p) (bt T (p + 1)) = 1 then 1 else 2) else 0
def nbA (T : TX) (p : Nat) : Nat := if kdA T p = 3 then dv T p (lnA T p) else 0
theorem wK_r (T : TX) (p len : Nat) : wK T p len = 2 ∨ (4 ≤ wK T p len ∧ wK T p len ≤ 10) := by
  unfold wK
  repeat' split
  all_goals decide
theorem lsK_r (c d : Nat) : lsK c d = 1 ∨ lsK c d = 128 ∨ lsK c d = 129 ∨ lsK c d = 130 ∨ lsK c d = 131 := by
  unfold lsK
  repeat' split
  all_goals decide
theorem sgn_r {c : Nat} (h : sgn c = true) : 33 ≤ c ∧ c ≤ 126 ∧ isLet c = false ∧ isDig c = false := by
  unfold sgn at h
  rw [List.contains_iff_mem] at h
  revert c
  show ∀ c, c ∈ sgL → _
  intro c h
  simp only [sgL, List.mem_cons, List.mem_nil_iff, or_false] at h
  rcases h with rfl | rfl | rfl | rfl | rfl | rfl | rfl | rfl | rfl | rfl | rfl | rfl | rfl | rfl | rfl | rfl | rfl | rfl | rfl <;> decide
theorem sgK_ne3 (c d : Nat) : ¬ sgK c d = 3 := by
  unfold sgK
  rcases lsK_r c d with e | e | e | e | e
  · rw [e, if_pos rfl]
    split
    · rename_i q
      have := sgn_r q
      omega
    · decide
  all_goals
    rw [e, if_neg (by decide)]
    decide
theorem nmE_le {T : TX} {p : Nat} (h : p ≤ T.2) : p ≤ nmE T p ∧ nmE T p ≤ T.2 := by
  have h1 := scan_ge (pb isNm T) (T.2 - p) p
  have h2 := scan_le (pb isNm T) (T.2 - p) p
  unfold nmE
  omega
theorem dgE_le {T : TX} {p : Nat} (h : p ≤ T.2) : p ≤ dgE T p ∧ dgE T p ≤ T.2 := by
  have h1 := scan_ge (pb isDig T) (T.2 - p) p
  have h2 := scan_le (pb isDig T) (T.2 - p) p
  unfold dgE
  omega
theorem scan_first {q : Nat → Bool} {m k : Nat} (h : q k = true) (hm : 0 < m) : k < scan q m k := by
  cases m with
  | zero => omega
  | succ m =>
    unfold scan
    rw [if_pos h]
    have := scan_ge q m (k + 1)
    omega
theorem nmE_gt {T : TX} {p : Nat} (h : p < T.2) (hl : isLet (T.1 p) = true) : p < nmE T p := scan_first (pb_iff.mpr ⟨h, isNm_iff.mpr (Or.inl hl)⟩) (by omega)
theorem dgE_gt {T : TX} {p : Nat} (h : p < T.2) (hl : isDig (T.1 p) = true) : p < dgE T p := scan_first (pb_iff.mpr ⟨h, hl⟩) (by omega)
theorem dg_not_let {c : Nat} (h : isDig c = true) : isLet c = false := by
  have := isDig_iff.mp h
  cases e : isLet c
  · rfl
  · have := isLet_iff.mp e
    omega
theorem kdA_let {T : TX} {p : Nat} (h : p < T.2) (hl : isLet (T.1 p) = true) : kdA T p = (if nmE T p - p ≤ 10 then wK T p (nmE T p - p) else 1) ∧ lnA T p = nmE T p - p ∧ nbA T p = 0 := by
  have e1 : kdA T p = (if nmE T p - p ≤ 10 then wK T p (nmE T p - p) else 1) := by
    unfold kdA
    rw [if_pos h, if_pos hl]
  refine ⟨e1, ?_, ?_⟩
  · unfold lnA
    rw [if_pos h, if_pos hl]
  · unfold nbA
    rw [if_neg]
    rw [e1]
    have := wK_r T p (nmE T p - p)
    split <;> omega
theorem kdA_dig {T : TX} {p : Nat} (h : p < T.2) (hl : isDig (T.1 p) = true) : kdA T p = (if numOk T p (dgE T p) then 3 else 1) ∧ lnA T p = dgE T p - p := by
  have hn := dg_not_let hl
  constructor
  · unfold kdA
    rw [if_pos h, hn, if_neg (by decide), if_pos hl]
  · unfold lnA
    rw [if_pos h, hn, if_neg (by decide), if_pos hl]
theorem kdA_sg {T : TX} {p : Nat} (h : p < T.2) (h1 : isLet (T.1 p) = false) (h2 : isDig (T.1 p) = false) : kdA T p = sgK (T.1 p) (bt T (p + 1)) ∧ lnA T p = (if lsK (T.1 p) (bt T (p + 1)) = 1 then 1 else 2) ∧ nbA T p = 0 := by
  have e1 : kdA T p = sgK (T.1 p) (bt T (p + 1)) := by
    unfold kdA
    rw [if_pos h, h1, h2, if_neg (by decide), if_neg (by decide)]
  refine ⟨e1, ?_, ?_⟩
  · unfold lnA
    rw [if_pos h, h1, h2, if_neg (by decide), if_neg (by decide)]
  · unfold nbA
    rw [if_neg]
    rw [e1]
    exact sgK_ne3 _ _
theorem kdA_end {T : TX} {p : Nat} (h : ¬ p < T.2) : kdA T p = 0 ∧ lnA T p = 0 ∧ nbA T p = 0 := by
  have e1 : kdA T p = 0 := by
    unfold kdA
    rw [if_neg h]
  refine ⟨e1, ?_, ?_⟩
  · unfold lnA
    rw [if_neg h]
  · unfold nbA
    rw [if_neg (by rw [e1]; decide)]
theorem nI_nem1 {c : Nat} (h : c < 2 ^ 31) : ¬ nI c = -1 := by
  intro q
  have : (nI c).toInt = -1 := by rw [q]; decide
  rw [nI_toInt h] at this
  omega
theorem c_readOne {σ : WSX9} {T : TX} {p : Nat} {post : Int32 → WSX9 → Prop} (h : TC σ.2 T) (h1 : σ.1.2.2.1 = nI p) (hp : p ≤ T.2) (h3 : σ.1.2.2.2.2 = 0)
    (hq : ∀ b, (¬ kdA T p = 0 → ¬ kdA T p = 1 → b = nI (p + lnA T p)) → post (nI (kdA T p)) ((σ.1.1, (σ.1.2.1, (σ.1.2.2.1, (b, (nI (nbA T p)))))), σ.2)) : wp_X9_readOne σ (ct T p) post := by
  have hn := h.2.1
  by_cases hlt : p < T.2
  · have ec : ct T p = nI (T.1 p) := if_pos hlt
    have hb := (h.2.2 p hlt).1
    unfold wp_X9_readOne
    refine ⟨fun _ => c_isLetterT h ?_, fun c => absurd (ec.symm.trans c) (nI_nem1 (by omega))⟩
    rw [pb_in hlt]
    refine ⟨fun cl => c_isDigitT h ?_, fun cl => ?_⟩
    · have cl := eq0_f cl
      rw [pb_in hlt]
      refine ⟨fun cd => ?_, fun cd => ?_⟩
      · have cd := eq0_f cd
        obtain ⟨k1, k2, k3⟩ := kdA_sg hlt cl cd
        rw [h1]
        show wp_X8_at σ.2 (nI p + nI 1) _
        rw [nI_add]
        refine c_at h (by omega) ?_
        rw [ec]
        refine c_longSign hb (d' := bt T (p + 1)) (fun x h0 hx => ct_eq h h0 hx) ?_
        have i1 : (1 : Int32) = nI 1 := rfl
        have hix := ix_sgn (T.1 p) hb
        have e3 : nI (nbA T p) = σ.1.2.2.2.2 := by rw [k3, h3]; rfl
        have l : lsK (T.1 p) (bt T (p + 1)) < 1000 := by
          have := lsK_r (T.1 p) (bt T (p + 1))
          omega
        have hq2 : ∀ z : Nat, (lnA T p = z) → post (nI (kdA T p)) ((σ.1.1, (σ.1.2.1, (σ.1.2.2.1, ((nI (p + z)), σ.1.2.2.2.2)))), σ.2) := by
          intro z hz
          have := hq (nI (p + lnA T p)) (fun _ _ => rfl)
          rw [hz, e3] at this
          exact this
        refine ⟨fun c => ?_, fun c => ?_⟩
        · have c : ¬ lsK (T.1 p) (bt T (p + 1)) = 1 := fun q => c (by rw [q]; rfl)
          rw [if_neg c] at k2
          have kk : kdA T p = lsK (T.1 p) (bt T (p + 1)) := by
            rw [k1]
            unfold sgK
            rw [if_neg c]
          intro y ey
          have ey : y = nI (p + 2) := by rw [ey]; exact nI_add p 2
          refine ⟨fun _ => ?_, fun q => absurd ((nI_eq (b := 1) (by omega) (by omega)).mp q) c⟩
          rw [ey, ← kk]
          exact hq2 2 k2
        · have c : lsK (T.1 p) (bt T (p + 1)) = 1 := (nI_eq (b := 1) (by omega) (by omega)).mp c
          rw [if_pos c] at k2
          intro y ey
          have ey : y = nI (p + 1) := by rw [ey]; exact nI_add p 1
          refine ⟨fun q => absurd (by rw [c]; rfl) q, fun _ => ⟨hix.1, hix.2.1, fun q => ?_, fun q => ?_⟩⟩
          · have kk : kdA T p = 1 := by
              rw [k1]
              unfold sgK
              rw [if_pos c, hix.2.2.mp q]
              rfl
            have := hq2 1 k2
            rw [kk] at this
            rw [ey, c]
            exact this
          · have kk : kdA T p = T.1 p := by
              rw [k1]
              unfold sgK
              have : sgn (T.1 p) = true := by
                cases e : sgn (T.1 p)
                · exact absurd (hix.2.2.mpr e) q
                · rfl
              rw [if_pos c, if_pos this]
            have := hq2 1 k2
            rw [kk] at this
            rw [ey]
            exact this
      · have cd := ne0_t cd
        obtain ⟨k1, k2⟩ := kdA_dig hlt cd
        have hd := dgE_le hp
        have hg := dgE_gt hlt cd
        rw [h1]
        refine c_afterDigits h (by omega) (c_readNumber h rfl rfl hg hd.2 (fun j j1 j2 => (pb_iff.mp (scan_all _ _ _ j j1 j2)).2) ?_)
        show if numOk T p (dgE T p) = true then _ else _
        have := hq (nI (p + lnA T p)) (fun _ _ => rfl)
        rw [k2, show p + (dgE T p - p) = dgE T p by omega] at this
        unfold nbA at this
        rw [k1, k2] at this
        split
        · rename_i ok
          rw [if_pos ok, if_pos rfl, h1] at this
          exact this
        · rename_i ok
          rw [if_neg ok, if_neg (by decide), h1] at this
          have e3 : nI 0 = σ.1.2.2.2.2 := by rw [h3]; rfl
          rw [e3] at this
          exact this
    · have cl := ne0_t cl
      obtain ⟨k1, k2, k3⟩ := kdA_let hlt cl
      have hd := nmE_le hp
      rw [h1]
      refine c_afterName h (by omega) ?_
      have em : nI (scan (pb isNm T) (T.2 - p) p) - nI p = nI (nmE T p - p) := pk_sub hd.1
      rw [em]
      have e3 : nI (nbA T p) = σ.1.2.2.2.2 := by rw [k3, h3]; rfl
      have hq2 := hq (nI (p + lnA T p)) (fun _ _ => rfl)
      rw [k2, show p + (nmE T p - p) = nmE T p by omega, e3, k1, h1] at hq2
      refine ⟨fun c => c_wordOrName h rfl rfl hd.1 (Nat.lt_of_le_of_lt hd.2 (by omega)) ?_, fun c => ?_⟩
      · have c := (nI_leI (b := 10) (by omega) (by omega)).mp c
        rw [if_pos c] at hq2
        exact hq2
      · rw [if_neg (fun q => c (nI_le (b := 10) q (by omega)))] at hq2
        exact hq2
  · have ec : ct T p = -1 := if_neg hlt
    obtain ⟨k1, k2, k3⟩ := kdA_end hlt
    refine ⟨fun c => absurd ec c, fun _ => ?_⟩
    have := hq σ.1.2.2.2.1 (fun q => absurd k1 q)
    have e3 : nI (nbA T p) = σ.1.2.2.2.2 := by rw [k3, h3]; rfl
    rw [e3, k1] at this
    exact this
/-! the reference's tokens -/
theorem m_sign {τ : SX12} {c : Nat} {post : Int32 → SX12 → Prop} (hc : c < 256) : ∀ (m i : Nat), i + m = 19 → post (nI (if (sgL.drop i).contains c then c else 11)) τ → wp_X12_tokenAt_314 post (m + 1) τ (nI c) (nI i) := by
  have hs : ∀ i : Fin 19, aw_ch 7 (nI i.1) = nI (sgL.getD i.1 0) ∧ sgL.getD i.1 0 < 256 := by decide +kernel
  have hl : aw_lenS.getD 7 0 = 19 := by decide
  intro m
  induction m with
  | zero =>
    intro i hi hq
    show wb_X12_tokenAt_314 post _ τ (nI c) (nI i)
    have : i = 19 := by omega
    subst this
    refine ⟨fun _ => hq, fun q => absurd ?_ q⟩
    rw [hl]
    exact Int32.le_refl _
  | succ m ih =>
    intro i hi hq
    show wb_X12_tokenAt_314 post _ τ (nI c) (nI i)
    obtain ⟨e1, e2⟩ := hs ⟨i, by omega⟩
    have e1 : aw_ch 7 (nI i) = nI (sgL.getD i 0) := e1
    have e2 : sgL.getD i 0 < 256 := e2
    have hd : sgL.drop i = sgL.getD i 0 :: sgL.drop (i + 1) := by
      have : ∀ i : Fin 19, sgL.drop i.1 = sgL.getD i.1 0 :: sgL.drop (i.1 + 1) := by decide
      exact this ⟨i, by omega⟩
    rw [hd, List.contains_cons] at hq
    refine ⟨fun q => absurd q ?_, fun _ => ⟨?_, fun q => ?_, fun q => ?_⟩⟩
    · rw [hl]
      exact nI_ge (by omega) (by omega)
    · rw [hl]
      exact in_k (by omega) (by omega)
    · rw [e1, nI_eq (by omega) (by omega)] at q
      have : (c == sgL.getD i 0) = false := by
        rw [beq_eq_false_iff_ne]
        exact fun x => q x.symm
      rw [this, Bool.false_or] at hq
      have := ih (i + 1) (by omega) hq
      rw [← nI_1] at this
      exact this
    · rw [e1, nI_eq (by omega) (by omega)] at q
      have : (c == sgL.getD i 0) = true := by
        rw [beq_iff_eq]
        exact q.symm
      rw [this, Bool.true_or, if_pos rfl] at hq
      exact hq
end Tok2
