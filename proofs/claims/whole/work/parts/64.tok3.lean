section Tok3
theorem nmE_end (T : TX) {p : Nat} (hp : p ≤ T.2) : pb isNm T (nmE T p) = false := scan_end _ _ _ (fun j hj => pb_out (by omega))
theorem dgE_end (T : TX) {p : Nat} (hp : p ≤ T.2) : pb isDig T (dgE T p) = false := scan_end _ _ _ (fun j hj => pb_out (by omega))
theorem pb_nm {T : TX} {k : Nat} : pb isNm T k = (pb isLet T k || pb isDig T k) := by
  by_cases hk : k < T.2
  · rw [pb_in hk, pb_in hk, pb_in hk]
    rfl
  · rw [pb_out hk, pb_out hk, pb_out hk]
    rfl
theorem m_let {τ : SX12} {T : TX} {t p : Nat} {post : Int32 → SX12 → Prop} (h : TM τ T) (ht : t < 3002) (hp : p ≤ T.2)
    (hq : post (nI (kM (if nmE T p - p ≤ 10 then wK T p (nmE T p - p) else 1))) ((((τ.1.1.1.1, (τ.1.1.1.2.1, (τ.1.1.1.2.2.1, (upd τ.1.1.1.2.2.2 t (nI (nmE T p - p)))))), τ.1.1.2), τ.1.2), τ.2)) : ∀ (m i : Nat), p + i + m = nmE T p → wp_X12_tokenAt_43 post (m + 1) τ (nI t) (nI p) (nI i) := by
  have hn := h.2.1
  have hd := nmE_le hp
  intro m
  induction m with
  | zero =>
    intro i hi
    show wb_X12_tokenAt_43 post _ τ (nI t) (nI p) (nI i)
    unfold wb_X12_tokenAt_43
    rw [nI_add]
    have hend := nmE_end T hp
    rw [← hi, show p + i + 0 = p + i from rfl, pb_nm, Bool.or_eq_false_iff] at hend
    refine m_byteAt h (by omega) (m_isLetterT h ⟨fun c => absurd (bi_f hend.1) c, fun _ => m_byteAt h (by omega) (m_isDigitT h ⟨fun _ => ⟨in_k ht (by omega), fun y ey => ?_⟩, fun c => absurd (bi_f hend.2) c⟩)⟩)
    have ei : nmE T p - p = i := by omega
    rw [ei] at hq
    rw [nI_clamp (by omega)] at ey
    rw [ey]
    refine ⟨fun c => m_wordOf h (by omega) ?_, fun c => ?_⟩
    · have c := (nI_leI (b := 10) (by omega) (by omega)).mp c
      rw [if_pos c] at hq
      exact hq
    · rw [if_neg (fun q => c (nI_le (b := 10) q (by omega)))] at hq
      exact hq
  | succ m ih =>
    intro i hi
    show wb_X12_tokenAt_43 post _ τ (nI t) (nI p) (nI i)
    unfold wb_X12_tokenAt_43
    rw [nI_add]
    have hin : pb isNm T (p + i) = true := scan_all (pb isNm T) (T.2 - p) p (p + i) (by omega) (by show p + i < nmE T p; omega)
    rw [pb_nm, Bool.or_eq_true] at hin
    have nx : wp_X12_tokenAt_71 (fun a => wp_X12_tokenAt_43 post (m + 1) a.1 a.2.1 a.2.2.1 a.2.2.2) post τ (nI t) (nI p) (nI i) := by
      have := ih (i + 1) (by omega)
      rw [← nI_1] at this
      exact this
    refine m_byteAt h (by omega) (m_isLetterT h ⟨fun _ => nx, fun c => m_byteAt h (by omega) (m_isDigitT h ⟨fun c2 => ?_, fun _ => nx⟩)⟩)
    have q1 := eq0_f c
    have q2 := eq0_f c2
    rcases hin with q | q
    · rw [q] at q1
      exact absurd q1 (by decide)
    · rw [q] at q2
      exact absurd q2 (by decide)
theorem m_dig {τ : SX12} {T : TX} {t p : Nat} {post : Int32 → SX12 → Prop} (h : TM τ T) (ht : t < 3002) (hp : p < T.2) (hg : p < dgE T p)
    (hq : post (nI (kM (if numOk T p (dgE T p) then 3 else 1))) ((((τ.1.1.1.1, (τ.1.1.1.2.1, (τ.1.1.1.2.2.1, (upd τ.1.1.1.2.2.2 t (nI (dgE T p - p)))))), τ.1.1.2), τ.1.2), τ.2)) : ∀ (m i a : Nat), p + i + m = dgE T p → (a = dv T p i ∨ (2147483647 < a ∧ 2147483647 < dv T p i)) → a ≤ 30000000009 → wp_X12_tokenAt_119 post (m + 1) τ (nI t) (nI p) (nI (T.1 p)) (nI i) (lN a) := by
  have hn := h.2.1
  have hd := dgE_le (T := T) (p := p) (by omega)
  have hb := (h.2.2 p hp).1
  have cs : ∀ (c : Int64) (n : Nat), c = lN n → True := fun _ _ _ => trivial
  intro m
  induction m with
  | zero =>
    intro i a hi ha hl
    show wb_X12_tokenAt_119 post _ τ (nI t) (nI p) (nI (T.1 p)) (nI i) (lN a)
    unfold wb_X12_tokenAt_119
    rw [nI_add]
    have hend := dgE_end T (p := p) (by omega)
    rw [← hi, show p + i + 0 = p + i from rfl] at hend
    have ei : dgE T p - p = i := by omega
    have ed : dgE T p = p + i := by omega
    refine m_byteAt h (by omega) (m_isDigitT h ⟨fun _ => ⟨in_k ht (by omega), fun y ey => ?_⟩, fun c => absurd (bi_f hend) c⟩)
    rw [nI_clamp (by omega)] at ey
    rw [ei] at hq
    rw [ey]
    have no : ¬ numOk T p (dgE T p) = true → post 11 ((((τ.1.1.1.1, (τ.1.1.1.2.1, (τ.1.1.1.2.2.1, (upd τ.1.1.1.2.2.2 t (nI i))))), τ.1.1.2), τ.1.2), τ.2) := by
      intro q
      rw [if_neg q] at hq
      exact hq
    have yes : numOk T p (dgE T p) = true → post 2 ((((τ.1.1.1.1, (τ.1.1.1.2.1, (τ.1.1.1.2.2.1, (upd τ.1.1.1.2.2.2 t (nI i))))), τ.1.1.2), τ.1.2), τ.2) := by
      intro q
      rw [if_pos q] at hq
      exact hq
    have okk : numOk T p (dgE T p) = (if dv T p i ≤ 2147483647 then (if T.1 p = 48 ∧ 1 < i then false else !(pb isLet T (p + i))) else false) := by
      unfold numOk
      rw [ei, ed]
    have e1 : (2147483647 : Int64) = lN 2147483647 := rfl
    have e48 : (48 : Int32) = nI 48 := rfl
    have l209 : pb isLet T (p + i) = false → ¬ (T.1 p = 48 ∧ 1 < i) → wp_X12_tokenAt_209 post ((((τ.1.1.1.1, (τ.1.1.1.2.1, (τ.1.1.1.2.2.1, (upd τ.1.1.1.2.2.2 t (nI i))))), τ.1.1.2), τ.1.2), τ.2) (lN a) := by
      intro q1 q2
      unfold wp_X12_tokenAt_209
      rw [e1, lg_cmp_le, pk_lLE (by omega) (by omega)]
      refine ⟨fun c => yes ?_, fun c => no ?_⟩
      · rw [okk, if_pos (by omega), if_neg q2, q1]
        rfl
      · rw [okk, if_neg (by omega)]
        decide
    refine m_byteAt (τ := ((((τ.1.1.1.1, (τ.1.1.1.2.1, (τ.1.1.1.2.2.1, (upd τ.1.1.1.2.2.2 t (nI i))))), τ.1.1.2), τ.1.2), τ.2)) (T := T) h (by omega) (m_isLetterT h ⟨fun c => no ?_, fun c => ?_⟩)
    · rw [okk, ne0_t c]
      split
      · split <;> decide
      · decide
    · have c := eq0_f c
      rw [e48, nI_eq (by omega) (by omega)]
      refine ⟨fun c2 => l209 c (fun q => c2 q.1), fun c2 => ⟨fun c3 => no ?_, fun c3 => l209 c (fun q => c3 (nI_lt (a := 1) q.2 (by omega)))⟩⟩
      have c3 := (nI_ltI (a := 1) (by omega) (by omega)).mp c3
      rw [okk, if_pos (c := T.1 p = 48 ∧ 1 < i) ⟨c2, c3⟩]
      split <;> decide
  | succ m ih =>
    intro i a hi ha hl
    show wb_X12_tokenAt_119 post _ τ (nI t) (nI p) (nI (T.1 p)) (nI i) (lN a)
    unfold wb_X12_tokenAt_119
    rw [nI_add]
    have hin : pb isDig T (p + i) = true := scan_all (pb isDig T) (T.2 - p) p (p + i) (by omega) (by show p + i < dgE T p; omega)
    have hin2 := pb_iff.mp hin
    have hc := isDig_iff.mp hin2.2
    refine m_byteAt h (by omega) (m_isDigitT h ⟨fun c => absurd ((bi_t hin).symm.trans c) (by decide), fun _ => ?_⟩)
    have e1 : (3000000000 : Int64) = lN 3000000000 := rfl
    have e48 : (48 : Int64) = lN 48 := rfl
    have e10 : (10 : Int64) = lN 10 := rfl
    have hdv : dv T p (i + 1) = dv T p i * 10 + (T.1 (p + i) - 48) := rfl
    rw [e1, lg_cmp_le, pk_lLE (by omega) (by omega)]
    refine ⟨fun c => m_byteAt h (by omega) ?_, fun c => ?_⟩
    · have eb : bt T (p + i) = T.1 (p + i) := if_pos hin2.1
      rw [eb, nI_l (by omega), e10, e48, lN_mul, lN_add, lN_sub (by omega)]
      have := ih (i + 1) (10 * a + T.1 (p + i) - 48) (by omega) (by omega) (by omega)
      rw [← nI_1] at this
      exact this
    · have := ih (i + 1) a (by omega) (by omega) hl
      rw [← nI_1] at this
      exact this
theorem m_tokenAt {τ : SX12} {T : TX} {t p : Nat} {post : Int32 → SX12 → Prop} (h : TM τ T) (ht : t < 3002) (hp : p ≤ T.2)
    (hq : post (nI (kM (kdA T p))) ((((τ.1.1.1.1, (τ.1.1.1.2.1, (τ.1.1.1.2.2.1, (upd τ.1.1.1.2.2.2 t (nI (lnA T p)))))), τ.1.1.2), τ.1.2), τ.2)) : wp_X12_tokenAt τ (nI t) (nI p) post := by
  have hn := h.2.1
  unfold wp_X12_tokenAt
  refine m_byteAt h (by omega) ?_
  show wp_X12_byteAt τ (nI p + nI 1) _
  rw [nI_add]
  refine m_byteAt h (by omega) ⟨in_k ht (by omega), fun y ey => ?_⟩
  rw [nI_clamp (by omega)] at ey ⊢
  rw [h.1]
  refine ⟨fun c => ?_, fun c => ?_⟩
  · have hlt := (nI_ltI (by omega) (by omega)).mp c
    have hb := (h.2.2 p hlt).1
    have eb : bt T p = T.1 p := if_pos hlt
    refine m_isLetterT h ?_
    rw [pb_in hlt]
    refine ⟨fun cl => m_isDigitT h ?_, fun cl => ?_⟩
    · have cl := eq0_f cl
      rw [pb_in hlt]
      refine ⟨fun cd => ⟨in_k ht (by omega), fun y2 ey2 => ?_⟩, fun cd y2 ey2 => ?_⟩
      · have cd := eq0_f cd
        obtain ⟨k1, k2, k3⟩ := kdA_sg hlt cl cd
        rw [k1, k2] at hq
        have ey2 : y2 = upd τ.1.1.1.2.2.2 t 2 := by rw [ey2, ey, upd_upd]
        rw [ey2, eb]
        have hb2 := bt_lt h (p + 1)
        have eq1 : ∀ b : Nat, b < 256 → (nI (T.1 p) = nI b ↔ T.1 p = b) := fun b hb => nI_eq (by omega) (by omega)
        have eq2 : ∀ b : Nat, b < 256 → (nI (bt T (p + 1)) = nI b ↔ bt T (p + 1) = b) := fun b hb => nI_eq (by omega) (by omega)
        have k60 : (nI (T.1 p) = (60 : Int32)) ↔ T.1 p = 60 := eq1 60 (by omega)
        have k61 : (nI (T.1 p) = (61 : Int32)) ↔ T.1 p = 61 := eq1 61 (by omega)
        have k62 : (nI (T.1 p) = (62 : Int32)) ↔ T.1 p = 62 := eq1 62 (by omega)
        have d60 : (nI (bt T (p + 1)) = (60 : Int32)) ↔ bt T (p + 1) = 60 := eq2 60 (by omega)
        have d61 : (nI (bt T (p + 1)) = (61 : Int32)) ↔ bt T (p + 1) = 61 := eq2 61 (by omega)
        have d62 : (nI (bt T (p + 1)) = (62 : Int32)) ↔ bt T (p + 1) = 62 := eq2 62 (by omega)
        have l300 : lsK (T.1 p) (bt T (p + 1)) = 1 → wp_X12_tokenAt_300 post ((((τ.1.1.1.1, (τ.1.1.1.2.1, (τ.1.1.1.2.2.1, (upd τ.1.1.1.2.2.2 t 2)))), τ.1.1.2), τ.1.2), τ.2) (nI t) (nI (T.1 p)) := by
          intro q
          unfold wp_X12_tokenAt_300
          refine ⟨in_k ht (by omega), fun z ez => ⟨20, m_sign hb 19 0 (by omega) ?_⟩⟩
          have ez : z = upd τ.1.1.1.2.2.2 t 1 := by
            rw [ez, nI_clamp (by omega)]
            exact upd_upd _ _ _ _
          rw [ez]
          rw [if_pos q] at hq
          have ek : nI (kM (sgK (T.1 p) (bt T (p + 1)))) = nI (if (sgL.drop 0).contains (T.1 p) then T.1 p else 11) := by
            unfold sgK
            rw [if_pos q]
            show nI (kM (if sgn (T.1 p) = true then T.1 p else 1)) = nI (if sgn (T.1 p) = true then T.1 p else 11)
            split
            · rename_i g
              have := sgn_r g
              unfold kM
              rw [if_neg (by omega), if_neg (by omega), if_neg (by omega), if_pos (by omega)]
            · rfl
          rw [ek] at hq
          exact hq
        have two : ∀ z : Nat, lsK (T.1 p) (bt T (p + 1)) = z → ¬ z = 1 → post (nI (kM z)) ((((τ.1.1.1.1, (τ.1.1.1.2.1, (τ.1.1.1.2.2.1, (upd τ.1.1.1.2.2.2 t 2)))), τ.1.1.2), τ.1.2), τ.2) := by
          intro z q q2
          unfold sgK at hq
          rw [q, if_neg q2, if_neg q2] at hq
          exact hq
        unfold wp_X12_tokenAt_249 wp_X12_tokenAt_266 wp_X12_tokenAt_283
        simp only [k60, k61, k62, d60, d61, d62]
        by_cases a1 : T.1 p = 60
        · by_cases b1 : bt T (p + 1) = 61
          · have := two 128 (by unfold lsK; rw [a1, b1]; rfl) (by decide)
            simp only [a1, b1]
            simp
            exact this
          · by_cases b2 : bt T (p + 1) = 60
            · have := two 130 (by unfold lsK; rw [a1, b2]; rfl) (by decide)
              simp only [a1, b2]
              simp
              exact this
            · have := l300 (by unfold lsK; rw [a1]; simp [b1, b2])
              rw [a1] at this
              simp only [a1, b1, b2]
              simp
              exact this
        · by_cases a2 : T.1 p = 61
          · by_cases b1 : bt T (p + 1) = 61
            · have := two 129 (by unfold lsK; rw [a2, b1]; rfl) (by decide)
              simp only [a2, b1]
              simp
              exact this
            · have := l300 (by unfold lsK; rw [a2]; simp [b1])
              rw [a2] at this
              simp only [a2, b1]
              simp
              exact this
          · by_cases a3 : T.1 p = 62
            · by_cases b1 : bt T (p + 1) = 62
              · have := two 131 (by unfold lsK; rw [a3, b1]; rfl) (by decide)
                simp only [a3, b1]
                simp
                exact this
              · have := l300 (by unfold lsK; rw [a3]; simp [b1])
                rw [a3] at this
                simp only [a3, b1]
                simp
                exact this
            · have := l300 (by unfold lsK; simp [a1, a2, a3])
              simp [a1, a2, a3]
              exact this
      · have cd := ne0_t cd
        obtain ⟨k1, k2⟩ := kdA_dig hlt cd
        rw [k1, k2] at hq
        have hc := isDig_iff.mp cd
        have hg := dgE_gt hlt cd
        have e48 : (48 : Int32) = nI 48 := rfl
        have ey2 : y2 = lN (dv T p 1) := by
          rw [ey2, eb, e48, pk_sub (by omega), nI_l (by omega)]
          show lN (T.1 p - 48) = lN (0 * 10 + (T.1 (p + 0) - 48))
          rw [Nat.zero_mul, Nat.zero_add]
          rfl
        have hd1 : dv T p 1 ≤ 9 := by
          show 0 * 10 + (T.1 (p + 0) - 48) ≤ 9
          rw [show p + 0 = p from rfl]
          omega
        rw [ey2, eb, ey]
        refine ⟨_, m_dig (τ := ((((τ.1.1.1.1, (τ.1.1.1.2.1, (τ.1.1.1.2.2.1, (upd τ.1.1.1.2.2.2 t 0)))), τ.1.1.2), τ.1.2), τ.2)) h ht hlt hg ?_ (dgE T p - p - 1) 1 _ (by omega) (Or.inl rfl) (by omega)⟩
        show post _ ((((τ.1.1.1.1, (τ.1.1.1.2.1, (τ.1.1.1.2.2.1, (upd (upd τ.1.1.1.2.2.2 t 0) t (nI (dgE T p - p)))))), τ.1.1.2), τ.1.2), τ.2)
        rw [upd_upd]
        exact hq
    · have cl := ne0_t cl
      obtain ⟨k1, k2, k3⟩ := kdA_let hlt cl
      have hg := nmE_gt hlt cl
      rw [k1, k2] at hq
      rw [ey]
      refine ⟨_, m_let (τ := ((((τ.1.1.1.1, (τ.1.1.1.2.1, (τ.1.1.1.2.2.1, (upd τ.1.1.1.2.2.2 t 0)))), τ.1.1.2), τ.1.2), τ.2)) h ht hp ?_ (nmE T p - p - 1) 1 (by omega)⟩
      show post _ ((((τ.1.1.1.1, (τ.1.1.1.2.1, (τ.1.1.1.2.2.1, (upd (upd τ.1.1.1.2.2.2 t 0) t (nI (nmE T p - p)))))), τ.1.1.2), τ.1.2), τ.2)
      rw [upd_upd]
      exact hq
  · have hlt : ¬ p < T.2 := fun q => c (nI_lt q (by omega))
    obtain ⟨k1, k2, k3⟩ := kdA_end hlt
    rw [k1, k2] at hq
    rw [ey]
    exact hq
end Tok3
