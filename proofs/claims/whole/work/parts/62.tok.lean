section Tok
theorem upd_upd (f : Nat → Int32) (k : Nat) (a b : Int32) : upd (upd f k a) k b = upd f k b := by
  funext j
  simp only [upd]
  split <;> rfl
def eqF (k : Nat) (T : TX) (p : Nat) : Nat → Nat → Bool
  | 0, _ => true
  | m + 1, i => if ct T (p + i) = aw_ch k (nI i) then eqF k T p m (i + 1) else false
def eqW (k : Nat) (T : TX) (p len : Nat) : Bool := if len = (aw_lenS.getD k 0) then eqF k T p (aw_lenS.getD k 0) 0 else false
def wK (T : TX) (p len : Nat) : Nat := if eqW 0 T p len then 4 else if eqW 1 T p len then 5 else if eqW 2 T p len then 6 else if eqW 3 T p len then 7 else if eqW 4 T p len then 8 else if eqW 5 T p len then 9 else if eqW 6 T p len then 10 else 2
/-- the reference's number of a kind -/
def kM (k : Nat) : Nat := if k = 0 then 10 else if k = 1 then 11 else if k ≤ 10 then k - 1 else if k < 128 then k else k + 72
theorem wL_lt {k : Nat} (h : k < 8) : (aw_lenS.getD k 0) < 20 := by
  have : ∀ k : Fin 8, (aw_lenS.getD k.1 0) < 20 := by decide
  exact this ⟨k, h⟩
theorem ne0_t {b : Bool} (h : ¬ bi b = 0) : b = true := by
  cases b
  · exact absurd rfl h
  · rfl
theorem eq0_f {b : Bool} (h : bi b = 0) : b = false := by
  cases b
  · rfl
  · exact absurd h (by decide)
theorem c_isText15 {t : SX8} {T : TX} {k p : Nat} {post : Int32 → SX8 → Prop} (h : TC t T) (hk : k < 8) (hp : p < 10000) : ∀ (m i : Nat), i + m = (aw_lenS.getD k 0) → post (bi (eqF k T p m i)) t → wp_X8_isText_15 post (m + 1) t (nI p) k (nI i) := by
  have hw := wL_lt hk
  intro m
  induction m with
  | zero =>
    intro i hi hq
    show wb_X8_isText_15 post _ t (nI p) k (nI i)
    exact ⟨hk, fun _ => hq, fun c => absurd (nI_le (by omega) (by omega)) c⟩
  | succ m ih =>
    intro i hi hq
    show wb_X8_isText_15 post _ t (nI p) k (nI i)
    refine ⟨hk, fun c => absurd c (nI_ge (by omega) (by omega)), fun _ => ?_⟩
    show wp_X8_at t (nI p + nI i) _
    rw [nI_add]
    refine c_at h (by omega) ⟨hk, in_k (by omega) (by omega), fun c => ?_, fun c => ?_⟩
    · unfold eqF at hq
      rw [if_pos c] at hq
      have := ih (i + 1) (by omega) hq
      rw [← nI_1] at this
      exact this
    · unfold eqF at hq
      rw [if_neg c] at hq
      exact hq
theorem c_isText {t : SX8} {T : TX} {k p e : Nat} {post : Int32 → SX8 → Prop} (h : TC t T) (hk : k < 8) (hpe : p ≤ e) (he : e < 10000) (hq : post (bi (eqW k T p (e - p))) t) : wp_X8_isText t (nI p) (nI e) k post := by
  have hw := wL_lt hk
  refine ⟨hk, ?_⟩
  rw [pk_sub hpe]
  unfold eqW at hq
  refine ⟨fun c => ?_, fun c => ?_⟩
  · have c := (nI_eq (by omega) (by omega)).mp c
    rw [if_pos c] at hq
    exact ⟨_, c_isText15 h hk (by omega) (aw_lenS.getD k 0) 0 (by omega) hq⟩
  · rw [if_neg (fun q => c (by rw [q]))] at hq
    exact hq
theorem ct_bt {T : TX} {k : Nat} (h : k < T.2) : ct T k = nI (bt T k) := by
  unfold ct bt
  rw [if_pos h, if_pos h]
theorem m_is18 {τ : SX12} {T : TX} {k p : Nat} {post : Int32 → SX12 → Prop} (h : TM τ T) (hk : k < 8) (hp : p + (aw_lenS.getD k 0) ≤ T.2) : ∀ (m i : Nat), i + m = (aw_lenS.getD k 0) → post (bi (eqF k T p m i)) τ → wp_X12_is_18 post (m + 2) τ (nI p) (nI (aw_lenS.getD k 0)) k 1 (nI i) := by
  have hw := wL_lt hk
  have hn := h.2.1
  intro m
  induction m with
  | zero =>
    intro i hi hq
    show wb_X12_is_18 post _ τ (nI p) (nI (aw_lenS.getD k 0)) k 1 (nI i)
    exact ⟨fun _ => ⟨bz1, hq⟩, fun c => absurd (nI_le (by omega) (by omega)) c⟩
  | succ m ih =>
    intro i hi hq
    show wb_X12_is_18 post _ τ (nI p) (nI (aw_lenS.getD k 0)) k 1 (nI i)
    refine ⟨fun c => absurd c (nI_ge (by omega) (by omega)), fun _ => ⟨fun c => absurd c (by decide), fun _ => ?_⟩⟩
    show wp_X12_byteAt τ (nI p + nI i) _
    rw [nI_add]
    refine m_byteAt h (by omega) ⟨hk, in_k (by omega) (by omega), fun c => ?_, fun c => ?_⟩
    · rw [← ct_bt (by omega)] at c
      unfold eqF at hq
      rw [if_neg c] at hq
      show wb_X12_is_18 post _ τ (nI p) (nI (aw_lenS.getD k 0)) k 0 (nI i + 1)
      exact ⟨fun _ => ⟨bz0, hq⟩, fun _ => ⟨fun _ => ⟨bz0, hq⟩, fun c => absurd rfl c⟩⟩
    · rw [← ct_bt (by omega)] at c
      unfold eqF at hq
      rw [if_pos c] at hq
      have := ih (i + 1) (by omega) hq
      rw [← nI_1] at this
      exact this
theorem m_is {τ : SX12} {T : TX} {k p len : Nat} {post : Int32 → SX12 → Prop} (h : TM τ T) (hk : k < 8) (hp : p + len ≤ T.2) (hq : post (bi (eqW k T p len)) τ) : wp_X12_is τ (nI p) (nI len) k post := by
  have hw := wL_lt hk
  have hn := h.2.1
  refine ⟨hk, fun c => ⟨1, ?_⟩, fun c => ?_⟩
  · unfold eqW at hq
    rw [if_neg (fun q => c (by rw [q]))] at hq
    show wb_X12_is_18 post _ τ (nI p) (nI len) k 0 0
    exact ⟨fun _ => ⟨bz0, hq⟩, fun _ => ⟨fun _ => ⟨bz0, hq⟩, fun c => absurd rfl c⟩⟩
  · have c := (nI_eq (by omega) (by omega)).mp c
    unfold eqW at hq
    rw [if_pos c] at hq
    rw [c] at hp ⊢
    exact ⟨_, m_is18 h hk hp (aw_lenS.getD k 0) 0 (by omega) hq⟩
theorem c_isWord {σ : WSX9} {T : TX} {k p e : Nat} {post : Int32 → WSX9 → Prop} (h : TC σ.2 T) (h1 : σ.1.2.2.1 = nI p) (h2 : σ.1.2.2.2.1 = nI e) (hk : k < 8) (hpe : p ≤ e) (he : e < 10000) (hq : post (bi (eqW k T p (e - p))) σ) : wp_X9_isWord σ k post := by
  unfold wp_X9_isWord
  rw [h1, h2]
  exact c_isText h hk hpe he ⟨bi_z _, hq⟩
theorem c_wordOrName {σ : WSX9} {T : TX} {p e : Nat} {post : Int32 → WSX9 → Prop} (h : TC σ.2 T) (h1 : σ.1.2.2.1 = nI p) (h2 : σ.1.2.2.2.1 = nI e) (hpe : p ≤ e) (he : e < 10000) (hq : post (nI (wK T p (e - p))) σ) : wp_X9_wordOrName σ post := by
  unfold wK at hq
  refine c_isWord h h1 h2 (by omega) hpe he ⟨fun c => ?_, fun c => ?_⟩
  · rw [eq0_f c] at hq
    refine c_isWord h h1 h2 (by omega) hpe he ⟨fun c => ?_, fun c => ?_⟩
    · rw [eq0_f c] at hq
      refine c_isWord h h1 h2 (by omega) hpe he ⟨fun c => ?_, fun c => ?_⟩
      · rw [eq0_f c] at hq
        refine c_isWord h h1 h2 (by omega) hpe he ⟨fun c => ?_, fun c => ?_⟩
        · rw [eq0_f c] at hq
          refine c_isWord h h1 h2 (by omega) hpe he ⟨fun c => ?_, fun c => ?_⟩
          · rw [eq0_f c] at hq
            refine c_isWord h h1 h2 (by omega) hpe he ⟨fun c => ?_, fun c => ?_⟩
            · rw [eq0_f c] at hq
              refine c_isWord h h1 h2 (by omega) hpe he ⟨fun c => ?_, fun c => ?_⟩
              · rw [eq0_f c] at hq
                exact hq
              · rw [ne0_t c] at hq
                exact hq
            · rw [ne0_t c] at hq
              exact hq
          · rw [ne0_t c] at hq
            exact hq
        · rw [ne0_t c] at hq
          exact hq
      · rw [ne0_t c] at hq
        exact hq
    · rw [ne0_t c] at hq
      exact hq
  · rw [ne0_t c] at hq
    exact hq
theorem m_wordOf {τ : SX12} {T : TX} {p len : Nat} {post : Int32 → SX12 → Prop} (h : TM τ T) (hp : p + len ≤ T.2) (hq : post (nI (kM (wK T p len))) τ) : wp_X12_wordOf τ (nI p) (nI len) post := by
  unfold wK at hq
  refine m_is h (by omega) hp ⟨fun c => ?_, fun c => ?_⟩
  · rw [eq0_f c] at hq
    refine m_is h (by omega) hp ⟨fun c => ?_, fun c => ?_⟩
    · rw [eq0_f c] at hq
      refine m_is h (by omega) hp ⟨fun c => ?_, fun c => ?_⟩
      · rw [eq0_f c] at hq
        refine m_is h (by omega) hp ⟨fun c => ?_, fun c => ?_⟩
        · rw [eq0_f c] at hq
          refine m_is h (by omega) hp ⟨fun c => ?_, fun c => ?_⟩
          · rw [eq0_f c] at hq
            refine m_is h (by omega) hp ⟨fun c => ?_, fun c => ?_⟩
            · rw [eq0_f c] at hq
              refine m_is h (by omega) hp ⟨fun c => ?_, fun c => ?_⟩
              · rw [eq0_f c] at hq
                exact hq
              · rw [ne0_t c] at hq
                exact hq
            · rw [ne0_t c] at hq
              exact hq
          · rw [ne0_t c] at hq
            exact hq
        · rw [ne0_t c] at hq
          exact hq
      · rw [ne0_t c] at hq
        exact hq
    · rw [ne0_t c] at hq
      exact hq
  · rw [ne0_t c] at hq
    exact hq
/-! numbers -/
def dv (T : TX) (p : Nat) : Nat → Nat
  | 0 => 0
  | i + 1 => dv T p i * 10 + (T.1 (p + i) - 48)
def numOk (T : TX) (p e : Nat) : Bool := if dv T p (e - p) ≤ 2147483647 then (if T.1 p = 48 ∧ 1 < e - p then false else !(pb isLet T e)) else false
theorem c_rn80 {σ : WSX9} {T : TX} {s e : Nat} {z : Int32} {post : Int32 → WSX9 → Prop} (h : TC σ.2 T) (hs : s ≤ 2147483648) (h2 : σ.1.2.2.2.1 = nI e) (he : e < 10000)
    (hN : 2147483647 < s ∨ ¬ z = 0 ∨ pb isLet T e = true → post 1 σ) (hY : s ≤ 2147483647 → z = 0 → pb isLet T e = false → post 3 ((σ.1.1, (σ.1.2.1, (σ.1.2.2.1, (σ.1.2.2.2.1, (nI s))))), σ.2)) : wp_X9_readNumber_80 post σ (lN s) z := by
  have e1 : (2147483647 : Int64) = lN 2147483647 := rfl
  unfold wp_X9_readNumber_80
  rw [e1, lg_cmp_gt, pk_lLT (by omega) (by omega)]
  refine ⟨fun c => hN (Or.inl c), fun c => ⟨fun c2 => hN (Or.inr (Or.inl c2)), fun c2 => ?_⟩⟩
  rw [h2]
  refine c_at h (by omega) (c_isLetterT h ⟨fun c3 y ey => ?_, fun c3 => hN (Or.inr (Or.inr (ne0_t c3)))⟩)
  have := hY (by omega) c2 (eq0_f c3)
  rw [ey, lN_i, ← h2]
  exact this
theorem c_rn7 {σ : WSX9} {T : TX} {p e : Nat} {post : Int32 → WSX9 → Prop} (h : TC σ.2 T) (h1 : σ.1.2.2.1 = nI p) (h2 : σ.1.2.2.2.1 = nI e) (hpe : p < e) (he : e ≤ T.2) (hd : ∀ j, p ≤ j → j < e → isDig (T.1 j) = true)
    (hp : if numOk T p e then post 3 ((σ.1.1, (σ.1.2.1, (σ.1.2.2.1, (σ.1.2.2.2.1, (nI (dv T p (e - p))))))), σ.2) else post 1 σ) : ∀ (m i : Nat), p + i + m = e → wp_X9_readNumber_7 post (m + 1) σ (lN (min (dv T p i) 2147483648)) (nI (p + i)) := by
  have hn := h.2.1
  have e48 : (48 : Int32) = nI 48 := rfl
  intro m
  induction m with
  | zero =>
    intro i hi
    have ei : i = e - p := by omega
    show wb_X9_readNumber_7 post _ σ (lN (min (dv T p i) 2147483648)) (nI (p + i))
    refine ⟨fun _ => ?_, fun c => absurd (by rw [h2]; exact nI_le (by omega) (by omega)) c⟩
    rw [h1]
    refine c_at h (by omega) ?_
    have hlt : p < T.2 := by omega
    have ec : ct T p = nI (T.1 p) := if_pos hlt
    have hb := (h.2.2 p hlt).1
    have f80 : ∀ z : Int32, (z = 0 ↔ ¬ (T.1 p = 48 ∧ 1 < e - p)) → wp_X9_readNumber_80 post σ (lN (min (dv T p i) 2147483648)) z := by
      intro z hz
      refine c_rn80 h (Nat.min_le_right _ _) h2 (by omega) (fun q => ?_) (fun q1 q2 q3 => ?_)
      · have hno : ¬ numOk T p e = true := by
          intro ok
          unfold numOk at ok
          rw [← ei] at ok
          split at ok
          · split at ok
            · exact absurd ok (by decide)
            · rename_i g1 g2
              rcases q with q | q | q
              · omega
              · exact q (hz.mpr (by rw [← ei]; exact g2))
              · rw [q] at ok
                exact absurd ok (by decide)
          · exact absurd ok (by decide)
        rw [if_neg hno] at hp
        exact hp
      · have hok : numOk T p e = true := by
          unfold numOk
          rw [← ei, if_pos (by omega), if_neg (by rw [ei]; exact hz.mp q2), q3]
          rfl
        rw [if_pos hok] at hp
        have em : min (dv T p i) 2147483648 = dv T p (e - p) := by rw [← ei]; omega
        rw [em]
        exact hp
    rw [ec, e48, h2, pk_sub (by omega), nI_eq (by omega) (by omega)]
    refine ⟨fun c => f80 0 ⟨fun _ q => c q.1, fun _ => rfl⟩, fun c => ⟨fun c2 => f80 0 ⟨fun _ q => ?_, fun _ => rfl⟩, fun c2 => f80 1 ⟨fun q => absurd q (by decide), fun q => absurd ⟨c, ?_⟩ q⟩⟩⟩
    · have := (nI_leI (b := 1) (by omega) (by omega)).mp c2
      omega
    · exact Nat.not_le.mp fun q => c2 (nI_le (b := 1) q (by omega))
  | succ m ih =>
    intro i hi
    show wb_X9_readNumber_7 post _ σ (lN (min (dv T p i) 2147483648)) (nI (p + i))
    refine ⟨fun c => absurd c (by rw [h2]; exact nI_ge (by omega) (by omega)), fun _ => c_at h (by omega) (fun y ey => ?_)⟩
    have hlt : p + i < T.2 := by omega
    have ec : ct T (p + i) = nI (T.1 (p + i)) := if_pos hlt
    have hb := isDig_iff.mp (hd (p + i) (by omega) (by omega))
    have ey : y = lN (min (dv T p (i + 1)) 2147483648) := by
      have e1 : (nI (T.1 (p + i)) - 48).toInt64 = lN (T.1 (p + i) - 48) := by
        rw [e48, pk_sub (by omega), nI_l (by omega)]
      have e2 : lN (min (dv T p i) 2147483648) * 10 = lN (min (dv T p i) 2147483648 * 10) := lN_mul _ 10
      have e3 : (2147483648 : Int64) = lN 2147483648 := rfl
      have ey2 : y = if lN 2147483648 < lN (min (dv T p i) 2147483648) * 10 + (ct T (p + i) - 48).toInt64 then lN 2147483648 else lN (min (dv T p i) 2147483648) * 10 + (ct T (p + i) - 48).toInt64 := ey
      rw [ec, e1, e2, lN_add] at ey2
      have hm : dv T p (i + 1) = dv T p i * 10 + (T.1 (p + i) - 48) := rfl
      rw [ey2]
      split
      · rename_i q
        have q := (pk_lLT (by omega) (by omega)).mp q
        congr 1
        omega
      · rename_i q
        have q : ¬ 2147483648 < min (dv T p i) 2147483648 * 10 + (T.1 (p + i) - 48) := fun q2 => q ((pk_lLT (by omega) (by omega)).mpr q2)
        congr 1
        omega
    rw [ey]
    have := ih (i + 1) (by omega)
    rw [show p + (i + 1) = p + i + 1 by omega, ← nI_1] at this
    exact this
theorem c_readNumber {σ : WSX9} {T : TX} {p e : Nat} {post : Int32 → WSX9 → Prop} (h : TC σ.2 T) (h1 : σ.1.2.2.1 = nI p) (h2 : σ.1.2.2.2.1 = nI e) (hpe : p < e) (he : e ≤ T.2) (hd : ∀ j, p ≤ j → j < e → isDig (T.1 j) = true)
    (hp : if numOk T p e then post 3 ((σ.1.1, (σ.1.2.1, (σ.1.2.2.1, (σ.1.2.2.2.1, (nI (dv T p (e - p))))))), σ.2) else post 1 σ) : wp_X9_readNumber σ post := by
  have := c_rn7 h h1 h2 hpe he hd hp (e - p) 0 (by omega)
  rw [show p + 0 = p from rfl] at this
  unfold wp_X9_readNumber
  rw [h1]
  exact ⟨_, this⟩
/-! signs -/
def sgL : List Nat := [40, 41, 91, 93, 123, 125, 59, 61, 43, 45, 42, 47, 37, 38, 124, 94, 126, 33, 60]
def sgn (c : Nat) : Bool := sgL.contains c
def lsK (c d : Nat) : Nat := if c = 60 ∧ d = 61 then 128 else if c = 60 ∧ d = 60 then 130 else if c = 61 ∧ d = 61 then 129 else if c = 62 ∧ d = 62 then 131 else 1
theorem ct_eq {t : SX8} {T : TX} (h : TC t T) {k c : Nat} (h0 : 0 < c) (hc : c < 256) : ct T k = nI c ↔ bt T k = c := by
  rcases ct_cases h k with ⟨hk, hb, e⟩ | ⟨hk, e⟩
  · rw [e]
    unfold bt
    rw [if_pos hk, nI_eq (by omega) (by omega)]
  · rw [e]
    unfold bt
    rw [if_neg hk]
    constructor
    · intro q
      have : (nI c).toInt = -1 := by rw [← q]; decide
      rw [nI_toInt (by omega)] at this
      omega
    · intro q
      omega
theorem c_longSign {c : Nat} {d : Int32} {d' : Nat} {post : Int32 → Unit → Prop} (hc : c < 256) (hd : ∀ x : Nat, 0 < x → x < 256 → (d = nI x ↔ d' = x)) (hp : post (nI (lsK c d')) ()) : wp_X9_longSign (nI c) d post := by
  have eq : ∀ b : Nat, b < 256 → (nI c = nI b ↔ c = b) := fun b hb => nI_eq (by omega) (by omega)
  have k60 : (nI c = (60 : Int32)) ↔ c = 60 := eq 60 (by omega)
  have k61 : (nI c = (61 : Int32)) ↔ c = 61 := eq 61 (by omega)
  have k62 : (nI c = (62 : Int32)) ↔ c = 62 := eq 62 (by omega)
  have d60 : (d = (60 : Int32)) ↔ d' = 60 := hd 60 (by omega) (by omega)
  have d61 : (d = (61 : Int32)) ↔ d' = 61 := hd 61 (by omega) (by omega)
  have d62 : (d = (62 : Int32)) ↔ d' = 62 := hd 62 (by omega) (by omega)
  unfold lsK at hp
  unfold wp_X9_longSign wp_X9_longSign_16 wp_X9_longSign_32 wp_X9_longSign_48
  simp only [k60, k61, k62, d60, d61, d62]
  by_cases a1 : c = 60
  · subst a1
    by_cases b1 : d' = 61
    · subst b1
      simp at hp ⊢
      exact hp
    · by_cases b2 : d' = 60
      · subst b2
        simp at hp ⊢
        exact hp
      · simp [b1, b2] at hp ⊢
        exact hp
  · by_cases a2 : c = 61
    · subst a2
      by_cases b1 : d' = 61
      · subst b1
        simp at hp ⊢
        exact hp
      · simp [b1] at hp ⊢
        exact hp
    · by_cases a3 : c = 62
      · subst a3
        by_cases b1 : d' = 62
        · subst b1
          simp at hp ⊢
          exact hp
        · simp [b1] at hp ⊢
          exact hp
      · simp [a1, a2, a3] at hp ⊢
        exact hp
theorem ix_sgn (c : Nat) (hc : c < 256) : ¬ ((nI c).toUInt32 % 65536).toInt32 < 0 ∧ ¬ 255 < ((nI c).toUInt32 % 65536).toInt32 ∧ ((aw_ixF 7 (((nI c).toUInt32 % 65536).toInt32).toInt8.toInt32 (aw_lenS.getD 7 0) 0) < 0 ↔ sgn c = false) := by
  have : ∀ c : Fin 256, ¬ ((nI c.1).toUInt32 % 65536).toInt32 < 0 ∧ ¬ 255 < ((nI c.1).toUInt32 % 65536).toInt32 ∧ ((aw_ixF 7 (((nI c.1).toUInt32 % 65536).toInt32).toInt8.toInt32 (aw_lenS.getD 7 0) 0) < 0 ↔ sgn c.1 = false) := by decide +kernel
  exact this ⟨c, hc⟩
end Tok
