section Lex
/-! the text: what both read -/
abbrev TX : Type := (Nat → Nat) × Nat
def isLet (c : Nat) : Bool := (Nat.ble 97 c && Nat.ble c 122) || (Nat.ble 65 c && Nat.ble c 90)
def isDig (c : Nat) : Bool := Nat.ble 48 c && Nat.ble c 57
def isNm (c : Nat) : Bool := isLet c || isDig c
def isBl (c : Nat) : Bool := Nat.beq c 9 || Nat.beq c 10 || Nat.beq c 13 || Nat.beq c 32
theorem isLet_iff {c : Nat} : isLet c = true ↔ (97 ≤ c ∧ c ≤ 122) ∨ (65 ≤ c ∧ c ≤ 90) := by
  unfold isLet
  rw [Bool.or_eq_true, Bool.and_eq_true, Bool.and_eq_true, Nat.ble_eq, Nat.ble_eq, Nat.ble_eq, Nat.ble_eq]
theorem isDig_iff {c : Nat} : isDig c = true ↔ 48 ≤ c ∧ c ≤ 57 := by
  unfold isDig
  rw [Bool.and_eq_true, Nat.ble_eq, Nat.ble_eq]
theorem isBl_iff {c : Nat} : isBl c = true ↔ c = 9 ∨ c = 10 ∨ c = 13 ∨ c = 32 := by
  unfold isBl
  rw [Bool.or_eq_true, Bool.or_eq_true, Bool.or_eq_true, Nat.beq_eq, Nat.beq_eq, Nat.beq_eq, Nat.beq_eq]
  omega
theorem isNm_iff {c : Nat} : isNm c = true ↔ isLet c = true ∨ isDig c = true := by
  unfold isNm
  rw [Bool.or_eq_true]
def bi (b : Bool) : Int32 := cond b 1 0
theorem bi_t {b : Bool} (h : b = true) : bi b = 1 := by rw [h]; rfl
theorem bi_f {b : Bool} (h : b = false) : bi b = 0 := by rw [h]; rfl
theorem bi_z (b : Bool) : aw_bz (bi b) := by cases b <;> exact ⟨rfl, rfl⟩
def pb (p : Nat → Bool) (T : TX) (k : Nat) : Bool := Nat.blt k T.2 && p (T.1 k)
theorem pb_iff {p : Nat → Bool} {T : TX} {k : Nat} : pb p T k = true ↔ k < T.2 ∧ p (T.1 k) = true := by
  unfold pb
  rw [Bool.and_eq_true, Nat.blt_eq]
theorem pb_out {p : Nat → Bool} {T : TX} {k : Nat} (h : ¬ k < T.2) : pb p T k = false := by
  cases e : pb p T k
  · rfl
  · exact absurd (pb_iff.mp e).1 h
theorem pb_in {p : Nat → Bool} {T : TX} {k : Nat} (h : k < T.2) : pb p T k = p (T.1 k) := by
  unfold pb
  rw [show Nat.blt k T.2 = true from Nat.blt_eq.mpr h, Bool.true_and]
def ct (T : TX) (k : Nat) : Int32 := if k < T.2 then nI (T.1 k) else -1
def bt (T : TX) (k : Nat) : Nat := if k < T.2 then T.1 k else 0
def TC (t : SX8) (T : TX) : Prop := t.2 = nI T.2 ∧ T.2 ≤ 3000 ∧ ∀ k, k < T.2 → T.1 k < 256 ∧ t.1 k &&& 255 = nI (T.1 k)
def TM (τ : SX12) (T : TX) : Prop := τ.1.1.1.1.2.2 = nI T.2 ∧ T.2 ≤ 3000 ∧ ∀ k, k < T.2 → T.1 k < 256 ∧ τ.2.2.1.2.1 k = nI (T.1 k)
theorem c_at {t : SX8} {T : TX} {k : Nat} {post : Int32 → SX8 → Prop} (h : TC t T) (hk : k < 2 ^ 31) (hp : post (ct T k) t) : wp_X8_at t (nI k) post := by
  obtain ⟨h1, h2, h3⟩ := h
  unfold wp_X8_at
  rw [h1]
  unfold ct at hp
  refine ⟨fun c => absurd c (nI_pos hk), fun _ => ⟨fun c => ?_, fun c => ?_⟩⟩
  · have := (nI_leI (by omega) hk).mp c
    rwa [if_neg (by omega)] at hp
  · have hlt : k < T.2 := Nat.not_le.mp fun q => c (nI_le q hk)
    rw [if_pos hlt] at hp
    refine ⟨fun _ => ⟨in_k (by omega) (by omega), ?_⟩, fun c2 => absurd (nI_lt (b := 3000) (by omega) (by omega)) c2⟩
    rw [nI_clamp hk, (h3 k hlt).2]
    exact hp
theorem m_byteAt {τ : SX12} {T : TX} {k : Nat} {post : Int32 → SX12 → Prop} (h : TM τ T) (hk : k < 2 ^ 31) (hp : post (nI (bt T k)) τ) : wp_X12_byteAt τ (nI k) post := by
  obtain ⟨h1, h2, h3⟩ := h
  unfold wp_X12_byteAt
  rw [h1]
  unfold bt at hp
  refine ⟨fun c => ?_, fun c => ?_⟩
  · have := (nI_leI (by omega) hk).mp c
    rw [if_neg (by omega)] at hp
    exact hp
  · have hlt : k < T.2 := Nat.not_le.mp fun q => c (nI_le q hk)
    rw [if_pos hlt] at hp
    refine ⟨in_k (by omega) (by omega), ?_⟩
    rw [nI_clamp hk, (h3 k hlt).2]
    exact hp
theorem c_isLetter {c : Nat} {post : Int32 → Unit → Prop} (hc : c < 256) (h : post (bi (isLet c)) ()) : wp_X8_isLetter (nI c) post := by
  have lt : ∀ b : Nat, b < 256 → (nI c < nI b ↔ c < b) := fun b hb => nI_ltI (by omega) (by omega)
  have gt : ∀ b : Nat, b < 256 → (nI b < nI c ↔ b < c) := fun b hb => nI_ltI (by omega) (by omega)
  have le : ∀ b : Nat, b < 256 → (nI c ≤ nI b ↔ c ≤ b) := fun b hb => nI_leI (by omega) (by omega)
  have f : ¬ isLet c = true → post 0 () := fun q => by rw [bi_f (by simpa using q)] at h; exact h
  have t : isLet c = true → post 1 () := fun q => by rw [bi_t q] at h; exact h
  have low : (c < 97 ∨ 122 < c) → wp_X8_isLetter_12 post (nI c) := by
    intro q
    refine ⟨fun c1 => f ?_, fun c1 => ⟨fun c2 => f ?_, fun c2 => t ?_⟩⟩
    · have := (lt 65 (by omega)).mp c1
      rw [isLet_iff]
      omega
    · have := (gt 90 (by omega)).mp c2
      rw [isLet_iff]
      omega
    · have h1 : ¬ c < 65 := fun q => c1 ((lt 65 (by omega)).mpr q)
      have h2 : ¬ 90 < c := fun q => c2 ((gt 90 (by omega)).mpr q)
      rw [isLet_iff]
      omega
  refine ⟨fun c1 => low (Or.inl ((lt 97 (by omega)).mp c1)), fun c1 => ⟨fun c2 => t ?_, fun c2 => low (Or.inr ?_)⟩⟩
  · have h1 : ¬ c < 97 := fun q => c1 ((lt 97 (by omega)).mpr q)
    have := (le 122 (by omega)).mp c2
    rw [isLet_iff]
    omega
  · exact Nat.not_le.mp fun q => c2 ((le 122 (by omega)).mpr q)
theorem c_isDigit {c : Nat} {post : Int32 → Unit → Prop} (hc : c < 256) (h : post (bi (isDig c)) ()) : wp_X8_isDigit (nI c) post := by
  have lt : ∀ b : Nat, b < 256 → (nI c < nI b ↔ c < b) := fun b hb => nI_ltI (by omega) (by omega)
  have gt : ∀ b : Nat, b < 256 → (nI b < nI c ↔ b < c) := fun b hb => nI_ltI (by omega) (by omega)
  have f : ¬ isDig c = true → post 0 () := fun q => by rw [bi_f (by simpa using q)] at h; exact h
  have t : isDig c = true → post 1 () := fun q => by rw [bi_t q] at h; exact h
  refine ⟨fun c1 => f ?_, fun c1 => ⟨fun c2 => f ?_, fun c2 => t ?_⟩⟩
  · have := (lt 48 (by omega)).mp c1
    rw [isDig_iff]
    omega
  · have := (gt 57 (by omega)).mp c2
    rw [isDig_iff]
    omega
  · have h1 : ¬ c < 48 := fun q => c1 ((lt 48 (by omega)).mpr q)
    have h2 : ¬ 57 < c := fun q => c2 ((gt 57 (by omega)).mpr q)
    rw [isDig_iff]
    omega
theorem m_isLetter {c : Nat} {post : Int32 → Unit → Prop} (hc : c < 256) (h : post (bi (isLet c)) ()) : wp_X12_isLetter (nI c) post := c_isLetter hc h
theorem m_isDigit {c : Nat} {post : Int32 → Unit → Prop} (hc : c < 256) (h : post (bi (isDig c)) ()) : wp_X12_isDigit (nI c) post := c_isDigit hc h
theorem c_isBlank {c : Nat} {post : Int32 → Unit → Prop} (hc : c < 256) (h : post (bi (isBl c)) ()) : wp_X8_isBlank (nI c) post := by
  have eq : ∀ b : Nat, b < 256 → (nI c = nI b ↔ c = b) := fun b hb => nI_eq (by omega) (by omega)
  have f : ¬ isBl c = true → post 0 () := fun q => by rw [bi_f (by simpa using q)] at h; exact h
  have t : isBl c = true → post 1 () := fun q => by rw [bi_t q] at h; exact h
  refine ⟨fun c1 => t (isBl_iff.mpr (Or.inl ((eq 9 (by omega)).mp c1))), fun c1 => ⟨fun c2 => t (isBl_iff.mpr (Or.inr (Or.inl ((eq 10 (by omega)).mp c2)))), fun c2 => ⟨fun c3 => t (isBl_iff.mpr (Or.inr (Or.inr (Or.inl ((eq 13 (by omega)).mp c3))))), fun c3 => ⟨fun c4 => f ?_, fun c4 => t (isBl_iff.mpr (Or.inr (Or.inr (Or.inr ((eq 32 (by omega)).mp c4)))))⟩⟩⟩⟩
  rw [isBl_iff]
  rintro (q | q | q | q)
  · exact c1 ((eq 9 (by omega)).mpr q)
  · exact c2 ((eq 10 (by omega)).mpr q)
  · exact c3 ((eq 13 (by omega)).mpr q)
  · exact c4 ((eq 32 (by omega)).mpr q)
theorem c_isNamePart {c : Nat} {post : Int32 → Unit → Prop} (hc : c < 256) (h : post (bi (isNm c)) ()) : wp_X8_isNamePart (nI c) post := by
  refine c_isLetter hc ⟨fun q => ?_, fun q => c_isDigit hc ⟨fun q2 => ?_, fun q2 => ?_⟩⟩
  · have : isLet c = true := by
      cases e : isLet c
      · rw [e] at q
        exact absurd rfl q
      · rfl
    rw [bi_t (isNm_iff.mpr (Or.inl this))] at h
    exact h
  · have h1 : isLet c = false := by
      cases e : isLet c
      · rfl
      · rw [e] at q
        exact absurd q (by decide)
    have h2 : isDig c = false := by
      cases e : isDig c
      · rfl
      · rw [e] at q2
        exact absurd q2 (by decide)
    have : isNm c = false := by
      unfold isNm
      rw [h1, h2]
      rfl
    rw [bi_f this] at h
    exact h
  · have : isDig c = true := by
      cases e : isDig c
      · rw [e] at q2
        exact absurd rfl q2
      · rfl
    rw [bi_t (isNm_iff.mpr (Or.inr this))] at h
    exact h
theorem ct_cases {t : SX8} {T : TX} (h : TC t T) (k : Nat) : (k < T.2 ∧ T.1 k < 256 ∧ ct T k = nI (T.1 k)) ∨ (¬ k < T.2 ∧ ct T k = -1) := by
  by_cases hk : k < T.2
  · exact Or.inl ⟨hk, (h.2.2 k hk).1, if_pos hk⟩
  · exact Or.inr ⟨hk, if_neg hk⟩
theorem c_isLetterT {t : SX8} {T : TX} {k : Nat} {post : Int32 → Unit → Prop} (hT : TC t T) (h : post (bi (pb isLet T k)) ()) : wp_X8_isLetter (ct T k) post := by
  rcases ct_cases hT k with ⟨hk, hb, e⟩ | ⟨hk, e⟩
  · rw [e]
    rw [pb_in hk] at h
    exact c_isLetter hb h
  · rw [e]
    rw [pb_out hk] at h
    exact ⟨fun _ => ⟨fun _ => h, fun c => absurd (by decide) c⟩, fun c => absurd (by decide) c⟩
theorem c_isDigitT {t : SX8} {T : TX} {k : Nat} {post : Int32 → Unit → Prop} (hT : TC t T) (h : post (bi (pb isDig T k)) ()) : wp_X8_isDigit (ct T k) post := by
  rcases ct_cases hT k with ⟨hk, hb, e⟩ | ⟨hk, e⟩
  · rw [e]
    rw [pb_in hk] at h
    exact c_isDigit hb h
  · rw [e]
    rw [pb_out hk] at h
    exact ⟨fun _ => h, fun c => absurd (by decide) c⟩
theorem c_isBlankT {t : SX8} {T : TX} {k : Nat} {post : Int32 → Unit → Prop} (hT : TC t T) (h : post (bi (pb isBl T k)) ()) : wp_X8_isBlank (ct T k) post := by
  rcases ct_cases hT k with ⟨hk, hb, e⟩ | ⟨hk, e⟩
  · rw [e]
    rw [pb_in hk] at h
    exact c_isBlank hb h
  · rw [e]
    rw [pb_out hk] at h
    exact ⟨fun c => absurd c (by decide), fun _ => ⟨fun c => absurd c (by decide), fun _ => ⟨fun c => absurd c (by decide), fun _ => ⟨fun _ => h, fun c => absurd c (by decide)⟩⟩⟩⟩
theorem c_isNamePartT {t : SX8} {T : TX} {k : Nat} {post : Int32 → Unit → Prop} (hT : TC t T) (h : post (bi (pb isNm T k)) ()) : wp_X8_isNamePart (ct T k) post := by
  rcases ct_cases hT k with ⟨hk, hb, e⟩ | ⟨hk, e⟩
  · rw [e]
    rw [pb_in hk] at h
    exact c_isNamePart hb h
  · rw [e]
    rw [pb_out hk] at h
    exact ⟨fun _ => ⟨fun _ => ⟨fun c => absurd rfl c, fun _ => ⟨fun _ => ⟨fun _ => h, fun c => absurd rfl c⟩, fun c => absurd (by decide) c⟩⟩, fun c => absurd (by decide) c⟩, fun c => absurd (by decide) c⟩
theorem bt_lt {τ : SX12} {T : TX} (h : TM τ T) (k : Nat) : bt T k < 256 := by
  unfold bt
  split
  · exact (h.2.2 k (by assumption)).1
  · omega
theorem pb_bt {p : Nat → Bool} {T : TX} {k : Nat} (h0 : p 0 = false) : p (bt T k) = pb p T k := by
  by_cases hk : k < T.2
  · rw [pb_in hk]
    unfold bt
    rw [if_pos hk]
  · rw [pb_out hk]
    unfold bt
    rw [if_neg hk, h0]
theorem m_isLetterT {τ : SX12} {T : TX} {k : Nat} {post : Int32 → Unit → Prop} (hT : TM τ T) (h : post (bi (pb isLet T k)) ()) : wp_X12_isLetter (nI (bt T k)) post := m_isLetter (bt_lt hT k) (by rw [pb_bt (p := isLet) rfl]; exact h)
theorem m_isDigitT {τ : SX12} {T : TX} {k : Nat} {post : Int32 → Unit → Prop} (hT : TM τ T) (h : post (bi (pb isDig T k)) ()) : wp_X12_isDigit (nI (bt T k)) post := m_isDigit (bt_lt hT k) (by rw [pb_bt (p := isDig) rfl]; exact h)
/-- the first place from k on, within m, that is not q -/
def scan (q : Nat → Bool) : Nat → Nat → Nat
  | 0, k => k
  | m + 1, k => if q k then scan q m (k + 1) else k
theorem scan_ge (q : Nat → Bool) : ∀ m k, k ≤ scan q m k := by
  intro m
  induction m with
  | zero => intro k; exact Nat.le_refl k
  | succ m ih =>
    intro k
    unfold scan
    split
    · exact Nat.le_trans (Nat.le_succ k) (ih (k + 1))
    · exact Nat.le_refl k
theorem scan_le (q : Nat → Bool) : ∀ m k, scan q m k ≤ k + m := by
  intro m
  induction m with
  | zero => intro k; exact Nat.le_refl k
  | succ m ih =>
    intro k
    unfold scan
    split
    · have := ih (k + 1)
      omega
    · omega
theorem scan_all (q : Nat → Bool) : ∀ m k j, k ≤ j → j < scan q m k → q j = true := by
  intro m
  induction m with
  | zero =>
    intro k j h1 h2
    unfold scan at h2
    omega
  | succ m ih =>
    intro k j h1 h2
    unfold scan at h2
    split at h2
    · by_cases e : j = k
      · rw [e]
        assumption
      · exact ih (k + 1) j (by omega) h2
    · omega
theorem scan_end (q : Nat → Bool) : ∀ m k, (∀ j, k + m ≤ j → q j = false) → q (scan q m k) = false := by
  intro m
  induction m with
  | zero =>
    intro k h
    exact h k (Nat.le_refl _)
  | succ m ih =>
    intro k h
    unfold scan
    split
    · exact ih (k + 1) (fun j hj => h j (by omega))
    · rename_i e
      simpa using e
theorem scan_uniq (q : Nat → Bool) {k e : Nat} (h1 : k ≤ e) (h2 : ∀ j, k ≤ j → j < e → q j = true) (h3 : q e = false) : ∀ m, e ≤ k + m → scan q m k = e := by
  intro m
  induction m generalizing k with
  | zero =>
    intro h
    have : e = k := by omega
    rw [this]
    rfl
  | succ m ih =>
    intro h
    unfold scan
    by_cases e1 : k = e
    · rw [e1, h3]
      rfl
    · rw [h2 k (Nat.le_refl _) (by omega)]
      exact ih (by omega) (fun j hj hj2 => h2 j (by omega) hj2) (by omega)
theorem c_afterBlanks_2 {t : SX8} {T : TX} {post : Int32 → SX8 → Prop} (h : TC t T) : ∀ (m k : Nat), m = T.2 - k → k < 2 ^ 31 → post (nI (scan (pb isBl T) m k)) t → wp_X8_afterBlanks_2 post (m + 1) t (nI k) := by
  intro m
  induction m with
  | zero =>
    intro k hm hk hp
    have le : t.2 ≤ nI k := by rw [h.1]; exact nI_le (by omega) hk
    exact ⟨fun _ => hp, fun c => absurd le c⟩
  | succ m ih =>
    intro k hm hk hp
    have hn := h.2.1
    have nle : ¬ t.2 ≤ nI k := by rw [h.1]; exact nI_ge (by omega) (by omega)
    refine ⟨fun c => absurd c nle, fun _ => c_at h hk (c_isBlankT h ?_)⟩
    unfold scan at hp
    by_cases hq : pb isBl T k = true
    · rw [if_pos hq] at hp
      refine ⟨fun c => absurd c (by rw [bi_t hq]; decide), fun _ => ?_⟩
      have := ih (k + 1) (by omega) (by omega) hp
      rw [← nI_1] at this
      exact this
    · rw [if_neg hq] at hp
      exact ⟨fun _ => hp, fun c => absurd (bi_f (by simpa using hq)) c⟩
theorem c_afterBlanks {t : SX8} {T : TX} {k : Nat} {post : Int32 → SX8 → Prop} (h : TC t T) (hk : k < 2 ^ 31) (hp : post (nI (scan (pb isBl T) (T.2 - k) k)) t) : wp_X8_afterBlanks t (nI k) post := ⟨_, c_afterBlanks_2 h _ k rfl hk hp⟩
theorem c_afterDigits_2 {t : SX8} {T : TX} {post : Int32 → SX8 → Prop} (h : TC t T) : ∀ (m k : Nat), m = T.2 - k → k < 2 ^ 31 → post (nI (scan (pb isDig T) m k)) t → wp_X8_afterDigits_2 post (m + 1) t (nI k) := by
  intro m
  induction m with
  | zero =>
    intro k hm hk hp
    have le : t.2 ≤ nI k := by rw [h.1]; exact nI_le (by omega) hk
    exact ⟨fun _ => hp, fun c => absurd le c⟩
  | succ m ih =>
    intro k hm hk hp
    have hn := h.2.1
    have nle : ¬ t.2 ≤ nI k := by rw [h.1]; exact nI_ge (by omega) (by omega)
    refine ⟨fun c => absurd c nle, fun _ => c_at h hk (c_isDigitT h ?_)⟩
    unfold scan at hp
    by_cases hq : pb isDig T k = true
    · rw [if_pos hq] at hp
      refine ⟨fun c => absurd c (by rw [bi_t hq]; decide), fun _ => ?_⟩
      have := ih (k + 1) (by omega) (by omega) hp
      rw [← nI_1] at this
      exact this
    · rw [if_neg hq] at hp
      exact ⟨fun _ => hp, fun c => absurd (bi_f (by simpa using hq)) c⟩
theorem c_afterDigits {t : SX8} {T : TX} {k : Nat} {post : Int32 → SX8 → Prop} (h : TC t T) (hk : k < 2 ^ 31) (hp : post (nI (scan (pb isDig T) (T.2 - k) k)) t) : wp_X8_afterDigits t (nI k) post := ⟨_, c_afterDigits_2 h _ k rfl hk hp⟩
theorem c_afterName_2 {t : SX8} {T : TX} {post : Int32 → SX8 → Prop} (h : TC t T) : ∀ (m k : Nat), m = T.2 - k → k < 2 ^ 31 → post (nI (scan (pb isNm T) m k)) t → wp_X8_afterName_2 post (m + 1) t (nI k) := by
  intro m
  induction m with
  | zero =>
    intro k hm hk hp
    have le : t.2 ≤ nI k := by rw [h.1]; exact nI_le (by omega) hk
    exact ⟨fun _ => hp, fun c => absurd le c⟩
  | succ m ih =>
    intro k hm hk hp
    have hn := h.2.1
    have nle : ¬ t.2 ≤ nI k := by rw [h.1]; exact nI_ge (by omega) (by omega)
    refine ⟨fun c => absurd c nle, fun _ => c_at h hk (c_isNamePartT h ?_)⟩
    unfold scan at hp
    by_cases hq : pb isNm T k = true
    · rw [if_pos hq] at hp
      refine ⟨fun c => absurd c (by rw [bi_t hq]; decide), fun _ => ?_⟩
      have := ih (k + 1) (by omega) (by omega) hp
      rw [← nI_1] at this
      exact this
    · rw [if_neg hq] at hp
      exact ⟨fun _ => hp, fun c => absurd (bi_f (by simpa using hq)) c⟩
theorem c_afterName {t : SX8} {T : TX} {k : Nat} {post : Int32 → SX8 → Prop} (h : TC t T) (hk : k < 2 ^ 31) (hp : post (nI (scan (pb isNm T) (T.2 - k) k)) t) : wp_X8_afterName t (nI k) post := ⟨_, c_afterName_2 h _ k rfl hk hp⟩
end Lex
