section Names
/-- a NAME's bytes -/
theorem name_tok {T : TX} {t : Nat} (h : TK T t = 2) : PL T t < T.2 ∧ 0 < LN T t ∧ PL T t + LN T t ≤ T.2 ∧ (∀ i, i < LN T t → pb isNm T (PL T t + i) = true) ∧ pb isNm T (PL T t + LN T t) = false := by
  unfold TK at h
  unfold LN
  by_cases hlt : PL T t < T.2
  · cases e1 : isLet (T.1 (PL T t)) with
    | true =>
      obtain ⟨k1, k2, _⟩ := kdA_let hlt e1
      have h1 := nmE_gt hlt e1
      have h2 := (nmE_le (T := T) (p := PL T t) (by omega)).2
      rw [k2]
      have e : PL T t + (nmE T (PL T t) - PL T t) = nmE T (PL T t) := by omega
      refine ⟨hlt, by omega, by omega, fun i hi => ?_, ?_⟩
      · exact scan_all _ _ _ _ (by omega) (show PL T t + i < nmE T (PL T t) by omega)
      · rw [e]
        exact nmE_end T (by omega)
    | false =>
      cases e2 : isDig (T.1 (PL T t)) with
      | true =>
        rw [(kdA_dig hlt e2).1] at h
        split at h <;> omega
      | false =>
        rw [(kdA_sg hlt e1 e2).1] at h
        unfold sgK at h
        have := lsK_r (T.1 (PL T t)) (bt T (PL T t + 1))
        split at h
        · split at h
          · rename_i q2
            have := sgn_r q2
            omega
          · omega
        · omega
  · rw [(kdA_end hlt).1] at h
    omega
/-- two names alike -/
def eqN (T : TX) (a b : Nat) : Bool := decide (LN T a = LN T b ∧ ∀ j, j < LN T b → T.1 (PL T a + j) = T.1 (PL T b + j))
theorem c_same {t : SX8} {T : TX} {a b : Nat} {post : Int32 → SX8 → Prop} (h : TC t T) (ha : TK T a = 2) (hb : TK T b = 2) (hp : post (bi (eqN T a b)) t) : wp_X8_sameName t (nI (PL T a)) (nI (PL T b)) post := by
  obtain ⟨a1, a2, a3, a4, a5⟩ := name_tok ha
  obtain ⟨b1, b2, b3, b4, b5⟩ := name_tok hb
  have hn := h.2.1
  have lp : ∀ m i, m = T.2 - i → i ≤ LN T a → i ≤ LN T b → (∀ j, j < i → T.1 (PL T a + j) = T.1 (PL T b + j)) → wp_X8_sameName_2 post (m + 1) t (nI (PL T a)) (nI (PL T b)) (nI i) := by
    intro m
    induction m with
    | zero =>
      intro i hm h1 h2 h3
      have e1 : LN T a = LN T b := by omega
      have e2 : eqN T a b = true := decide_eq_true ⟨e1, fun j hj => h3 j (by omega)⟩
      have e3 : i = T.2 := by omega
      rw [e2] at hp
      show wb_X8_sameName_2 post _ t (nI (PL T a)) (nI (PL T b)) (nI i)
      refine ⟨fun _ => hp, fun c => absurd ?_ c⟩
      rw [h.1, e3]
      exact nI_le (Nat.le_refl _) (by omega)
    | succ m ih =>
      intro i hm h1 h2 h3
      show wb_X8_sameName_2 post _ t (nI (PL T a)) (nI (PL T b)) (nI i)
      have hi : i < T.2 := by omega
      refine ⟨fun c => absurd c (by rw [h.1]; exact nI_ge hi (by omega)), fun _ => ?_⟩
      rw [nI_add, nI_add]
      refine c_at h (by omega) (c_at h (by omega) (c_isNamePartT h ?_))
      have stop : (¬ i < LN T a ∨ ¬ i < LN T b) → wp_X8_sameName_44 post t (ct T (PL T a + i)) (ct T (PL T b + i)) := by
        intro q
        refine c_isNamePartT h (c_isNamePartT h ?_)
        have pa : pb isNm T (PL T a + i) = decide (i < LN T a) := by
          by_cases z : i < LN T a
          · rw [a4 i z, decide_eq_true z]
          · rw [show i = LN T a by omega, a5]
            exact (decide_eq_false (by omega)).symm
        have pb' : pb isNm T (PL T b + i) = decide (i < LN T b) := by
          by_cases z : i < LN T b
          · rw [b4 i z, decide_eq_true z]
          · rw [show i = LN T b by omega, b5]
            exact (decide_eq_false (by omega)).symm
        rw [pa, pb']
        by_cases za : i < LN T a
        · have zb : ¬ i < LN T b := fun z => q.elim (fun w => w za) (fun w => w z)
          have e2 : eqN T a b = false := decide_eq_false (fun w => by omega)
          rw [e2] at hp
          rw [decide_eq_true za, decide_eq_false zb]
          exact ⟨fun _ => hp, fun c => absurd c (by decide)⟩
        · by_cases zb : i < LN T b
          · have e2 : eqN T a b = false := decide_eq_false (fun w => by omega)
            rw [e2] at hp
            rw [decide_eq_false za, decide_eq_true zb]
            exact ⟨fun _ => hp, fun c => absurd c (by decide)⟩
          · have e2 : eqN T a b = true := decide_eq_true ⟨by omega, fun j hj => h3 j (by omega)⟩
            rw [e2] at hp
            rw [decide_eq_false za, decide_eq_false zb]
            exact ⟨fun c => absurd rfl c, fun _ => hp⟩
      refine ⟨fun c => stop (Or.inl (fun z => ?_)), fun c => c_isNamePartT h ⟨fun c2 => ?_, fun c2 => stop (Or.inr (fun z => ?_))⟩⟩
      · rw [a4 i z] at c
        exact absurd c (by decide)
      · have za : i < LN T a := by
          by_cases z : i < LN T a
          · exact z
          · rw [show i = LN T a by omega, a5] at c
            exact absurd rfl c
        have zb : i < LN T b := by
          by_cases z : i < LN T b
          · exact z
          · rw [show i = LN T b by omega, b5] at c2
            exact absurd rfl c2
        have ra := (h.2.2 (PL T a + i) (by omega)).1
        have rb := (h.2.2 (PL T b + i) (by omega)).1
        have ca : ct T (PL T a + i) = nI (T.1 (PL T a + i)) := if_pos (by omega)
        have cb : ct T (PL T b + i) = nI (T.1 (PL T b + i)) := if_pos (by omega)
        rw [ca, cb]
        refine ⟨fun e => ?_, fun e => ?_⟩
        · have e := (nI_eq (by omega) (by omega)).mp e
          have w := ih (i + 1) (by omega) (by omega) (by omega) (fun j hj => by
            by_cases z : j = i
            · rw [z]; exact e
            · exact h3 j (by omega))
          rw [← nI_1] at w
          exact w
        · have e2 : eqN T a b = false := decide_eq_false (fun w => e (by rw [w.2 i zb]))
          rw [e2] at hp
          exact hp
      · rw [b4 i z] at c2
        exact absurd c2 (by decide)
  exact ⟨_, lp T.2 0 (by omega) (by omega) (by omega) (fun j hj => absurd hj (by omega))⟩
/-- the first of the names that is alike -/
def fdI (T : TX) : List DD → Nat → Option Nat
  | [], _ => none
  | x :: g, t => if eqN T (ntk x) t = true then some 0 else (fdI T g t).map (· + 1)
def rI (k : Nat) : Option Nat → Int32
  | none => -1
  | some j => nI (k + j)
theorem fdI_lt {T : TX} : ∀ (g : List DD) (t k : Nat), fdI T g t = some k → k < g.length := by
  intro g
  induction g with
  | nil => intro t k h; cases h
  | cons x g ih =>
    intro t k h
    unfold fdI at h
    split at h
    · cases h
      exact Nat.zero_lt_succ _
    · cases e : fdI T g t with
      | none => rw [e] at h; cases h
      | some j =>
        rw [e] at h
        cases h
        have := ih t j e
        exact Nat.succ_lt_succ this
theorem rI_s (k : Nat) (o : Option Nat) : rI k (o.map (· + 1)) = rI (k + 1) o := by
  cases o with
  | none => rfl
  | some j =>
    show nI (k + (j + 1)) = nI (k + 1 + j)
    rw [show k + (j + 1) = k + 1 + j by omega]
/-- the rows of names, from k on -/
def PLs (T : TX) (f : Nat → Int32) : List DD → Nat → Prop
  | [], _ => True
  | x :: g, k => f k = nI (PL T (ntk x)) ∧ TK T (ntk x) = 2 ∧ PLs T f g (k + 1)
def NTs (T : TX) (N : Nat) (f : Nat → Int32) : List DD → Nat → Prop
  | [], _ => True
  | x :: g, k => f k = nI (ntk x) ∧ TK T (ntk x) = 2 ∧ ntk x < N ∧ NTs T N f g (k + 1)
theorem c_find {σ : WSX3} {T : TX} {g : List DD} {t : Nat} {post : Int32 → WSX3 → Prop} (h : TC σ.2 T) (hu : σ.1.2.1.2 = nI g.length) (hg : g.length ≤ 200) (hP : PLs T σ.1.1.1.1 g 0) (ht : TK T t = 2) (hp : post (rI 0 (fdI T g t)) σ) : wp_X3_find σ (nI (PL T t)) post := by
  have lp : ∀ (s : List DD) (k : Nat), k + s.length = g.length → PLs T σ.1.1.1.1 s k → post (rI k (fdI T s t)) σ → wp_X3_find_2 post (s.length + 1) σ (nI (PL T t)) (nI k) := by
    intro s
    induction s with
    | nil =>
      intro k hk _ hq
      show wb_X3_find_2 post _ σ (nI (PL T t)) (nI k)
      have : k = g.length := by simpa using hk
      refine ⟨fun _ => hq, fun c => absurd ?_ c⟩
      rw [hu, this]
      exact nI_le (Nat.le_refl _) (by omega)
    | cons x s ih =>
      intro k hk hP hq
      have hk2 : k + 1 + s.length = g.length := by rw [← hk]; simp; omega
      show wb_X3_find_2 post _ σ (nI (PL T t)) (nI k)
      refine ⟨fun c => absurd c (by rw [hu]; exact nI_ge (by omega) (by omega)), fun _ => ⟨fun c => absurd c (nI_ge (b := 200) (by omega) (by omega)), fun _ => ⟨in_k (by omega) (by omega), ?_⟩⟩⟩
      rw [nI_clamp (by omega)]
      have e : σ.1.1.1.1 k = nI (PL T (ntk x)) := hP.1
      rw [e]
      refine c_same h hP.2.1 ht ?_
      unfold fdI at hq
      cases q : eqN T (ntk x) t with
      | true =>
        rw [if_pos q] at hq
        exact ⟨fun c => absurd c (by decide), fun _ => hq⟩
      | false =>
        rw [if_neg (by rw [q]; decide), rI_s] at hq
        refine ⟨fun _ => ?_, fun c => absurd rfl c⟩
        have w := ih (k + 1) hk2 hP.2.2 hq
        rw [← nI_1] at w
        exact w
  exact ⟨_, lp g 0 (by omega) hP hp⟩
theorem m_find {τ : SX12} {T : TX} {N : Nat} {g : List DD} {t : Nat} {post : Int32 → SX12 → Prop} (h : TM τ T) (hL : LM τ T N) (hN : N ≤ 3001) (hu : τ.1.2.1.2.1 = nI g.length) (hg : g.length ≤ 200) (hP : NTs T N τ.1.2.1.2.2.1 g 0) (ht : TK T t = 2) (htN : t < N) (hp : post (rI 0 (fdI T g t)) τ) : wp_X12_find τ (nI t) post := by
  have hn := h.2.1
  obtain ⟨b1, b2, b3, b4, b5⟩ := name_tok ht
  have lp : ∀ (s : List DD) (k : Nat), k + s.length = g.length → NTs T N τ.1.2.1.2.2.1 s k → post (rI k (fdI T s t)) τ → wp_X12_find_2 post (s.length + 1) τ (nI t) (nI k) := by
    intro s
    induction s with
    | nil =>
      intro k hk _ hq
      show wb_X12_find_2 post _ τ (nI t) (nI k)
      have : k = g.length := by simpa using hk
      refine ⟨fun _ => hq, fun c => absurd ?_ c⟩
      rw [hu, this]
      exact nI_le (Nat.le_refl _) (by omega)
    | cons x s ih =>
      intro k hk hP hq
      have hk2 : k + 1 + s.length = g.length := by rw [← hk]; simp; omega
      obtain ⟨a1, a2, a3, a4, a5⟩ := name_tok hP.2.1
      have eT : τ.1.2.1.2.2.1 k = nI (ntk x) := hP.1
      have hx := hP.2.2.1
      have lx : τ.1.1.1.2.2.2 (ntk x) = nI (LN T (ntk x)) := (hL _ hx).2.2
      have lt : τ.1.1.1.2.2.2 t = nI (LN T t) := (hL _ htN).2.2
      have px : τ.1.1.1.2.2.1 (ntk x) = nI (PL T (ntk x)) := (hL _ hx).2.1
      have pt : τ.1.1.1.2.2.1 t = nI (PL T t) := (hL _ htN).2.1
      show wb_X12_find_2 post _ τ (nI t) (nI k)
      refine ⟨fun c => absurd c (by rw [hu]; exact nI_ge (by omega) (by omega)), fun _ => ⟨in_k (by omega) (by omega), ?_⟩⟩
      rw [nI_clamp (show k < 2 ^ 31 by omega), eT, nI_clamp (show ntk x < 2 ^ 31 by omega), nI_clamp (show t < 2 ^ 31 by omega), lx, lt]
      refine ⟨in_k (by omega) (by omega), in_k (by omega) (by omega), ?_⟩
      -- the inner loop from i on
      have end1 : ∀ (b : Bool), b = eqN T (ntk x) t → wp_X12_find_100 (fun a => wp_X12_find_2 post (s.length + 1) a.1 a.2.1 a.2.2) post τ (nI t) (nI k) (bi b) := by
        intro b eb
        unfold fdI at hq
        cases b with
        | true =>
          rw [if_pos eb.symm] at hq
          exact ⟨fun c => absurd c (by decide), fun _ => hq⟩
        | false =>
          rw [if_neg (by rw [← eb]; decide), rI_s] at hq
          refine ⟨fun _ => ?_, fun c => absurd rfl c⟩
          have w := ih (k + 1) hk2 hP.2.2.2 hq
          rw [← nI_1] at w
          exact w
      have inl : ∀ m i (b : Bool), m = LN T t - i → i ≤ LN T t → (b = false → eqN T (ntk x) t = false) → (b = true → LN T (ntk x) = LN T t ∧ ∀ j, j < i → T.1 (PL T (ntk x) + j) = T.1 (PL T t + j)) → wp_X12_find_39 (fun a => wp_X12_find_2 post (s.length + 1) a.1 a.2.1 a.2.2) post (m + 1) τ (nI t) (nI k) (bi b) (nI i) := by
        intro m
        induction m with
        | zero =>
          intro i b hm hi hf ht2
          show wb_X12_find_39 (fun a => wp_X12_find_2 post (s.length + 1) a.1 a.2.1 a.2.2) post _ τ (nI t) (nI k) (bi b) (nI i)
          refine ⟨in_k (by omega) (by omega), fun _ => end1 b ?_, fun c => absurd ?_ c⟩
          · cases b with
            | true => exact (decide_eq_true ⟨(ht2 rfl).1, fun j hj => (ht2 rfl).2 j (by omega)⟩).symm
            | false => exact (hf rfl).symm
          · rw [nI_clamp (by omega), lt]
            exact nI_le (by omega) (by omega)
        | succ m ihm =>
          intro i b hm hi hf ht2
          show wb_X12_find_39 (fun a => wp_X12_find_2 post (s.length + 1) a.1 a.2.1 a.2.2) post _ τ (nI t) (nI k) (bi b) (nI i)
          refine ⟨in_k (by omega) (by omega), fun c => absurd c ?_, fun _ => ?_⟩
          · rw [nI_clamp (by omega), lt]
            exact nI_ge (by omega) (by omega)
          · cases b with
            | false => exact ⟨fun _ => end1 false (hf rfl).symm, fun c => absurd rfl c⟩
            | true =>
              obtain ⟨q1, q2⟩ := ht2 rfl
              refine ⟨fun c => absurd c (by decide), fun _ => ⟨in_k (by omega) (by omega), ?_⟩⟩
              rw [nI_clamp (show k < 2 ^ 31 by omega), eT, nI_clamp (show ntk x < 2 ^ 31 by omega), px, nI_add]
              refine ⟨in_k (by omega) (by omega), m_byteAt h (by omega) ⟨in_k (by omega) (by omega), ?_⟩⟩
              rw [nI_clamp (show t < 2 ^ 31 by omega), pt, nI_add]
              refine m_byteAt h (by omega) ?_
              have ba : bt T (PL T (ntk x) + i) = T.1 (PL T (ntk x) + i) := if_pos (by omega)
              have bb : bt T (PL T t + i) = T.1 (PL T t + i) := if_pos (by omega)
              have ra := (h.2.2 (PL T (ntk x) + i) (by omega)).1
              have rb := (h.2.2 (PL T t + i) (by omega)).1
              rw [ba, bb]
              refine ⟨fun e => ?_, fun e => ?_⟩
              · have w := ihm (i + 1) false (by omega) (by omega) (fun _ => decide_eq_false (fun w => e (by rw [w.2 i (by omega)]))) (fun c => absurd c (by decide))
                rw [← nI_1] at w
                exact w
              · have e := (nI_eq (by omega) (by omega)).mp e
                have w := ihm (i + 1) true (by omega) (by omega) (fun c => absurd c (by decide)) (fun _ => ⟨q1, fun j hj => by
                  by_cases z : j = i
                  · rw [z]; exact e
                  · exact q2 j (by omega)⟩)
                rw [← nI_1] at w
                exact w
      refine ⟨fun c => ?_, fun c => ?_⟩
      · exact ⟨_, inl _ 0 false rfl (by omega) (fun _ => decide_eq_false (fun w => c (by rw [w.1]))) (fun c => absurd c (by decide))⟩
      · exact ⟨_, inl _ 0 true rfl (by omega) (fun c => absurd c (by decide)) (fun _ => ⟨(nI_eq (by omega) (by omega)).mp c, fun j hj => absurd hj (by omega)⟩)⟩
  exact ⟨_, lp g 0 (by omega) hP hp⟩
end Names
