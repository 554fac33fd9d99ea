section MPrim
/-- of the reference only what its reader writes has changed -/
def MOF (τ τ' : SX12) : Prop := τ'.2 = τ.2 ∧ τ'.1.1.1 = τ.1.1.1 ∧ τ'.1.2.1.2 = τ.1.2.1.2 ∧ τ'.1.2.2 = τ.1.2.2 ∧ τ'.1.2.1.1.2.2 = τ.1.2.1.1.2.2
theorem MOF.rf (τ : SX12) : MOF τ τ := ⟨rfl, rfl, rfl, rfl, rfl⟩
theorem MOF.tr {a b c : SX12} (h : MOF a b) (g : MOF b c) : MOF a c := ⟨g.1.trans h.1, g.2.1.trans h.2.1, g.2.2.1.trans h.2.2.1, g.2.2.2.1.trans h.2.2.2.1, g.2.2.2.2.trans h.2.2.2.2⟩
theorem MOF.lm {τ τ' : SX12} {T : TX} {N : Nat} (h : MOF τ τ') (g : LM τ T N) : LM τ' T N := by
  intro t ht
  rw [h.2.1]
  exact g t ht
/-- so many nodes, none of them secret -/
def NQ (τ : SX12) (q : Nat) : Prop := τ.1.1.2.1.2.2 = nI q ∧ ∀ j, j < q → τ.1.2.1.1.2.1 j = 0
def MI (T : TX) (N : Nat) (τ : SX12) (t q : Nat) : Prop := τ.1.1.2.1.2.1 = 0 ∧ τ.1.1.2.1.1 = nI t ∧ t < N ∧ LM τ T N ∧ NQ τ q ∧ q ≤ t + 1
def MB (T : TX) (N : Nat) (s : Nat) (τ : SX12) (t q : Nat) : Prop := τ.1.1.2.1.2.1 = 1 ∧ τ.1.1.2.1.1 = nI t ∧ t < N ∧ LM τ T N ∧ NQ τ q ∧ q ≤ t + s
/-- the nodes before q are as they were -/
def HP (τ τ' : SX12) (q : Nat) : Prop := ∀ i, i < q → τ'.1.1.2.2.1 i = τ.1.1.2.2.1 i ∧ τ'.1.1.2.2.2.1 i = τ.1.1.2.2.2.1 i ∧ τ'.1.1.2.2.2.2 i = τ.1.1.2.2.2.2 i ∧ τ'.1.2.1.1.1 i = τ.1.2.1.1.1 i
theorem HP.rf (τ : SX12) (q : Nat) : HP τ τ q := fun i _ => ⟨rfl, rfl, rfl, rfl⟩
theorem HP.tr {a b c : SX12} {q q' : Nat} (h : HP a b q) (g : HP b c q') (hq : q ≤ q') : HP a c q := by
  intro i hi
  obtain ⟨h1, h2, h3, h4⟩ := h i hi
  obtain ⟨g1, g2, g3, g4⟩ := g i (by omega)
  exact ⟨g1.trans h1, g2.trans h2, g3.trans h3, g4.trans h4⟩
/-- the reference's nodes of an EXPR: root i, all from lo to hi -/
def ME (T : TX) (τ : SX12) : Tr → Nat → Nat → Nat → Prop
  | .leaf t, lo, hi, i => lo ≤ i ∧ i < hi ∧ τ.1.1.2.2.1 i = nI (kM (TK T t)) ∧ τ.1.1.2.2.2.1 i = nI t ∧ τ.1.1.2.2.2.2 i = -1
  | .branch p a b, lo, hi, i => lo ≤ i ∧ i < hi ∧ (if p % 2 = 1 then τ.1.1.2.2.1 i = nI (kM (TK T (p / 2))) ∧ τ.1.1.2.2.2.1 i = nI (p / 2) ∧ ∃ la ha x lb hb y, lo ≤ la ∧ ha ≤ i ∧ i < lb ∧ hb ≤ hi ∧ τ.1.1.2.2.2.2 i = nI x ∧ ME T τ a la ha x ∧ τ.1.2.1.1.1 x = nI y ∧ ME T τ b lb hb y ∧ τ.1.2.1.1.1 y = -1
      else if TK T (p / 2) = 2 then τ.1.1.2.2.1 i = 303 ∧ τ.1.1.2.2.2.1 i = nI (p / 2) ∧ ∃ w la ha x, i < w ∧ w < la ∧ ha ≤ hi ∧ τ.1.1.2.2.2.2 i = nI w ∧ τ.1.1.2.2.2.1 w = nI (p / 2 + 1) ∧ τ.1.2.1.1.1 w = nI x ∧ ME T τ a la ha x ∧ τ.1.2.1.1.1 x = -1
      else τ.1.1.2.2.1 i = nI (if TK T (p / 2) = 45 then 304 else TK T (p / 2)) ∧ τ.1.1.2.2.2.1 i = nI (p / 2) ∧ ∃ la ha x, i < la ∧ ha ≤ hi ∧ τ.1.1.2.2.2.2 i = nI x ∧ ME T τ a la ha x ∧ τ.1.2.1.1.1 x = -1)
theorem ME.bd {T : TX} {τ : SX12} {e : Tr} {lo hi i : Nat} (h : ME T τ e lo hi i) : lo ≤ i ∧ i < hi := by
  cases e with
  | leaf t => exact ⟨h.1, h.2.1⟩
  | branch p a b => exact ⟨h.1, h.2.1⟩
theorem ME.fr {T : TX} {τ τ' : SX12} : ∀ (e : Tr) (lo hi i : Nat), (∀ j, lo ≤ j → j < hi → τ'.1.1.2.2.1 j = τ.1.1.2.2.1 j ∧ τ'.1.1.2.2.2.1 j = τ.1.1.2.2.2.1 j ∧ τ'.1.1.2.2.2.2 j = τ.1.1.2.2.2.2 j) → (∀ j, lo ≤ j → j < hi → ¬ j = i → τ'.1.2.1.1.1 j = τ.1.2.1.1.1 j) → ME T τ e lo hi i → ME T τ' e lo hi i := by
  intro e
  induction e with
  | leaf t =>
    intro lo hi i h1 h2 h
    obtain ⟨g1, g2, g3, g4, g5⟩ := h
    obtain ⟨a1, a2, a3⟩ := h1 i g1 g2
    exact ⟨g1, g2, a1.trans g3, a2.trans g4, a3.trans g5⟩
  | branch p a b iha ihb =>
    intro lo hi i h1 h2 h
    obtain ⟨g1, g2, h⟩ := h
    obtain ⟨a1, a2, a3⟩ := h1 i g1 g2
    refine ⟨g1, g2, ?_⟩
    split
    · rename_i q
      rw [if_pos q] at h
      obtain ⟨k1, k2, la, ha, x, lb, hb, y, e1, e2, e3, e4, e5, e6, e7, e8, e9⟩ := h
      have bx := e6.bd
      have bY := e8.bd
      refine ⟨a1.trans k1, a2.trans k2, la, ha, x, lb, hb, y, e1, e2, e3, e4, a3.trans e5, ?_, ?_, ?_, ?_⟩
      · exact iha la ha x (fun j j1 j2 => h1 j (by omega) (by omega)) (fun j j1 j2 _ => h2 j (by omega) (by omega) (by omega)) e6
      · rw [h2 x (by omega) (by omega) (by omega)]
        exact e7
      · exact ihb lb hb y (fun j j1 j2 => h1 j (by omega) (by omega)) (fun j j1 j2 _ => h2 j (by omega) (by omega) (by omega)) e8
      · rw [h2 y (by omega) (by omega) (by omega)]
        exact e9
    · rename_i q
      rw [if_neg q] at h
      split
      · rename_i q2
        rw [if_pos q2] at h
        obtain ⟨k1, k2, w, la, ha, x, e1, e2, e3, e4, e5, e6, e7, e8⟩ := h
        have bx := e7.bd
        refine ⟨a1.trans k1, a2.trans k2, w, la, ha, x, e1, e2, e3, a3.trans e4, ?_, ?_, ?_, ?_⟩
        · rw [(h1 w (by omega) (by omega)).2.1]
          exact e5
        · rw [h2 w (by omega) (by omega) (by omega)]
          exact e6
        · exact iha la ha x (fun j j1 j2 => h1 j (by omega) (by omega)) (fun j j1 j2 _ => h2 j (by omega) (by omega) (by omega)) e7
        · rw [h2 x (by omega) (by omega) (by omega)]
          exact e8
      · rename_i q2
        rw [if_neg q2] at h
        obtain ⟨k1, k2, la, ha, x, e1, e2, e3, e4, e5⟩ := h
        have bx := e4.bd
        refine ⟨a1.trans k1, a2.trans k2, la, ha, x, e1, e2, a3.trans e3, ?_, ?_⟩
        · exact iha la ha x (fun j j1 j2 => h1 j (by omega) (by omega)) (fun j j1 j2 _ => h2 j (by omega) (by omega) (by omega)) e4
        · rw [h2 x (by omega) (by omega) (by omega)]
          exact e5
theorem ME.wd {T : TX} {τ : SX12} {e : Tr} {lo hi lo' hi' i : Nat} (h : ME T τ e lo hi i) (h1 : lo' ≤ lo) (h2 : hi ≤ hi') : ME T τ e lo' hi' i := by
  cases e with
  | leaf t =>
    obtain ⟨g1, g2, g⟩ := h
    exact ⟨by omega, by omega, g⟩
  | branch p a b =>
    obtain ⟨g1, g2, h⟩ := h
    refine ⟨by omega, by omega, ?_⟩
    split
    · rename_i q
      rw [if_pos q] at h
      obtain ⟨k1, k2, la, ha, x, lb, hb, y, e1, e2, e3, e4, e5⟩ := h
      exact ⟨k1, k2, la, ha, x, lb, hb, y, by omega, e2, e3, by omega, e5⟩
    · rename_i q
      rw [if_neg q] at h
      split
      · rename_i q2
        rw [if_pos q2] at h
        obtain ⟨k1, k2, w, la, ha, x, e1, e2, e3, e4⟩ := h
        exact ⟨k1, k2, w, la, ha, x, e1, e2, by omega, e4⟩
      · rename_i q2
        rw [if_neg q2] at h
        obtain ⟨k1, k2, la, ha, x, e1, e2, e3⟩ := h
        exact ⟨k1, k2, la, ha, x, e1, by omega, e3⟩
abbrev mNd (τ : SX12) (q : Nat) (k a : Int32) : SX12 := (((τ.1.1.1, ((τ.1.1.2.1.1, (τ.1.1.2.1.2.1, (nI (q + 1)))), ((upd τ.1.1.2.2.1 q k), ((upd τ.1.1.2.2.2.1 q a), (upd τ.1.1.2.2.2.2 q (-1)))))), ((((upd τ.1.2.1.1.1 q (-1)), ((upd τ.1.2.1.1.2.1 q 0), τ.1.2.1.1.2.2)), τ.1.2.1.2), τ.1.2.2)), τ.2)
theorem m_node {τ : SX12} {q : Nat} {k a : Int32} {post : Int32 → SX12 → Prop} (hq : NQ τ q) (hl : q < 9000) (hp : post (nI q) (mNd τ q k a)) : wp_X12_node τ k a post := by
  unfold wp_X12_node
  rw [hq.1]
  have hin : vp_in (nI q) 9000 := in_k hl (by omega)
  refine ⟨hin, fun y1 e1 => ⟨hin, fun y2 e2 => ⟨hin, fun y3 e3 => ⟨hin, fun y4 e4 => ⟨hin, fun y5 e5 y6 e6 => ?_⟩⟩⟩⟩⟩
  rw [nI_clamp (by omega)] at e1 e2 e3 e4 e5
  rw [nb0] at e5
  have e6 : y6 = nI (q + 1) := e6.trans (nI_1 q)
  have e7 : nI (q + 1) - 1 = nI q := nI_pred q
  rw [e6, e7, e1, e2, e3, e4, e5]
  exact hp
theorem NQ.nd {τ : SX12} {q : Nat} (h : NQ τ q) (k a : Int32) : NQ (mNd τ q k a) (q + 1) := by
  refine ⟨rfl, fun j hj => ?_⟩
  show upd τ.1.2.1.1.2.1 q 0 j = 0
  by_cases e : j = q
  · rw [e]
    exact pk_us
  · rw [pk_un e]
    exact h.2 j (by omega)
theorem mNd_of (τ : SX12) (q : Nat) (k a : Int32) : MOF τ (mNd τ q k a) := ⟨rfl, rfl, rfl, rfl, rfl⟩
theorem mNd_hp (τ : SX12) {q q' : Nat} (hq : q' ≤ q) (k a : Int32) : HP τ (mNd τ q k a) q' := by
  intro i hi
  have ne : i ≠ q := by omega
  exact ⟨pk_un ne, pk_un ne, pk_un ne, pk_un ne⟩
/-- a row of brothers -/
def Ch (nx : Nat → Int32) : Nat → List Nat → Prop
  | c, [] => nx c = -1
  | c, d :: l => nx c = nI d ∧ d < 9000 ∧ Ch nx d l
def lastN : Nat → List Nat → Nat
  | c, [] => c
  | _, d :: l => lastN d l
theorem m_add25 {τ : SX12} {x : Int32} {post : SX12 → Prop} : ∀ (l : List Nat) (c m : Nat), c < 9000 → Ch τ.1.2.1.1.1 c l → l.length < m → post ((τ.1.1, ((((upd τ.1.2.1.1.1 (lastN c l) x), τ.1.2.1.1.2), τ.1.2.1.2), τ.1.2.2)), τ.2) → wp_X12_add_25 post m τ x (nI c) := by
  intro l
  induction l with
  | nil =>
    intro c m hc hch hm hp
    cases m with
    | zero => omega
    | succ m =>
      have hin : vp_in (nI c) 9000 := in_k hc (by omega)
      have e : τ.1.2.1.1.1 c = -1 := hch
      refine ⟨hin, fun _ => ⟨hin, fun y ey => ?_⟩, fun q => absurd ?_ q⟩
      · have ey : y = upd τ.1.2.1.1.1 c x := by rw [ey]; show upd τ.1.2.1.1.1 (nI c).toNatClampNeg x = _; rw [nI_clamp (by omega)]
        rw [ey]
        exact hp
      · show τ.1.2.1.1.1 (nI c).toNatClampNeg = -1
        rw [nI_clamp (by omega)]
        exact e
  | cons d l ih =>
    intro c m hc hch hm hp
    cases m with
    | zero => omega
    | succ m =>
      have hin : vp_in (nI c) 9000 := in_k hc (by omega)
      obtain ⟨e, hd, hr⟩ := hch
      have ec : τ.1.2.1.1.1 (nI c).toNatClampNeg = nI d := by
        rw [nI_clamp (by omega)]
        exact e
      refine ⟨hin, fun q => absurd (ec.symm.trans q) (nI_nem1 (by omega)), fun _ => ⟨hin, fun y ey => ?_⟩⟩
      have ey : y = nI d := ey.trans ec
      rw [ey]
      exact ih d m hd hr (by simp at hm; omega) hp
theorem m_add0 {τ : SX12} {o : Nat} {x : Int32} {post : SX12 → Prop} (ho : o < 9000) (hf : τ.1.1.2.2.2.2 o = -1) (hp : post (((τ.1.1.1, (τ.1.1.2.1, (τ.1.1.2.2.1, (τ.1.1.2.2.2.1, (upd τ.1.1.2.2.2.2 o x))))), τ.1.2), τ.2)) : wp_X12_add τ (nI o) x post := by
  unfold wp_X12_add
  rw [nI_clamp (by omega)]
  have hin : vp_in (nI o) 9000 := in_k ho (by omega)
  refine ⟨hin, fun q => absurd hf q, fun _ => ⟨hin, fun y ey => ?_⟩⟩
  rw [ey]
  exact hp
theorem m_addC {τ : SX12} {o c : Nat} {l : List Nat} {x : Int32} {post : SX12 → Prop} (ho : o < 9000) (hf : τ.1.1.2.2.2.2 o = nI c) (hc : c < 9000) (hch : Ch τ.1.2.1.1.1 c l) (hp : post ((τ.1.1, ((((upd τ.1.2.1.1.1 (lastN c l) x), τ.1.2.1.1.2), τ.1.2.1.2), τ.1.2.2)), τ.2)) : wp_X12_add τ (nI o) x post := by
  unfold wp_X12_add
  rw [nI_clamp (by omega), hf]
  have hin : vp_in (nI o) 9000 := in_k ho (by omega)
  refine ⟨hin, fun _ => ⟨hin, fun y ey => ⟨l.length + 1, ?_⟩⟩, fun q => absurd q (nI_nem1 (by omega))⟩
  rw [ey]
  exact m_add25 l c _ hc hch (by omega) hp
theorem kM_inj {a b : Nat} (ha : a ≤ 131) (ha2 : a ≤ 10 ∨ 33 ≤ a) (hb : b ≤ 131) (hb2 : b ≤ 10 ∨ 33 ≤ b) (h : nI (kM a) = nI (kM b)) : a = b := by
  have hl : ∀ k, k ≤ 131 → kM k < 2 ^ 31 := by
    intro k hk
    unfold kM
    repeat' split
    all_goals omega
  have h := (nI_eq (hl a ha) (hl b hb)).mp h
  unfold kM at h
  repeat' split at h
  all_goals omega
theorem m_tok {T : TX} {N t : Nat} {τ : SX12} (h : LM τ T N) (ht : t < N) : τ.1.1.1.2.1 t = nI (kM (TK T t)) := (h t ht).1
theorem m_take {T : TX} {N t q k : Nat} {τ : SX12} {post : Int32 → SX12 → Prop} (hN : N ≤ 3001) (h : MI T N τ t q) (hk : k ≤ 131) (hk2 : k ≤ 10 ∨ 33 ≤ k) (hY : TK T t = k → post (nI t) (((τ.1.1.1, (((nI (t + 1)), τ.1.1.2.1.2), τ.1.1.2.2)), τ.1.2), τ.2)) (hF : ¬ TK T t = k → post (nI t) (((τ.1.1.1, ((τ.1.1.2.1.1, (1, τ.1.1.2.1.2.2)), τ.1.1.2.2)), τ.1.2), τ.2)) : wp_X12_take τ (nI (kM k)) post := by
  obtain ⟨h1, h2, h3, h4, h5, h6⟩ := h
  unfold wp_X12_take wp_X12_take_20
  rw [h2, nI_clamp (by omega), m_tok h4 h3]
  refine ⟨fun c => absurd h1 c, fun _ => ⟨in_k (by omega) (by omega), fun c => ?_, fun c => ?_⟩⟩
  · have c := kM_inj (TK_r T t).1 (TK_r T t).2 hk hk2 c
    intro y ey
    have ey : y = nI (t + 1) := ey.trans (nI_1 t)
    have e7 : nI (t + 1) - 1 = nI t := nI_pred t
    rw [ey, e7]
    exact hY c
  · have := hF (fun z => c (by rw [z]))
    rw [← h2] at this ⊢
    exact this
theorem m_takeB {T : TX} {N s t q : Nat} {k : Int32} {τ : SX12} {post : Int32 → SX12 → Prop} (h : MB T N s τ t q) (hp : post (nI t) τ) : wp_X12_take τ k post := by
  obtain ⟨h1, h2, h3, h4, h5, h6⟩ := h
  unfold wp_X12_take wp_X12_take_20
  refine ⟨fun _ => ?_, fun c => absurd (h1.symm.trans c) (by decide)⟩
  rw [h2, ← h1, ← h2]
  rw [← h2] at hp
  exact hp
end MPrim
