section Stmt
/-! trees of statements: mode 0 a row of them, 1 one, 2 the two BLOCKs of an if with else -/
def szS (T : TX) : Tr → Nat → Nat
  | .leaf _, _ => 0
  | .branch p a b, m => if m = 0 then szS T a 1 + szS T b 0 else if m = 1 then
      (if p % 8 = 0 then sz T a + 2 else if p % 8 = 1 then sz T a + sz T b + 3 else if p % 8 = 2 then sz T a + 2 else if p % 8 = 3 then sz T a + szS T b 0 + 4 else if p % 8 = 4 then sz T a + szS T b 0 + 3 else sz T a + szS T b 2 + 3)
      else szS T a 0 + szS T b 0 + 1
def WFS (T : TX) (N : Nat) : Tr → Nat → Prop
  | .leaf _, m => m = 0
  | .branch p a b, m => if m = 0 then WFS T N a 1 ∧ WFS T N b 0 else if m = 1 then p / 8 + 1 < N ∧
      (if p % 8 = 0 then TK T (p / 8) = 2 ∧ WF T N a else if p % 8 = 1 then TK T (p / 8) = 2 ∧ TK T (p / 8 + 1) = 91 ∧ p / 8 + 2 < N ∧ WF T N a ∧ WF T N b else if p % 8 = 2 then TK T (p / 8) = 7 ∧ WF T N a else if p % 8 = 3 then TK T (p / 8) = 10 ∧ WF T N a ∧ WFS T N b 0 else if p % 8 = 4 then TK T (p / 8) = 8 ∧ WF T N a ∧ WFS T N b 0 else p % 8 = 5 ∧ TK T (p / 8) = 8 ∧ WF T N a ∧ WFS T N b 2)
      else WFS T N a 0 ∧ WFS T N b 0
/-- their tokens lie from t on and before t'; BLOCKs lie at most h deep in one another -/
def XS (T : TX) : Tr → Nat → Nat → Nat → Nat → Prop
  | .leaf _, _, t, t', _ => t ≤ t'
  | .branch p a b, m, t, t', h => if m = 0 then ∃ t1, XS T a 1 t t1 h ∧ XS T b 0 t1 t' h else if m = 1 then t ≤ p / 8 ∧
      (if p % 8 = 0 then XE T a (p / 8 + 2) (t' - 1) hX else if p % 8 = 1 then ∃ t1, XE T a (p / 8 + 2) t1 hX ∧ XE T b (t1 + 2) (t' - 1) hX else if p % 8 = 2 then XE T a (p / 8 + 1) (t' - 1) hX
      else if p % 8 = 3 then ∃ t1, XE T a (p / 8 + 2) t1 hX ∧ 0 < h ∧ XS T b 0 (t1 + 2) (t' - 1) (h - 1) else if p % 8 = 4 then ∃ t1, XE T a (p / 8 + 2) t1 hX ∧ 0 < h ∧ XS T b 0 (t1 + 2) (t' - 1) (h - 1)
      else ∃ t1, XE T a (p / 8 + 2) t1 hX ∧ 0 < h ∧ XS T b 2 (t1 + 2) (t' - 1) (h - 1))
      else ∃ t1, XS T a 0 t t1 h ∧ XS T b 0 (t1 + 3) t' h
/-- a node of the class: its kind, place and value -/
def nk (σ : SX4) (i : Nat) (k : Int32) (p : Nat) : Prop := σ.1.1.2 i = k ∧ σ.1.2.1 i = nI p
def nv (σ : SX4) (i : Nat) (k : Int32) (p : Nat) (v : Int32) : Prop := σ.1.1.2 i = k ∧ σ.1.2.1 i = nI p ∧ σ.1.2.2.1 i = v
/-- the class's nodes of statements, from s on -/
def CB (T : TX) (σ : SX4) : Tr → Nat → Nat → Prop
  | .leaf _, _, _ => True
  | .branch p a b, m, s => if m = 0 then CB T σ a 1 s ∧ CB T σ b 0 (s + szS T a 1) else if m = 1 then
      (if p % 8 = 0 then nk σ s 13 (PL T (p / 8)) ∧ CS T σ a (s + sz T a) ∧ nv σ (s + sz T a + 1) 16 (PL T (p / 8)) (nI s)
      else if p % 8 = 1 then nk σ s 14 (PL T (p / 8)) ∧ CS T σ a (s + sz T a) ∧ nv σ (s + sz T a + 1) 15 (PL T (p / 8 + 1)) (nI s) ∧ CS T σ b (s + sz T a + 1 + sz T b) ∧ nv σ (s + sz T a + sz T b + 2) 16 (PL T (p / 8)) (nI s)
      else if p % 8 = 2 then nk σ s 25 (PL T (p / 8)) ∧ CS T σ a (s + sz T a) ∧ nk σ (s + sz T a + 1) 26 (PL T (p / 8))
      else if p % 8 = 3 then nk σ s 21 (PL T (p / 8)) ∧ nk σ (s + 1) 22 (PL T (p / 8)) ∧ CS T σ a (s + 1 + sz T a) ∧ nv σ (s + sz T a + 2) 23 (PL T (p / 8)) (nI (s + 1)) ∧ CB T σ b 0 (s + sz T a + 3) ∧ nv σ (s + sz T a + 3 + szS T b 0) 24 (PL T (p / 8)) (nI (s + sz T a + 2))
      else if p % 8 = 4 then nk σ s 17 (PL T (p / 8)) ∧ CS T σ a (s + sz T a) ∧ nv σ (s + sz T a + 1) 18 (PL T (p / 8)) (-1) ∧ CB T σ b 0 (s + sz T a + 2) ∧ nv σ (s + sz T a + 2 + szS T b 0) 20 (PL T (p / 8)) (nI (s + sz T a + 1))
      else nk σ s 17 (PL T (p / 8)) ∧ CS T σ a (s + sz T a) ∧ nk σ (s + sz T a + 1) 18 (PL T (p / 8)) ∧ CB T σ b 2 (s + sz T a + 2) ∧ nv σ (s + sz T a + 2 + szS T b 2) 20 (PL T (p / 8)) (nI (s + sz T a + 1)))
      else 0 < s ∧ CB T σ a 0 s ∧ σ.1.1.2 (s + szS T a 0) = 19 ∧ σ.1.2.2.1 (s + szS T a 0) = nI (s - 1) ∧ σ.1.2.2.1 (s - 1) = nI (s + szS T a 0) ∧ CB T σ b 0 (s + szS T a 0 + 1)
/-- the values of the EXPRs in them as they were read -/
def CW (T : TX) (σ : SX4) : Tr → Nat → Nat → Prop
  | .leaf _, _, _ => True
  | .branch p a b, m, s => if m = 0 then CW T σ a 1 s ∧ CW T σ b 0 (s + szS T a 1) else if m = 1 then
      (if p % 8 = 0 then CV T σ a (s + sz T a) else if p % 8 = 1 then CV T σ a (s + sz T a) ∧ CV T σ b (s + sz T a + 1 + sz T b)
      else if p % 8 = 2 then CV T σ a (s + sz T a) else if p % 8 = 3 then CV T σ a (s + 1 + sz T a) ∧ CW T σ b 0 (s + sz T a + 3)
      else if p % 8 = 4 then CV T σ a (s + sz T a) ∧ CW T σ b 0 (s + sz T a + 2) else CV T σ a (s + sz T a) ∧ CW T σ b 2 (s + sz T a + 2))
      else CW T σ a 0 s ∧ CW T σ b 0 (s + szS T a 0 + 1)
theorem nk.fr {σ σ' : SX4} {lo hi i p : Nat} {k : Int32} (ha : AG σ σ' lo hi) (h : nk σ i k p) (h1 : lo ≤ i) (h2 : i < hi) : nk σ' i k p := by
  obtain ⟨a1, a2, _⟩ := ha i h1 h2
  exact ⟨a1.trans h.1, a2.trans h.2⟩
theorem nv.fr {σ σ' : SX4} {lo hi i p : Nat} {k v : Int32} (ha : AG σ σ' lo hi) (hv : AV σ σ' lo hi) (h : nv σ i k p v) (h1 : lo ≤ i) (h2 : i < hi) : nv σ' i k p v := by
  obtain ⟨a1, a2, _⟩ := ha i h1 h2
  exact ⟨a1.trans h.1, a2.trans h.2.1, (hv i h1 h2).trans h.2.2⟩
theorem CB.fr {T : TX} {σ σ' : SX4} {lo hi : Nat} (ha : AG σ σ' lo hi) (hv : AV σ σ' lo hi) : ∀ (e : Tr) (m s : Nat), m ≤ 2 → CB T σ e m s → lo + (if m = 2 then 1 else 0) ≤ s → s + szS T e m ≤ hi → CB T σ' e m s := by
  intro e
  induction e with
  | leaf t => intro m s _ _ _ _; trivial
  | branch p a b iha ihb =>
    intro m s hm h h1 h2
    have pa := sz_pos T a
    have pb := sz_pos T b
    unfold CB at h ⊢
    unfold szS at h2
    by_cases m0 : m = 0
    · rw [if_pos m0] at h h2 ⊢
      rw [if_neg (by omega)] at h1
      exact ⟨iha 1 s (by omega) h.1 (by rw [if_neg (by omega)]; omega) (by omega), ihb 0 _ (by omega) h.2 (by rw [if_neg (by omega)]; omega) (by omega)⟩
    · rw [if_neg m0] at h h2 ⊢
      by_cases m1 : m = 1
      · rw [if_pos m1] at h h2 ⊢
        rw [if_neg (by omega)] at h1
        by_cases c0 : p % 8 = 0
        · rw [if_pos c0] at h h2 ⊢
          obtain ⟨g1, g2, g3⟩ := h
          exact ⟨g1.fr ha (by omega) (by omega), CS.fr ha a _ g2 (by omega) (by omega), g3.fr ha hv (by omega) (by omega)⟩
        · rw [if_neg c0] at h h2 ⊢
          by_cases c1 : p % 8 = 1
          · rw [if_pos c1] at h h2 ⊢
            obtain ⟨g1, g2, g3, g4, g5⟩ := h
            exact ⟨g1.fr ha (by omega) (by omega), CS.fr ha a _ g2 (by omega) (by omega), g3.fr ha hv (by omega) (by omega), CS.fr ha b _ g4 (by omega) (by omega), g5.fr ha hv (by omega) (by omega)⟩
          · rw [if_neg c1] at h h2 ⊢
            by_cases c2 : p % 8 = 2
            · rw [if_pos c2] at h h2 ⊢
              obtain ⟨g1, g2, g3⟩ := h
              exact ⟨g1.fr ha (by omega) (by omega), CS.fr ha a _ g2 (by omega) (by omega), g3.fr ha (by omega) (by omega)⟩
            · rw [if_neg c2] at h h2 ⊢
              by_cases c3 : p % 8 = 3
              · rw [if_pos c3] at h h2 ⊢
                obtain ⟨g1, g2, g3, g4, g5, g6⟩ := h
                exact ⟨g1.fr ha (by omega) (by omega), g2.fr ha (by omega) (by omega), CS.fr ha a _ g3 (by omega) (by omega), g4.fr ha hv (by omega) (by omega), ihb 0 _ (by omega) g5 (by rw [if_neg (by omega)]; omega) (by omega), g6.fr ha hv (by omega) (by omega)⟩
              · rw [if_neg c3] at h h2 ⊢
                by_cases c4 : p % 8 = 4
                · rw [if_pos c4] at h h2 ⊢
                  obtain ⟨g1, g2, g3, g4, g5⟩ := h
                  exact ⟨g1.fr ha (by omega) (by omega), CS.fr ha a _ g2 (by omega) (by omega), g3.fr ha hv (by omega) (by omega), ihb 0 _ (by omega) g4 (by rw [if_neg (by omega)]; omega) (by omega), g5.fr ha hv (by omega) (by omega)⟩
                · rw [if_neg c4] at h h2 ⊢
                  obtain ⟨g1, g2, g3, g4, g5⟩ := h
                  exact ⟨g1.fr ha (by omega) (by omega), CS.fr ha a _ g2 (by omega) (by omega), g3.fr ha (by omega) (by omega), ihb 2 _ (by omega) g4 (by rw [if_pos rfl]; omega) (by omega), g5.fr ha hv (by omega) (by omega)⟩
      · rw [if_neg m1] at h h2 ⊢
        obtain ⟨g0, g1, g2, g3, g4, g5⟩ := h
        rw [if_pos (by omega)] at h1
        obtain ⟨a1, _⟩ := ha (s + szS T a 0) (by omega) (by omega)
        refine ⟨g0, iha 0 s (by omega) g1 (by rw [if_neg (by omega)]; omega) (by omega), a1.trans g2, (hv _ (by omega) (by omega)).trans g3, (hv _ (by omega) (by omega)).trans g4, ihb 0 _ (by omega) g5 (by rw [if_neg (by omega)]; omega) (by omega)⟩
theorem CW.fr {T : TX} {σ σ' : SX4} {lo hi : Nat} (hv : AV σ σ' lo hi) : ∀ (e : Tr) (m s : Nat), m ≤ 2 → CW T σ e m s → lo ≤ s → s + szS T e m ≤ hi → CW T σ' e m s := by
  intro e
  induction e with
  | leaf t => intro m s _ _ _ _; trivial
  | branch p a b iha ihb =>
    intro m s hm h h1 h2
    have pa := sz_pos T a
    have pb := sz_pos T b
    unfold CW at h ⊢
    unfold szS at h2
    by_cases m0 : m = 0
    · rw [if_pos m0] at h h2 ⊢
      exact ⟨iha 1 s (by omega) h.1 (by omega) (by omega), ihb 0 _ (by omega) h.2 (by omega) (by omega)⟩
    · rw [if_neg m0] at h h2 ⊢
      by_cases m1 : m = 1
      · rw [if_pos m1] at h h2 ⊢
        by_cases c0 : p % 8 = 0
        · rw [if_pos c0] at h h2 ⊢
          exact CV.fr hv a _ h (by omega) (by omega)
        · rw [if_neg c0] at h h2 ⊢
          by_cases c1 : p % 8 = 1
          · rw [if_pos c1] at h h2 ⊢
            exact ⟨CV.fr hv a _ h.1 (by omega) (by omega), CV.fr hv b _ h.2 (by omega) (by omega)⟩
          · rw [if_neg c1] at h h2 ⊢
            by_cases c2 : p % 8 = 2
            · rw [if_pos c2] at h h2 ⊢
              exact CV.fr hv a _ h (by omega) (by omega)
            · rw [if_neg c2] at h h2 ⊢
              by_cases c3 : p % 8 = 3
              · rw [if_pos c3] at h h2 ⊢
                exact ⟨CV.fr hv a _ h.1 (by omega) (by omega), ihb 0 _ (by omega) h.2 (by omega) (by omega)⟩
              · rw [if_neg c3] at h h2 ⊢
                by_cases c4 : p % 8 = 4
                · rw [if_pos c4] at h h2 ⊢
                  exact ⟨CV.fr hv a _ h.1 (by omega) (by omega), ihb 0 _ (by omega) h.2 (by omega) (by omega)⟩
                · rw [if_neg c4] at h h2 ⊢
                  exact ⟨CV.fr hv a _ h.1 (by omega) (by omega), ihb 2 _ (by omega) h.2 (by omega) (by omega)⟩
      · rw [if_neg m1] at h h2 ⊢
        exact ⟨iha 0 s (by omega) h.1 (by omega) (by omega), ihb 0 _ (by omega) h.2 (by omega) (by omega)⟩
/-- the reference's nodes of statements; x points at the first, or at the one, or at the first of two BLOCKs -/
def MS (T : TX) (τ : SX12) : Tr → Nat → Nat → Nat → Int32 → Prop
  | .leaf _, _, _, _, x => x = -1
  | .branch p a b, m, lo, hi, x => if m = 0 then ∃ j l1 h1 l2 h2, x = nI j ∧ lo ≤ l1 ∧ l1 ≤ j ∧ j < h1 ∧ h1 ≤ hi ∧ h1 ≤ l2 ∧ h2 ≤ hi ∧ MS T τ a 1 l1 h1 (nI j) ∧ MS T τ b 0 l2 h2 (τ.1.2.1.1.1 j)
      else if m = 1 then ∃ i la ha y, x = nI i ∧ lo ≤ i ∧ i < la ∧ ha ≤ hi ∧ τ.1.1.2.2.2.1 i = nI (p / 8) ∧
        (if p % 8 = 1 then τ.1.1.2.2.1 i = 301 ∧ ∃ w lb hb z, i < w ∧ w < la ∧ ha ≤ lb ∧ hb ≤ hi ∧ τ.1.1.2.2.2.2 i = nI w ∧ τ.1.1.2.2.2.1 w = nI (p / 8 + 1) ∧ τ.1.2.1.1.1 w = nI y ∧ ME T τ a la ha y ∧ τ.1.2.1.1.1 y = nI z ∧ ME T τ b lb hb z ∧ τ.1.2.1.1.1 z = -1
        else τ.1.1.2.2.2.2 i = nI y ∧ ME T τ a la ha y ∧ (if p % 8 = 0 then τ.1.1.2.2.1 i = 300 ∧ τ.1.2.1.1.1 y = -1 else if p % 8 = 2 then τ.1.1.2.2.1 i = 6 ∧ τ.1.2.1.1.1 y = -1
          else if p % 8 = 3 then τ.1.1.2.2.1 i = 9 ∧ ∃ z lb hb, ha ≤ z ∧ z < lb ∧ hb ≤ hi ∧ z < hi ∧ τ.1.2.1.1.1 y = nI z ∧ MS T τ b 0 lb hb (τ.1.1.2.2.2.2 z) ∧ τ.1.2.1.1.1 z = -1
          else if p % 8 = 4 then τ.1.1.2.2.1 i = 7 ∧ ∃ z lb hb, ha ≤ z ∧ z < lb ∧ hb ≤ hi ∧ z < hi ∧ τ.1.2.1.1.1 y = nI z ∧ MS T τ b 0 lb hb (τ.1.1.2.2.2.2 z) ∧ τ.1.2.1.1.1 z = -1
          else τ.1.1.2.2.1 i = 7 ∧ ∃ lb, ha ≤ lb ∧ MS T τ b 2 lb hi (τ.1.2.1.1.1 y)))
      else ∃ y la ha z lb hb, x = nI y ∧ lo ≤ y ∧ y < la ∧ y < z ∧ ha ≤ z ∧ z < lb ∧ hb ≤ hi ∧ z < hi ∧ MS T τ a 0 la ha (τ.1.1.2.2.2.2 y) ∧ τ.1.2.1.1.1 y = nI z ∧ MS T τ b 0 lb hb (τ.1.1.2.2.2.2 z) ∧ τ.1.2.1.1.1 z = -1
theorem MS.fr {T : TX} {τ τ' : SX12} : ∀ (e : Tr) (m lo hi : Nat) (x : Int32), hi ≤ 9000 → (∀ j, lo ≤ j → j < hi → τ'.1.1.2.2.1 j = τ.1.1.2.2.1 j ∧ τ'.1.1.2.2.2.1 j = τ.1.1.2.2.2.1 j ∧ τ'.1.1.2.2.2.2 j = τ.1.1.2.2.2.2 j) → (∀ j, lo ≤ j → j < hi → (m = 1 → ¬ x = nI j) → τ'.1.2.1.1.1 j = τ.1.2.1.1.1 j) → MS T τ e m lo hi x → MS T τ' e m lo hi x := by
  intro e
  induction e with
  | leaf t => intro m lo hi x _ _ _ h; exact h
  | branch p a b iha ihb =>
    intro m lo hi x hh h1 h2 h
    unfold MS at h ⊢
    by_cases m0 : m = 0
    · rw [if_pos m0] at h ⊢
      obtain ⟨j, l1, u1, l2, u2, e1, e2, e3, e4, e5, e6, e7, g1, g2⟩ := h
      have nx : ∀ k, lo ≤ k → k < hi → τ'.1.2.1.1.1 k = τ.1.2.1.1.1 k := fun k k1 k2 => h2 k k1 k2 (fun c => absurd c (by omega))
      refine ⟨j, l1, u1, l2, u2, e1, e2, e3, e4, e5, e6, e7, ?_, ?_⟩
      · exact iha 1 l1 u1 _ (by omega) (fun k k1 k2 => h1 k (by omega) (by omega)) (fun k k1 k2 _ => nx k (by omega) (by omega)) g1
      · rw [nx j (by omega) (by omega)]
        by_cases q : l2 ≤ hi
        · exact ihb 0 l2 u2 _ (by omega) (fun k k1 k2 => h1 k (by omega) (by omega)) (fun k k1 k2 _ => nx k (by omega) (by omega)) g2
        · exact ihb 0 l2 u2 _ (by omega) (fun k k1 k2 => absurd k1 (by omega)) (fun k k1 k2 _ => absurd k1 (by omega)) g2
    · rw [if_neg m0] at h ⊢
      by_cases m1 : m = 1
      · rw [if_pos m1] at h ⊢
        obtain ⟨i, la, ha, y, e1, e2, e3, e4, e5, g⟩ := h
        have ne : ∀ k, lo ≤ k → k < hi → ¬ k = i → τ'.1.2.1.1.1 k = τ.1.2.1.1.1 k := by
          intro k k1 k2 k3
          by_cases il : i < hi
          · refine h2 k k1 k2 (fun _ z => ?_)
            rw [e1] at z
            exact k3 ((nI_eq (by omega) (by omega)).mp z).symm
          · exfalso
            by_cases q : p % 8 = 1
            · rw [if_pos q] at g
              obtain ⟨_, w, lb, hb, z, f1, f2, f3, f4, f5, f6, f7, f8, _⟩ := g
              have := f8.bd
              omega
            · rw [if_neg q] at g
              have := g.2.1.bd
              omega
        have ib : i < hi := by
          by_cases q : p % 8 = 1
          · rw [if_pos q] at g
            obtain ⟨_, w, lb, hb, z, f1, f2, f3, f4, f5, f6, f7, f8, _⟩ := g
            have := f8.bd
            omega
          · rw [if_neg q] at g
            have := g.2.1.bd
            omega
        obtain ⟨i1, i2, i3⟩ := h1 i e2 ib
        refine ⟨i, la, ha, y, e1, e2, e3, e4, i2.trans e5, ?_⟩
        by_cases q : p % 8 = 1
        · rw [if_pos q] at g ⊢
          obtain ⟨f0, w, lb, hb, z, f1, f2, f3, f4, f5, f6, f7, f8, f9, f10, f11⟩ := g
          have by8 := f8.bd
          have bz := f10.bd
          refine ⟨i1.trans f0, w, lb, hb, z, f1, f2, f3, f4, i3.trans f5, (h1 w (by omega) (by omega)).2.1.trans f6, (ne w (by omega) (by omega) (by omega)).trans f7, ?_, (ne y (by omega) (by omega) (by omega)).trans f9, ?_, (ne z (by omega) (by omega) (by omega)).trans f11⟩
          · exact ME.fr a la ha y (fun k k1 k2 => h1 k (by omega) (by omega)) (fun k k1 k2 _ => ne k (by omega) (by omega) (by omega)) f8
          · exact ME.fr b lb hb z (fun k k1 k2 => h1 k (by omega) (by omega)) (fun k k1 k2 _ => ne k (by omega) (by omega) (by omega)) f10
        · rw [if_neg q] at g ⊢
          obtain ⟨f0, f1, g⟩ := g
          have by1 := f1.bd
          refine ⟨i3.trans f0, ME.fr a la ha y (fun k k1 k2 => h1 k (by omega) (by omega)) (fun k k1 k2 _ => ne k (by omega) (by omega) (by omega)) f1, ?_⟩
          have ny := ne y (by omega) (by omega) (by omega)
          have blk : ∀ z lb hb, ha ≤ z → z < lb → hb ≤ hi → z < hi → MS T τ b 0 lb hb (τ.1.1.2.2.2.2 z) → MS T τ' b 0 lb hb (τ'.1.1.2.2.2.2 z) := by
            intro z lb hb z1 z2 z3 z4 z5
            rw [(h1 z (by omega) z4).2.2]
            exact ihb 0 lb hb _ (by omega) (fun k k1 k2 => h1 k (by omega) (by omega)) (fun k k1 k2 _ => ne k (by omega) (by omega) (by omega)) z5
          by_cases c0 : p % 8 = 0
          · rw [if_pos c0] at g ⊢
            exact ⟨i1.trans g.1, ny.trans g.2⟩
          · rw [if_neg c0] at g ⊢
            by_cases c2 : p % 8 = 2
            · rw [if_pos c2] at g ⊢
              exact ⟨i1.trans g.1, ny.trans g.2⟩
            · rw [if_neg c2] at g ⊢
              by_cases c3 : p % 8 = 3
              · rw [if_pos c3] at g ⊢
                obtain ⟨k0, z, lb, hb, z1, z2, z3, z4, z5, z6, z7⟩ := g
                exact ⟨i1.trans k0, z, lb, hb, z1, z2, z3, z4, ny.trans z5, blk z lb hb z1 z2 z3 z4 z6, (ne z (by omega) z4 (by omega)).trans z7⟩
              · rw [if_neg c3] at g ⊢
                by_cases c4 : p % 8 = 4
                · rw [if_pos c4] at g ⊢
                  obtain ⟨k0, z, lb, hb, z1, z2, z3, z4, z5, z6, z7⟩ := g
                  exact ⟨i1.trans k0, z, lb, hb, z1, z2, z3, z4, ny.trans z5, blk z lb hb z1 z2 z3 z4 z6, (ne z (by omega) z4 (by omega)).trans z7⟩
                · rw [if_neg c4] at g ⊢
                  obtain ⟨k0, lb, z1, z2⟩ := g
                  refine ⟨i1.trans k0, lb, z1, ?_⟩
                  rw [ny]
                  exact ihb 2 lb hi _ hh (fun k k1 k2 => h1 k (by omega) (by omega)) (fun k k1 k2 _ => ne k (by omega) (by omega) (by omega)) z2
      · rw [if_neg m1] at h ⊢
        have nx : ∀ k, lo ≤ k → k < hi → τ'.1.2.1.1.1 k = τ.1.2.1.1.1 k := fun k k1 k2 => h2 k k1 k2 (fun c => absurd c m1)
        obtain ⟨y, la, ha, z, lb, hb, e1, e2, e3, e3', e4, e5, e6, e7, g1, g2, g3, g4⟩ := h
        refine ⟨y, la, ha, z, lb, hb, e1, e2, e3, e3', e4, e5, e6, e7, ?_, (nx y (by omega) (by omega)).trans g2, ?_, (nx z (by omega) (by omega)).trans g4⟩
        · rw [(h1 y (by omega) (by omega)).2.2]
          exact iha 0 la ha _ (by omega) (fun k k1 k2 => h1 k (by omega) (by omega)) (fun k k1 k2 _ => nx k (by omega) (by omega)) g1
        · rw [(h1 z (by omega) (by omega)).2.2]
          exact ihb 0 lb hb _ (by omega) (fun k k1 k2 => h1 k (by omega) (by omega)) (fun k k1 k2 _ => nx k (by omega) (by omega)) g3
end Stmt
