section Expr
def lv32 (k : Nat) : Int32 := if lvl k < 7 then nI (lvl k) else -1
theorem c_level {k : Nat} {post : Int32 → Unit → Prop} (hk : k ≤ 131) (hp : post (lv32 k) ()) : wp_X4_level (nI k) post := by
  have eq : ∀ b : Nat, b < 256 → (nI k = nI b ↔ k = b) := fun b hb => nI_eq (by omega) (by omega)
  have h37 : (nI k = (37 : Int32)) ↔ k = 37 := eq 37 (by omega)
  have h38 : (nI k = (38 : Int32)) ↔ k = 38 := eq 38 (by omega)
  have h42 : (nI k = (42 : Int32)) ↔ k = 42 := eq 42 (by omega)
  have h43 : (nI k = (43 : Int32)) ↔ k = 43 := eq 43 (by omega)
  have h45 : (nI k = (45 : Int32)) ↔ k = 45 := eq 45 (by omega)
  have h47 : (nI k = (47 : Int32)) ↔ k = 47 := eq 47 (by omega)
  have h60 : (nI k = (60 : Int32)) ↔ k = 60 := eq 60 (by omega)
  have h94 : (nI k = (94 : Int32)) ↔ k = 94 := eq 94 (by omega)
  have h124 : (nI k = (124 : Int32)) ↔ k = 124 := eq 124 (by omega)
  have h128 : (nI k = (128 : Int32)) ↔ k = 128 := eq 128 (by omega)
  have h129 : (nI k = (129 : Int32)) ↔ k = 129 := eq 129 (by omega)
  have h130 : (nI k = (130 : Int32)) ↔ k = 130 := eq 130 (by omega)
  have h131 : (nI k = (131 : Int32)) ↔ k = 131 := eq 131 (by omega)
  unfold wp_X4_level
  simp only [h37, h38, h42, h43, h45, h47, h60, h94, h124, h128, h129, h130, h131]
  by_cases q37 : k = 37
  · subst q37
    have e : lv32 37 = 6 := by decide
    rw [e] at hp
    simp
    exact hp
  · skip
    by_cases q38 : k = 38
    · subst q38
      have e : lv32 38 = 2 := by decide
      rw [e] at hp
      simp
      exact hp
    · skip
      by_cases q42 : k = 42
      · subst q42
        have e : lv32 42 = 6 := by decide
        rw [e] at hp
        simp
        exact hp
      · skip
        by_cases q43 : k = 43
        · subst q43
          have e : lv32 43 = 5 := by decide
          rw [e] at hp
          simp
          exact hp
        · skip
          by_cases q45 : k = 45
          · subst q45
            have e : lv32 45 = 5 := by decide
            rw [e] at hp
            simp
            exact hp
          · skip
            by_cases q47 : k = 47
            · subst q47
              have e : lv32 47 = 6 := by decide
              rw [e] at hp
              simp
              exact hp
            · skip
              by_cases q60 : k = 60
              · subst q60
                have e : lv32 60 = 3 := by decide
                rw [e] at hp
                simp
                exact hp
              · skip
                by_cases q94 : k = 94
                · subst q94
                  have e : lv32 94 = 1 := by decide
                  rw [e] at hp
                  simp
                  exact hp
                · skip
                  by_cases q124 : k = 124
                  · subst q124
                    have e : lv32 124 = 0 := by decide
                    rw [e] at hp
                    simp
                    exact hp
                  · skip
                    by_cases q128 : k = 128
                    · subst q128
                      have e : lv32 128 = 3 := by decide
                      rw [e] at hp
                      simp
                      exact hp
                    · skip
                      by_cases q129 : k = 129
                      · subst q129
                        have e : lv32 129 = 3 := by decide
                        rw [e] at hp
                        simp
                        exact hp
                      · skip
                        by_cases q130 : k = 130
                        · subst q130
                          have e : lv32 130 = 4 := by decide
                          rw [e] at hp
                          simp
                          exact hp
                        · skip
                          by_cases q131 : k = 131
                          · subst q131
                            have e : lv32 131 = 4 := by decide
                            rw [e] at hp
                            simp
                            exact hp
                          · skip
                            have e : lv32 k = -1 := by
                              unfold lv32 lvl
                              simp [q37, q38, q42, q43, q45, q47, q60, q94, q124, q128, q129, q130, q131]
                            rw [e] at hp
                            simp [q37, q38, q42, q43, q45, q47, q60, q94, q124, q128, q129, q130, q131]
                            exact hp
theorem m_rank {k : Nat} {post : Int32 → Unit → Prop} (hk : k ≤ 131) (hk2 : k ≤ 10 ∨ 33 ≤ k) (hp : post (lv32 k) ()) : wp_X12_rank (nI (kM k)) post := by
  have eq : ∀ b : Nat, b ≤ 131 → 33 ≤ b → (nI (kM k) = nI (kM b) ↔ k = b) := fun b hb hb2 => ⟨fun q => kM_inj hk hk2 hb (Or.inr hb2) q, fun q => by rw [q]⟩
  have h37 : (nI (kM k) = (37 : Int32)) ↔ k = 37 := eq 37 (by omega) (by omega)
  have h38 : (nI (kM k) = (38 : Int32)) ↔ k = 38 := eq 38 (by omega) (by omega)
  have h42 : (nI (kM k) = (42 : Int32)) ↔ k = 42 := eq 42 (by omega) (by omega)
  have h43 : (nI (kM k) = (43 : Int32)) ↔ k = 43 := eq 43 (by omega) (by omega)
  have h45 : (nI (kM k) = (45 : Int32)) ↔ k = 45 := eq 45 (by omega) (by omega)
  have h47 : (nI (kM k) = (47 : Int32)) ↔ k = 47 := eq 47 (by omega) (by omega)
  have h60 : (nI (kM k) = (60 : Int32)) ↔ k = 60 := eq 60 (by omega) (by omega)
  have h94 : (nI (kM k) = (94 : Int32)) ↔ k = 94 := eq 94 (by omega) (by omega)
  have h124 : (nI (kM k) = (124 : Int32)) ↔ k = 124 := eq 124 (by omega) (by omega)
  have h128 : (nI (kM k) = (200 : Int32)) ↔ k = 128 := eq 128 (by omega) (by omega)
  have h129 : (nI (kM k) = (201 : Int32)) ↔ k = 129 := eq 129 (by omega) (by omega)
  have h130 : (nI (kM k) = (202 : Int32)) ↔ k = 130 := eq 130 (by omega) (by omega)
  have h131 : (nI (kM k) = (203 : Int32)) ↔ k = 131 := eq 131 (by omega) (by omega)
  unfold wp_X12_rank
  simp only [h37, h38, h42, h43, h45, h47, h60, h94, h124, h128, h129, h130, h131]
  by_cases q37 : k = 37
  · subst q37
    have e : lv32 37 = 6 := by decide
    rw [e] at hp
    simp
    exact hp
  · skip
    by_cases q38 : k = 38
    · subst q38
      have e : lv32 38 = 2 := by decide
      rw [e] at hp
      simp
      exact hp
    · skip
      by_cases q42 : k = 42
      · subst q42
        have e : lv32 42 = 6 := by decide
        rw [e] at hp
        simp
        exact hp
      · skip
        by_cases q43 : k = 43
        · subst q43
          have e : lv32 43 = 5 := by decide
          rw [e] at hp
          simp
          exact hp
        · skip
          by_cases q45 : k = 45
          · subst q45
            have e : lv32 45 = 5 := by decide
            rw [e] at hp
            simp
            exact hp
          · skip
            by_cases q47 : k = 47
            · subst q47
              have e : lv32 47 = 6 := by decide
              rw [e] at hp
              simp
              exact hp
            · skip
              by_cases q60 : k = 60
              · subst q60
                have e : lv32 60 = 3 := by decide
                rw [e] at hp
                simp
                exact hp
              · skip
                by_cases q94 : k = 94
                · subst q94
                  have e : lv32 94 = 1 := by decide
                  rw [e] at hp
                  simp
                  exact hp
                · skip
                  by_cases q124 : k = 124
                  · subst q124
                    have e : lv32 124 = 0 := by decide
                    rw [e] at hp
                    simp
                    exact hp
                  · skip
                    by_cases q128 : k = 128
                    · subst q128
                      have e : lv32 128 = 3 := by decide
                      rw [e] at hp
                      simp
                      exact hp
                    · skip
                      by_cases q129 : k = 129
                      · subst q129
                        have e : lv32 129 = 3 := by decide
                        rw [e] at hp
                        simp
                        exact hp
                      · skip
                        by_cases q130 : k = 130
                        · subst q130
                          have e : lv32 130 = 4 := by decide
                          rw [e] at hp
                          simp
                          exact hp
                        · skip
                          by_cases q131 : k = 131
                          · subst q131
                            have e : lv32 131 = 4 := by decide
                            rw [e] at hp
                            simp
                            exact hp
                          · skip
                            have e : lv32 k = -1 := by
                              unfold lv32 lvl
                              simp [q37, q38, q42, q43, q45, q47, q60, q94, q124, q128, q129, q130, q131]
                            rw [e] at hp
                            simp [q37, q38, q42, q43, q45, q47, q60, q94, q124, q128, q129, q130, q131]
                            exact hp
theorem lvl_le (k : Nat) : lvl k ≤ 7 := by
  unfold lvl
  repeat' split
  all_goals omega
theorem lvl_kind {k : Nat} (h : lvl k < 7) : 33 ≤ k ∧ k ≤ 131 := by
  unfold lvl at h
  repeat' split at h
  all_goals omega
/-- what a reading comes to: the next token and the tree, or the token at which it fails -/
abbrev RO : Type := Nat × Option Tr
def CEx (T : TX) (N L : Nat) (t8 : SX8) (k : Nat) (xs : List Int32) (t : Nat) (o : RO) (n : Nat) : Prop :=
  ∀ (σ : WSX7) (u : Nat) (post : Int32 → WSX7 → Prop), CI T N L t8 σ t u →
    (∀ e, o.2 = some e → ∀ σ', CI T N L t8 σ' o.1 (u + sz T e) → AG σ.2.2 σ'.2.2 0 u → AV σ.2.2 σ'.2.2 0 u → CS T σ'.2.2 e (u + sz T e - 1) → CV T σ'.2.2 e (u + sz T e - 1) → post 0 σ') →
    (o.2 = none → ∀ σ', CF T N L t8 σ' o.1 → post 0 σ') → wg_rd n k σ xs post
def MEx (T : TX) (N : Nat) (k : Nat) (xs : List Int32) (t : Nat) (o : RO) (n : Nat) : Prop :=
  ∀ (τ : SX12) (q : Nat) (post : Int32 → SX12 → Prop), MI T N τ t q →
    (∀ e, o.2 = some e → ∀ τ' q' i, MI T N τ' o.1 q' → q ≤ q' → MOF τ τ' → HP τ τ' q → τ'.1.2.1.1.1 i = -1 → ME T τ' e q q' i → post (nI i) τ') →
    (o.2 = none → ∀ τ' q' i, MB T N 2 τ' o.1 q' → MOF τ τ' → HP τ τ' q → q ≤ i → i < q' → τ'.1.2.1.1.1 i = -1 → post (nI i) τ') → wg_st n k τ xs post
/-- the tokens of an EXPR lie from t on and before t' -/
def SPN (T : TX) : Tr → Nat → Nat → Prop
  | .leaf x, t, t' => t ≤ x ∧ x < t'
  | .branch p a b, t, t' => if p % 2 = 1 then SPN T a t (p / 2) ∧ SPN T b (p / 2 + 1) t' else if TK T (p / 2) = 2 then t ≤ p / 2 ∧ SPN T a (p / 2 + 2) (t' - 1) else t ≤ p / 2 ∧ SPN T a (p / 2 + 1) t'
/-- how deep right parts lie in right parts -/
def rh : Tr → Nat
  | .leaf _ => 0
  | .branch p a b => if p % 2 = 1 then max (rh a) (rh b + 1) else rh a
/-- how deep the reference's calls lie in one another -/
def hc : Tr → Nat
  | .leaf _ => 2
  | .branch p a b => if p % 2 = 1 then max (hc a) (hc b + 1) else hc a + 2
abbrev HH : Type := Nat × Nat
def hle (a b : HH) : Prop := a.1 ≤ b.1 ∧ a.2 ≤ b.2
def hpl (a : HH) (n : Nat) : HH := (a.1 + n, a.2 + n)
def uh (d : Nat) : HH := (7 * ((32 - d) / 2), 5 * (32 - d) + 2)
def hX : HH := (112, 164)
theorem hle.rf (a : HH) : hle a a := ⟨Nat.le_refl _, Nat.le_refl _⟩
theorem hle.pl (a : HH) {m n : Nat} (h : m ≤ n) : hle (hpl a m) (hpl a n) := ⟨Nat.add_le_add_left h _, Nat.add_le_add_left h _⟩
theorem hle.p0 (a : HH) (n : Nat) : hle a (hpl a n) := ⟨Nat.le_add_right _ _, Nat.le_add_right _ _⟩
theorem hle.pp (a : HH) {m n k : Nat} (h : m + k ≤ n) : hle (hpl (hpl a m) k) (hpl a n) := ⟨by show a.1 + m + k ≤ a.1 + n; omega, by show a.2 + m + k ≤ a.2 + n; omega⟩
def XE (T : TX) (e : Tr) (t t' : Nat) (h : HH) : Prop := SPN T e t t' ∧ rh e ≤ h.1 ∧ hc e ≤ h.2
theorem SPN.mono {T : TX} : ∀ (e : Tr) (t t' s s' : Nat), SPN T e t t' → s ≤ t → t' ≤ s' → SPN T e s s' := by
  intro e
  induction e with
  | leaf x =>
    intro t t' s s' h h1 h2
    exact ⟨Nat.le_trans h1 h.1, Nat.lt_of_lt_of_le h.2 h2⟩
  | branch p a b iha ihb =>
    intro t t' s s' h h1 h2
    unfold SPN at h ⊢
    split
    · rename_i q
      rw [if_pos q] at h
      exact ⟨iha _ _ _ _ h.1 h1 (Nat.le_refl _), ihb _ _ _ _ h.2 (Nat.le_refl _) h2⟩
    · rename_i q
      rw [if_neg q] at h
      split
      · rename_i q2
        rw [if_pos q2] at h
        exact ⟨Nat.le_trans h1 h.1, iha _ _ _ _ h.2 (Nat.le_refl _) (by omega)⟩
      · rename_i q2
        rw [if_neg q2] at h
        exact ⟨Nat.le_trans h1 h.1, iha _ _ _ _ h.2 (Nat.le_refl _) h2⟩
theorem XE.mono {T : TX} {e : Tr} {t t' s s' : Nat} {h h' : HH} (x : XE T e t t' h) (h1 : s ≤ t) (h2 : t' ≤ s') (h3 : hle h h') : XE T e s s' h' := ⟨SPN.mono e _ _ _ _ x.1 h1 h2, Nat.le_trans x.2.1 h3.1, Nat.le_trans x.2.2 h3.2⟩
theorem XE.op {T : TX} {a b : Tr} {t t' x : Nat} {h h2 : HH} (xa : XE T a t x h) (xb : XE T b (x + 1) t' h2) (hh : hle (hpl h2 1) h) : XE T (.branch (2 * x + 1) a b) t t' h := by
  have h1 : h2.1 + 1 ≤ h.1 := hh.1
  have h3 : h2.2 + 1 ≤ h.2 := hh.2
  have a1 := xb.2.1
  have a2 := xb.2.2
  refine ⟨?_, ?_, ?_⟩
  · unfold SPN
    rw [if_pos (by omega), show (2 * x + 1) / 2 = x by omega]
    exact ⟨xa.1, xb.1⟩
  · unfold rh
    rw [if_pos (by omega)]
    exact Nat.max_le.mpr ⟨xa.2.1, by omega⟩
  · unfold hc
    rw [if_pos (by omega)]
    exact Nat.max_le.mpr ⟨xa.2.2, by omega⟩
theorem XE.item {T : TX} {a c : Tr} {x t' t1 : Nat} {h h' : HH} (k : TK T x = 2) (xa : XE T a (x + 1 + 1) t1 h) (h1 : t1 + 1 ≤ t') (hh : h.1 ≤ h'.1 ∧ h.2 + 2 ≤ h'.2) : XE T (.branch (2 * x) a c) x t' h' := by
  refine ⟨?_, ?_, ?_⟩
  · unfold SPN
    rw [if_neg (by omega), show 2 * x / 2 = x by omega, if_pos k]
    exact ⟨Nat.le_refl _, SPN.mono a _ _ _ _ xa.1 (Nat.le_refl _) (by omega)⟩
  · unfold rh
    rw [if_neg (by omega)]
    exact Nat.le_trans xa.2.1 hh.1
  · unfold hc
    rw [if_neg (by omega)]
    have := xa.2.2
    omega
theorem XE.un {T : TX} {a c : Tr} {x t' : Nat} {h h' : HH} (k : ¬ TK T x = 2) (xa : XE T a (x + 1) t' h) (hh : h.1 ≤ h'.1 ∧ h.2 + 2 ≤ h'.2) : XE T (.branch (2 * x) a c) x t' h' := by
  refine ⟨?_, ?_, ?_⟩
  · unfold SPN
    rw [if_neg (by omega), show 2 * x / 2 = x by omega, if_neg k]
    exact ⟨Nat.le_refl _, xa.1⟩
  · unfold rh
    rw [if_neg (by omega)]
    exact Nat.le_trans xa.2.1 hh.1
  · unfold hc
    rw [if_neg (by omega)]
    have := xa.2.2
    omega
theorem uh_le (d : Nat) : hle (hpl (uh (d + 1)) 7) hX := by
  unfold uh hpl hle hX
  dsimp only
  omega
theorem uh_1 {d : Nat} (h : d ≤ 30) : (uh (d + 1)).1 ≤ (uh d).1 ∧ (uh (d + 1)).2 + 2 ≤ (uh d).2 := by
  unfold uh
  dsimp only
  omega
theorem uh_2 {d : Nat} (h : d ≤ 30) : (hpl (uh (d + 1 + 1)) 7).1 ≤ (uh d).1 ∧ (hpl (uh (d + 1 + 1)) 7).2 + 2 ≤ (uh d).2 := by
  unfold uh hpl
  dsimp only
  omega
theorem uh_3 {d : Nat} (h : d ≤ 30) : hle (hpl (uh (d + 1 + 1)) 7) (uh d) := ⟨(uh_2 h).1, by have := (uh_2 h).2; omega⟩
def GoodO (T : TX) (N : Nat) (t : Nat) (o : RO) (h : HH) : Prop := (∀ e, o.2 = some e → (WF T N e ∧ XE T e t o.1 h) ∧ t < o.1 ∧ PL T t + sz T e ≤ PL T o.1) ∧ t ≤ o.1 ∧ o.1 < N
theorem GoodO.mono {T : TX} {N t : Nat} {o : RO} {h h' : HH} (g : GoodO T N t o h) (hh : hle h h') : GoodO T N t o h' := ⟨fun e he => ⟨⟨(g.1 e he).1.1, (g.1 e he).1.2.mono (Nat.le_refl _) (Nat.le_refl _) hh⟩, (g.1 e he).2⟩, g.2⟩
/-- a UNARY in d others -/
def UU (T : TX) (N L : Nat) (t8 : SX8) (d f g : Nat) : Prop := ∀ t, t < N → ∃ o, GoodO T N t o (uh d) ∧ (∀ n, f ≤ n → CEx T N L t8 9 [nI d] t o n) ∧ (∀ n, g ≤ n → MEx T N 4 [nI d] t o n)
/-- parts with operators of level l and closer ones between -/
def RR (T : TX) (N L : Nat) (t8 : SX8) (l d f g : Nat) : Prop := ∀ t, t < N → ∃ o, GoodO T N t o (hpl (uh (d + 1)) (7 - l)) ∧ (∀ e, o.2 = some e → lvl (TK T o.1) < l ∨ lvl (TK T o.1) = 7) ∧ (∀ n, f ≤ n → CEx T N L t8 8 [nI l, nI d] t o n) ∧ (∀ n, g ≤ n → MEx T N 3 [nI l, nI (d + 1)] t o n)
/-- what is left to do of the reference's levels, from l + j down to l -/
def PP (n : Nat) (x : Int32) (l : Nat) (post : Int32 → SX12 → Prop) : Nat → Int32 → SX12 → Prop
  | 0 => post
  | j + 1 => fun a τ => wp_X12_level_40 (wg_st (n + (7 - (l + j)))) (PP n x l post j) τ (nI (l + j)) x a
theorem m_levels {n : Nat} {x : Int32} : ∀ (j l : Nat) (τ : SX12) (post : Int32 → SX12 → Prop), l + j = 7 → τ.1.1.2.1.2.1 = 0 → wg_st n 4 τ [x] (PP n x l post j) → wg_st (n + j + 1) 3 τ [nI l, x] post := by
  intro j
  induction j with
  | zero =>
    intro l τ post hl hb h
    have e : l = 7 := by omega
    subst e
    exact ⟨fun c => absurd rfl c, fun _ => h⟩
  | succ j ih =>
    intro l τ post hl hb h
    have ne : ¬ nI l = 7 := fun q => by
      have := (nI_eq (b := 7) (by omega) (by omega)).mp q
      omega
    refine ⟨fun _ => ⟨fun _ => ?_, fun c => absurd hb c⟩, fun c => absurd c ne⟩
    show wg_st (n + j + 1) 3 τ [nI l + 1, x] _
    rw [nI_1]
    refine ih (l + 1) τ _ (by omega) hb ?_
    have key : ∀ i, PP n x (l + 1) (fun r1 τ2 => wp_X12_level_40 (wg_st (n + (j + 1))) post τ2 (nI l) x r1) i = PP n x l post (i + 1) := by
      intro i
      induction i with
      | zero =>
        funext a τ
        show wp_X12_level_40 (wg_st (n + (j + 1))) post τ (nI l) x a = wp_X12_level_40 (wg_st (n + (7 - (l + 0)))) post τ (nI (l + 0)) x a
        rw [show 7 - (l + 0) = j + 1 by omega]
        rfl
      | succ i ih2 =>
        funext a τ
        show wp_X12_level_40 (wg_st (n + (7 - (l + 1 + i)))) (PP n x (l + 1) _ i) τ (nI (l + 1 + i)) x a = wp_X12_level_40 (wg_st (n + (7 - (l + (i + 1))))) (PP n x l post (i + 1)) τ (nI (l + (i + 1))) x a
        rw [ih2, show l + 1 + i = l + (i + 1) by omega]
    rw [key j]
    exact h
theorem m_levelsB {T : TX} {N s t q : Nat} {n : Nat} {x a : Int32} {l : Nat} {τ : SX12} {post : Int32 → SX12 → Prop} (h : MB T N s τ t q) (hp : post a τ) : ∀ j, PP n x l post j a τ := by
  intro j
  induction j with
  | zero => exact hp
  | succ j ih =>
    refine ⟨1, ?_⟩
    exact ⟨fun _ => ih, fun c => absurd (h.1.symm.trans c) (by decide)⟩
end Expr
