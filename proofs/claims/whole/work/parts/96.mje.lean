section Mje
abbrev jst (τ : SX12) (s m o : Nat → Int32) (y x : Int32) : SX12 := ((τ.1.1, (((τ.1.2.1.1.1, (s, m)), τ.1.2.1.2), τ.1.2.2)), (((τ.2.1.1.1, (τ.2.1.1.2.1, (τ.2.1.1.2.2.1, x))), ((y, τ.2.1.2.1.2), τ.2.1.2.2)), ((τ.2.2.1.1, (τ.2.2.1.2.1, (o, τ.2.2.1.2.2.2))), τ.2.2.2)))
/-- only what the check writes has changed, and of the nodes only from lo to hi -/
def JR (τ τ' : SX12) (lo hi : Nat) : Prop := ∃ s m o y x, τ' = jst τ s m o y x ∧ ∀ j, (j < lo ∨ hi ≤ j) → s j = τ.1.2.1.1.2.1 j ∧ m j = τ.1.2.1.1.2.2 j ∧ o j = τ.2.2.1.2.2.1 j
theorem JR.rf (τ : SX12) (lo hi : Nat) : JR τ τ lo hi := ⟨τ.1.2.1.1.2.1, τ.1.2.1.1.2.2, τ.2.2.1.2.2.1, τ.2.1.2.1.1, τ.2.1.1.2.2.2, rfl, fun _ _ => ⟨rfl, rfl, rfl⟩⟩
theorem JR.tr {a b c : SX12} {lo hi lo' hi' l m : Nat} (h : JR a b lo hi) (k : JR b c lo' hi') (h1 : l ≤ lo) (h2 : l ≤ lo') (h3 : hi ≤ m) (h4 : hi' ≤ m) : JR a c l m := by
  obtain ⟨s, me, o, y, x, rfl, h5⟩ := h
  obtain ⟨s', me', o', y', x', rfl, k5⟩ := k
  refine ⟨s', me', o', y', x', rfl, fun j hj => ?_⟩
  obtain ⟨a1, a2, a3⟩ := h5 j (by omega)
  obtain ⟨b1, b2, b3⟩ := k5 j (by omega)
  exact ⟨b1.trans a1, b2.trans a2, b3.trans a3⟩
theorem JR.wd {a b : SX12} {lo hi l m : Nat} (h : JR a b lo hi) (h1 : l ≤ lo) (h3 : hi ≤ m) : JR a b l m := by
  obtain ⟨s, me, o, y, x, rfl, h5⟩ := h
  exact ⟨s, me, o, y, x, rfl, fun j hj => h5 j (by omega)⟩
theorem JR.sh {τ τ' : SX12} {lo hi : Nat} (h : JR τ τ' lo hi) : τ'.1.1.2.2.1 = τ.1.1.2.2.1 ∧ τ'.1.1.2.2.2.1 = τ.1.1.2.2.2.1 ∧ τ'.1.1.2.2.2.2 = τ.1.1.2.2.2.2 ∧ τ'.1.2.1.1.1 = τ.1.2.1.1.1 := by
  obtain ⟨s, m, o, y, x, rfl, h5⟩ := h
  exact ⟨rfl, rfl, rfl, rfl⟩
theorem JR.out {τ τ' : SX12} {lo hi : Nat} (h : JR τ τ' lo hi) : ∀ j, (j < lo ∨ hi ≤ j) → τ'.1.2.1.1.2.1 j = τ.1.2.1.1.2.1 j ∧ τ'.1.2.1.1.2.2 j = τ.1.2.1.1.2.2 j ∧ τ'.2.2.1.2.2.1 j = τ.2.2.1.2.2.1 j := by
  obtain ⟨s, m, o, y, x, rfl, h5⟩ := h
  exact h5
theorem JR.me {T : TX} {τ τ' : SX12} {lo hi : Nat} (h : JR τ τ' lo hi) {e : Tr} {l m i : Nat} (k : ME T τ e l m i) : ME T τ' e l m i := by
  obtain ⟨s1, s2, s3, s4⟩ := h.sh
  refine ME.fr (τ := τ) e l m i (fun j _ _ => ?_) (fun j _ _ _ => ?_) k
  · rw [s1, s2, s3]
    exact ⟨rfl, rfl, rfl⟩
  · rw [s4]
/-- the reference's check at work -/
def MJI (T : TX) (N : Nat) (g : List DD) (τ : SX12) : Prop := TM τ T ∧ LM τ T N ∧ NM T g τ
theorem JR.mji {T : TX} {N : Nat} {g : List DD} {τ τ' : SX12} {lo hi : Nat} (h : JR τ τ' lo hi) (k : MJI T N g τ) : MJI T N g τ' := by
  obtain ⟨s, m, o, y, x, rfl, h5⟩ := h
  exact k
theorem m_wrong {τ : SX12} {n t : Int32} {post : SX12 → Prop} (h0 : τ.2.1.2.1.1 = 0 → post (τ.1, (((τ.2.1.1.1, (τ.2.1.1.2.1, (τ.2.1.1.2.2.1, t))), ((n, τ.2.1.2.1.2), τ.2.1.2.2)), τ.2.2))) (h1 : ¬ τ.2.1.2.1.1 = 0 → post τ) : wp_X12_wrong τ n t post := ⟨h1, h0⟩
def c1 (τ : SX12) (i : Nat) : Nat := (τ.1.1.2.2.2.2 i).toNatClampNeg
def c2 (τ : SX12) (i : Nat) : Nat := (τ.1.2.1.1.1 (c1 τ i)).toNatClampNeg
/-- the reference's nodes of an EXPR with what their names mean -/
def MJ (T : TX) (g : List DD) (τ : SX12) : Tr → Nat → Prop
  | .leaf t, i => TK T t = 3 ∨ ∃ k, fdI T g t = some k ∧ τ.1.2.1.1.2.2 i = nI k
  | .branch p a b, i => if p % 2 = 1 then MJ T g τ a (c1 τ i) ∧ MJ T g τ b (c2 τ i) else if TK T (p / 2) = 2 then (∃ k, fdI T g (p / 2) = some k ∧ τ.1.2.1.1.2.2 i = nI k) ∧ MJ T g τ a (c2 τ i) else MJ T g τ a (c1 τ i)
theorem MJ.fr {T : TX} {g : List DD} {τ τ' : SX12} (hf : τ'.1.1.2.2.2.2 = τ.1.1.2.2.2.2) (hn : τ'.1.2.1.1.1 = τ.1.2.1.1.1) : ∀ (e : Tr) (lo hi i : Nat), hi ≤ 9000 → ME T τ e lo hi i → (∀ j, lo ≤ j → j < hi → τ'.1.2.1.1.2.2 j = τ.1.2.1.1.2.2 j) → MJ T g τ e i → MJ T g τ' e i := by
  have e1 : ∀ i, c1 τ' i = c1 τ i := fun i => by unfold c1; rw [hf]
  have e2 : ∀ i, c2 τ' i = c2 τ i := fun i => by unfold c2; rw [e1, hn]
  intro e
  induction e with
  | leaf t =>
    intro lo hi i hh hm hv h
    rcases h with h | ⟨k, h1, h2⟩
    · exact Or.inl h
    · exact Or.inr ⟨k, h1, (hv i hm.1 hm.2.1).trans h2⟩
  | branch p a b iha ihb =>
    intro lo hi i hh hm hv h
    obtain ⟨m1, m2, m3⟩ := hm
    unfold MJ at h ⊢
    rw [e1, e2]
    split
    · rename_i q
      rw [if_pos q] at h m3
      obtain ⟨k1, k2, la, ha, x, lb, hb, y, q1, q2, q3, q4, q5, q6, q7, q8, q9⟩ := m3
      have bx := q6.bd
      have bb := q8.bd
      have ex : c1 τ i = x := by unfold c1; rw [q5, nI_clamp (by omega)]
      have ey : c2 τ i = y := by unfold c2; rw [ex, q7, nI_clamp (by omega)]
      rw [ex, ey] at h ⊢
      exact ⟨iha la ha x (by omega) q6 (fun j j1 j2 => hv j (by omega) (by omega)) h.1, ihb lb hb y (by omega) q8 (fun j j1 j2 => hv j (by omega) (by omega)) h.2⟩
    · rename_i q
      rw [if_neg q] at h m3
      split
      · rename_i q2
        rw [if_pos q2] at h m3
        obtain ⟨k1, k2, w, la, ha, x, r1, r2, r3, r4, r5, r6, r7, r8⟩ := m3
        have bx := r7.bd
        have ew : c1 τ i = w := by unfold c1; rw [r4, nI_clamp (by omega)]
        have ex : c2 τ i = x := by unfold c2; rw [ew, r6, nI_clamp (by omega)]
        rw [ex] at h ⊢
        obtain ⟨⟨k, z1, z2⟩, z3⟩ := h
        exact ⟨⟨k, z1, (hv i m1 m2).trans z2⟩, iha la ha x (by omega) r7 (fun j j1 j2 => hv j (by omega) (by omega)) z3⟩
      · rename_i q2
        rw [if_neg q2] at h m3
        obtain ⟨k1, k2, la, ha, x, r1, r2, r3, r4, r5⟩ := m3
        have bx := r4.bd
        have ex : c1 τ i = x := by unfold c1; rw [r3, nI_clamp (by omega)]
        rw [ex] at h ⊢
        exact iha la ha x (by omega) r4 (fun j j1 j2 => hv j (by omega) (by omega)) h
theorem je_z {T : TX} {g : List DD} {w : Bool} : ∀ (e : Tr) (z : Nat × Nat), je T g w e = .error z → 0 < z.1 ∧ z.1 < 100 := by
  have lit : ∀ (z : Nat × Nat) (n t : Nat), 0 < n → n < 100 → (Except.error (n, t) : Except (Nat × Nat) Bool) = .error z → 0 < z.1 ∧ z.1 < 100 := by
    intro z n t h1 h2 h3
    cases h3
    exact ⟨h1, h2⟩
  intro e
  induction e with
  | leaf t =>
    intro z h
    unfold je at h
    split at h
    · cases h
    · split at h
      · exact lit z 1 _ (by decide) (by decide) h
      · split at h
        · exact lit z 3 _ (by decide) (by decide) h
        · cases h
  | branch p a b iha ihb =>
    intro z h
    rw [je] at h
    split at h
    · cases ha : je T g w a with
      | error z1 =>
        rw [ha] at h
        cases h
        exact iha _ ha
      | ok s1 =>
        rw [ha] at h
        dsimp only at h
        cases hb : je T g w b with
        | error z1 =>
          rw [hb] at h
          cases h
          exact ihb _ hb
        | ok s2 =>
          rw [hb] at h
          dsimp only at h
          split at h
          · split at h
            · exact lit z 8 _ (by decide) (by decide) h
            · split at h
              · exact lit z 5 _ (by decide) (by decide) h
              · cases h
          · cases h
    · split at h
      · cases hf : fdI T g (p / 2) with
        | none =>
          rw [hf] at h
          exact lit z 1 _ (by decide) (by decide) h
        | some k =>
          rw [hf] at h
          dsimp only at h
          split at h
          · exact lit z 8 _ (by decide) (by decide) h
          · split at h
            · cases ha : je T g w a with
              | error z1 =>
                rw [ha] at h
                cases h
                exact iha _ ha
              | ok s1 =>
                rw [ha] at h
                dsimp only at h
                split at h
                · exact lit z 4 _ (by decide) (by decide) h
                · cases h
            · exact lit z 3 _ (by decide) (by decide) h
      · exact iha z h
/-- what the check of an EXPR leaves -/
def RJ (T : TX) (g : List DD) (w : Bool) (τ τ' : SX12) (e : Tr) (i : Nat) : Prop :=
  (¬ τ.2.1.2.1.1 = 0 → τ'.2.1.2.1.1 = τ.2.1.2.1.1 ∧ τ'.2.1.1.2.2.2 = τ.2.1.1.2.2.2) ∧
  (τ.2.1.2.1.1 = 0 → (∀ s, je T g w e = .ok s → τ'.2.1.2.1.1 = 0 ∧ τ'.1.2.1.1.2.1 i = bi s ∧ MJ T g τ' e i) ∧ (∀ z, je T g w e = .error z → τ'.2.1.2.1.1 = nI z.1 ∧ τ'.2.1.1.2.2.2 = nI z.2))
theorem bz_z {b : Bool} (h : bi b = 0) : b = false := eq0_f h
end Mje
