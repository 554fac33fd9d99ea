section Mjs
theorem js_z {T : TX} {g : List DD} : ∀ (e : Tr) (m : Nat) (w : Bool) (z : Nat × Nat), js T g e m w = .error z → 0 < z.1 ∧ z.1 < 100 := by
  have lit : ∀ (z : Nat × Nat) (n t : Nat), 0 < n → n < 100 → (Except.error (n, t) : Except (Nat × Nat) Unit) = .error z → 0 < z.1 ∧ z.1 < 100 := by
    intro z n t h1 h2 h3
    cases h3
    exact ⟨h1, h2⟩
  have ljt : ∀ (w r : Bool) (t : Nat) (z : Nat × Nat), jt T g w r t = .error z → 0 < z.1 ∧ z.1 < 100 := by
    intro w r t z h
    unfold jt at h
    split at h
    · cases h
      exact ⟨Nat.succ_pos 0, (by decide : 1 < 100)⟩
    · split at h
      · cases h
        exact ⟨Nat.succ_pos 7, (by decide : 8 < 100)⟩
      · split at h
        · cases h
        · cases h
          exact ⟨Nat.succ_pos 2, (by decide : 3 < 100)⟩
  intro e
  induction e with
  | leaf t =>
    intro m w z h
    cases h
  | branch p a b iha ihb =>
    intro m w z h
    rw [js] at h
    split at h
    · cases ha : js T g a 1 w with
      | error z1 =>
        rw [ha] at h
        cases h
        exact iha _ _ _ ha
      | ok u =>
        rw [ha] at h
        exact ihb _ _ _ h
    · split at h
      · split at h
        · cases ht : jt T g w false (p / 8) with
          | error z1 =>
            rw [ht] at h
            cases h
            exact ljt _ _ _ _ ht
          | ok k =>
            rw [ht] at h
            dsimp only at h
            cases hj : je T g w a with
            | error z1 =>
              rw [hj] at h
              cases h
              exact je_z a _ hj
            | ok s =>
              rw [hj] at h
              dsimp only at h
              split at h
              · exact lit z 7 _ (by decide) (by decide) h
              · cases h
        · split at h
          · cases ht : jt T g w true (p / 8) with
            | error z1 =>
              rw [ht] at h
              cases h
              exact ljt _ _ _ _ ht
            | ok k =>
              rw [ht] at h
              dsimp only at h
              cases hj : je T g w a with
              | error z1 =>
                rw [hj] at h
                cases h
                exact je_z a _ hj
              | ok s =>
                rw [hj] at h
                dsimp only at h
                split at h
                · exact lit z 4 _ (by decide) (by decide) h
                · cases hj2 : je T g w b with
                  | error z1 =>
                    rw [hj2] at h
                    cases h
                    exact je_z b _ hj2
                  | ok s2 =>
                    rw [hj2] at h
                    dsimp only at h
                    split at h
                    · exact lit z 7 _ (by decide) (by decide) h
                    · cases h
          · split at h
            · split at h
              · exact lit z 8 _ (by decide) (by decide) h
              · cases hj : je T g w a with
                | error z1 =>
                  rw [hj] at h
                  cases h
                  exact je_z a _ hj
                | ok s =>
                  rw [hj] at h
                  dsimp only at h
                  split at h
                  · exact lit z 7 _ (by decide) (by decide) h
                  · cases h
            · split at h
              · split at h
                · exact lit z 8 _ (by decide) (by decide) h
                · cases hj : je T g w a with
                  | error z1 =>
                    rw [hj] at h
                    cases h
                    exact je_z a _ hj
                  | ok s =>
                    rw [hj] at h
                    dsimp only at h
                    split at h
                    · exact lit z 6 _ (by decide) (by decide) h
                    · exact ihb _ _ _ h
              · split at h
                · cases hj : je T g w a with
                  | error z1 =>
                    rw [hj] at h
                    cases h
                    exact je_z a _ hj
                  | ok s =>
                    rw [hj] at h
                    exact ihb _ _ _ h
                · cases hj : je T g w a with
                  | error z1 =>
                    rw [hj] at h
                    cases h
                    exact je_z a _ hj
                  | ok s =>
                    rw [hj] at h
                    exact ihb _ _ _ h
      · cases ha : js T g a 0 w with
        | error z1 =>
          rw [ha] at h
          cases h
          exact iha _ _ _ ha
        | ok u =>
          rw [ha] at h
          exact ihb _ _ _ h
/-- how many statements stand in a row -/
def bl : Tr → Nat
  | .leaf _ => 0
  | .branch _ _ b => bl b + 1
/-- how deep the reference's calls for statements lie in one another -/
def fb : Tr → Nat → Nat
  | .leaf _, _ => 0
  | .branch p a b, m => if m = 0 then max (fb a 1) (fb b 0) else if m = 1 then (if p % 8 = 0 then 1 else if p % 8 = 1 then 1 else if p % 8 = 2 then 1 else if p % 8 = 3 then fb b 0 + 2 else if p % 8 = 4 then fb b 0 + 2 else fb b 2 + 2) else max (fb a 0) (fb b 0)
theorem fb_le {T : TX} : ∀ (e : Tr) (m t t' h : Nat), XS T e m t t' h → fb e m ≤ 2 * h + 1 := by
  intro e
  induction e with
  | leaf t => intro m t t' h _; exact Nat.zero_le _
  | branch p a b iha ihb =>
    intro m t t' h hx
    rw [XS] at hx
    rw [fb]
    split at hx
    · rename_i q
      rw [if_pos q]
      obtain ⟨t1, x1, x2⟩ := hx
      exact Nat.max_le.mpr ⟨iha _ _ _ _ x1, ihb _ _ _ _ x2⟩
    · rename_i q
      rw [if_neg q]
      split at hx
      · rename_i q1
        rw [if_pos q1]
        obtain ⟨_, hx⟩ := hx
        split at hx
        · rename_i c
          rw [if_pos c]
          omega
        · rename_i c
          rw [if_neg c]
          split at hx
          · rename_i c
            rw [if_pos c]
            omega
          · rename_i c
            rw [if_neg c]
            split at hx
            · rename_i c
              rw [if_pos c]
              omega
            · rename_i c
              rw [if_neg c]
              split at hx
              · rename_i c
                rw [if_pos c]
                obtain ⟨t1, x1, x2, x3⟩ := hx
                have := ihb _ _ _ _ x3
                omega
              · rename_i c
                rw [if_neg c]
                split at hx
                · rename_i c
                  rw [if_pos c]
                  obtain ⟨t1, x1, x2, x3⟩ := hx
                  have := ihb _ _ _ _ x3
                  omega
                · rename_i c
                  rw [if_neg c]
                  obtain ⟨t1, x1, x2, x3⟩ := hx
                  have := ihb _ _ _ _ x3
                  omega
      · rename_i q1
        rw [if_neg q1]
        obtain ⟨t1, x1, x2⟩ := hx
        exact Nat.max_le.mpr ⟨iha _ _ _ _ x1, ihb _ _ _ _ x2⟩
/-- the reference's nodes of statements with what their names mean -/
def MJS (T : TX) (g : List DD) (τ : SX12) : Tr → Nat → Int32 → Prop
  | .leaf _, _, _ => True
  | .branch p a b, m, x => if m = 0 then MJS T g τ a 1 x ∧ MJS T g τ b 0 (τ.1.2.1.1.1 x.toNatClampNeg)
    else if m = 1 then
      (if p % 8 = 0 then (∃ k, fdI T g (p / 8) = some k ∧ τ.1.2.1.1.2.2 x.toNatClampNeg = nI k) ∧ MJ T g τ a (c1 τ x.toNatClampNeg)
      else if p % 8 = 1 then (∃ k, fdI T g (p / 8) = some k ∧ τ.1.2.1.1.2.2 x.toNatClampNeg = nI k) ∧ MJ T g τ a (c2 τ x.toNatClampNeg) ∧ MJ T g τ b (τ.1.2.1.1.1 (c2 τ x.toNatClampNeg)).toNatClampNeg
      else if p % 8 = 2 then MJ T g τ a (c1 τ x.toNatClampNeg)
      else if p % 8 = 3 then MJ T g τ a (c1 τ x.toNatClampNeg) ∧ MJS T g τ b 0 (τ.1.1.2.2.2.2 (c2 τ x.toNatClampNeg))
      else if p % 8 = 4 then MJ T g τ a (c1 τ x.toNatClampNeg) ∧ τ.1.2.1.1.2.1 x.toNatClampNeg = bi (esc T g a) ∧ MJS T g τ b 0 (τ.1.1.2.2.2.2 (c2 τ x.toNatClampNeg))
      else MJ T g τ a (c1 τ x.toNatClampNeg) ∧ τ.1.2.1.1.2.1 x.toNatClampNeg = bi (esc T g a) ∧ MJS T g τ b 2 (τ.1.2.1.1.1 (c1 τ x.toNatClampNeg)))
    else MJS T g τ a 0 (τ.1.1.2.2.2.2 x.toNatClampNeg) ∧ MJS T g τ b 0 (τ.1.1.2.2.2.2 (τ.1.2.1.1.1 x.toNatClampNeg).toNatClampNeg)
theorem MJS.fr {T : TX} {g : List DD} {τ τ' : SX12} (hf : τ'.1.1.2.2.2.2 = τ.1.1.2.2.2.2) (hn : τ'.1.2.1.1.1 = τ.1.2.1.1.1) : ∀ (e : Tr) (m lo hi : Nat) (x : Int32), hi ≤ 9000 → MS T τ e m lo hi x → (∀ j, lo ≤ j → j < hi → τ'.1.2.1.1.2.2 j = τ.1.2.1.1.2.2 j ∧ τ'.1.2.1.1.2.1 j = τ.1.2.1.1.2.1 j) → MJS T g τ e m x → MJS T g τ' e m x := by
  have e1 : ∀ i, c1 τ' i = c1 τ i := fun i => by unfold c1; rw [hf]
  have e2 : ∀ i, c2 τ' i = c2 τ i := fun i => by unfold c2; rw [e1, hn]
  intro e
  induction e with
  | leaf t => intro m lo hi x _ _ _ _; trivial
  | branch p a b iha ihb =>
    intro m lo hi x hh hm hv h
    rw [MS] at hm
    rw [MJS] at h ⊢
    by_cases m0 : m = 0
    · rw [if_pos m0] at hm h ⊢
      obtain ⟨j, l1, u1, l2, u2, x1, x2, x3, x4, x5, x6, x7, g1, g2⟩ := hm
      rw [x1, nI_clamp (by omega)] at h ⊢
      rw [hn]
      refine ⟨iha 1 l1 u1 _ (by omega) g1 (fun k k1 k2 => hv k (by omega) (by omega)) h.1, ?_⟩
      by_cases q : l2 ≤ hi
      · exact ihb 0 l2 u2 _ (by omega) g2 (fun k k1 k2 => hv k (by omega) (by omega)) h.2
      · exact ihb 0 l2 u2 _ (by omega) g2 (fun k k1 k2 => absurd k1 (by omega)) h.2
    · rw [if_neg m0] at hm h ⊢
      by_cases m1 : m = 1
      · rw [if_pos m1] at hm h ⊢
        obtain ⟨i, la, ha, y, x1, x2, x3, x4, x5, hm⟩ := hm
        by_cases q1 : p % 8 = 1
        · rw [if_pos q1] at hm
          rw [if_neg (by omega), if_pos q1] at h ⊢
          obtain ⟨k0, v, lb, hb, z, y1, y2, y3, y4, y5, y6, y7, y8, y9, y10, y11⟩ := hm
          have b1 := y8.bd
          have b2 := y10.bd
          rw [x1, nI_clamp (by omega)] at h ⊢
          have ev : c1 τ i = v := by unfold c1; rw [y5, nI_clamp (by omega)]
          have ey : c2 τ i = y := by unfold c2; rw [ev, y7, nI_clamp (by omega)]
          rw [e2, hn]
          rw [ey, y9, nI_clamp (by omega)] at h ⊢
          obtain ⟨⟨k, h1, h2⟩, h3, h4⟩ := h
          exact ⟨⟨k, h1, (hv i (by omega) (by omega)).1.trans h2⟩, MJ.fr hf hn a la ha y (by omega) y8 (fun k k1 k2 => (hv k (by omega) (by omega)).1) h3, MJ.fr hf hn b lb hb z (by omega) y10 (fun k k1 k2 => (hv k (by omega) (by omega)).1) h4⟩
        · rw [if_neg q1] at hm
          obtain ⟨y1, y2, hm⟩ := hm
          have b1 := y2.bd
          have ey : c1 τ i = y := by unfold c1; rw [y1, nI_clamp (by omega)]
          have mj : MJ T g τ a (c1 τ i) → MJ T g τ' a (c1 τ' i) := by
            intro w
            rw [e1]
            rw [ey] at w ⊢
            exact MJ.fr hf hn a la ha y (by omega) y2 (fun k k1 k2 => (hv k (by omega) (by omega)).1) w
          rw [x1, nI_clamp (by omega)] at h ⊢
          by_cases q0 : p % 8 = 0
          · rw [if_pos q0] at h ⊢
            obtain ⟨⟨k, h1, h2⟩, h3⟩ := h
            exact ⟨⟨k, h1, (hv i (by omega) (by omega)).1.trans h2⟩, mj h3⟩
          · rw [if_neg q0, if_neg q1] at h ⊢
            rw [if_neg q0] at hm
            by_cases q2 : p % 8 = 2
            · rw [if_pos q2] at h ⊢
              exact mj h
            · rw [if_neg q2] at h hm ⊢
              by_cases q3 : p % 8 = 3
              · rw [if_pos q3] at h hm ⊢
                obtain ⟨k0, z, lb, hb, z1, z2, z3, z4, z5, z6, z7⟩ := hm
                have ez : c2 τ i = z := by unfold c2; rw [ey, z5, nI_clamp (by omega)]
                rw [e2, hf]
                rw [ez] at h ⊢
                exact ⟨mj h.1, ihb 0 lb hb _ (by omega) z6 (fun k k1 k2 => hv k (by omega) (by omega)) h.2⟩
              · rw [if_neg q3] at h hm ⊢
                by_cases q4 : p % 8 = 4
                · rw [if_pos q4] at h hm ⊢
                  obtain ⟨k0, z, lb, hb, z1, z2, z3, z4, z5, z6, z7⟩ := hm
                  have ez : c2 τ i = z := by unfold c2; rw [ey, z5, nI_clamp (by omega)]
                  rw [e2, hf]
                  rw [ez] at h ⊢
                  exact ⟨mj h.1, (hv i (by omega) (by omega)).2.trans h.2.1, ihb 0 lb hb _ (by omega) z6 (fun k k1 k2 => hv k (by omega) (by omega)) h.2.2⟩
                · rw [if_neg q4] at h hm ⊢
                  obtain ⟨k0, lb, z1, z2⟩ := hm
                  refine ⟨mj h.1, (hv i (by omega) (by omega)).2.trans h.2.1, ?_⟩
                  rw [e1, hn]
                  rw [ey] at h ⊢
                  exact ihb 2 lb hi _ hh z2 (fun k k1 k2 => hv k (by omega) (by omega)) h.2.2
      · rw [if_neg m1] at hm h ⊢
        obtain ⟨y, la, ha, z, lb, hb, x1, x2, x3, x4, x5, x6, x7, x8, g1, g2, g3, g4⟩ := hm
        rw [x1, nI_clamp (by omega)] at h ⊢
        rw [hf, hn]
        rw [g2, nI_clamp (by omega)] at h ⊢
        exact ⟨iha 0 la ha _ (by omega) g1 (fun k k1 k2 => hv k (by omega) (by omega)) h.1, ihb 0 lb hb _ (by omega) g3 (fun k k1 k2 => hv k (by omega) (by omega)) h.2⟩
theorem JR.mst {T : TX} {τ τ' : SX12} {lo hi : Nat} (h : JR τ τ' lo hi) {e : Tr} {m l u : Nat} {x : Int32} (hu : u ≤ 9000) (k : MS T τ e m l u x) : MS T τ' e m l u x := by
  obtain ⟨s1, s2, s3, s4⟩ := h.sh
  refine MS.fr (τ := τ) e m l u x hu (fun j _ _ => ?_) (fun j _ _ _ => ?_) k
  · rw [s1, s2, s3]
    exact ⟨rfl, rfl, rfl⟩
  · rw [s4]
/-- what the check of statements leaves -/
def RS (T : TX) (g : List DD) (w : Bool) (τ τ' : SX12) (e : Tr) (m : Nat) (x : Int32) : Prop :=
  (¬ τ.2.1.2.1.1 = 0 → τ'.2.1.2.1.1 = τ.2.1.2.1.1 ∧ τ'.2.1.1.2.2.2 = τ.2.1.1.2.2.2) ∧
  (τ.2.1.2.1.1 = 0 → (js T g e m w = .ok () → τ'.2.1.2.1.1 = 0 ∧ MJS T g τ' e m x) ∧ (∀ z, js T g e m w = .error z → τ'.2.1.2.1.1 = nI z.1 ∧ τ'.2.1.1.2.2.2 = nI z.2))
def CA0 (T : TX) (N : Nat) (g : List DD) (e : Tr) : Prop := ∀ (n lo hi : Nat) (x : Int32) (w : Bool) (τ : SX12) (post : SX12 → Prop) (h t t' M : Nat), fb e 0 ≤ n → MS T τ e 0 lo hi x → WFS T N e 0 → XS T e 0 t t' h → hi ≤ 9000 → MJI T N g τ → (∀ j, lo ≤ j → j < hi → τ.1.2.1.1.2.1 j = 0) → bl e < M → (∀ τ', JR τ τ' lo hi → RS T g w τ τ' e 0 x → post τ') → wp_X12_checkAll_7 (wg_ca n) post M τ (bi w) x
def CA1 (T : TX) (N : Nat) (g : List DD) (e : Tr) : Prop := ∀ (n lo hi : Nat) (x : Int32) (w : Bool) (τ : SX12) (post : Int32 → SX12 → Prop) (h t t' : Nat), fb e 1 ≤ n → MS T τ e 1 lo hi x → WFS T N e 1 → XS T e 1 t t' h → hi ≤ 9000 → MJI T N g τ → (∀ j, lo ≤ j → j < hi → τ.1.2.1.1.2.1 j = 0) → (∀ τ', JR τ τ' lo hi → RS T g w τ τ' e 1 x → post 0 τ') → τ.2.1.2.1.1 = 0 → wg_ca n 1 τ [x, bi w] post
def CA2 (T : TX) (N : Nat) (g : List DD) (e : Tr) : Prop := ∀ (n lo hi i : Nat) (x : Int32) (w s : Bool) (τ : SX12) (post : SX12 → Prop) (h t t' : Nat), fb e 2 ≤ n → MS T τ e 2 lo hi x → WFS T N e 2 → XS T e 2 t t' h → hi ≤ 9000 → MJI T N g τ → (∀ j, lo ≤ j → j < hi → τ.1.2.1.1.2.1 j = 0) → i < lo → τ.1.2.1.1.2.1 i = bi s → (∀ τ', JR τ τ' lo hi → RS T g (w || s) τ τ' e 2 x → post τ') → wp_X12_checkOne_413 (wg_ca (n + 1)) post 3 τ (nI i) (bi w) x
theorem ca_leaf {T : TX} {N : Nat} {g : List DD} (t : Nat) : CA0 T N g (.leaf t) := by
  intro n lo hi x w τ post h t1 t' M hn hm hw hx hh hj hz hM hp
  obtain ⟨M', rfl⟩ : ∃ M', M = M' + 1 := ⟨M - 1, by have : bl (.leaf t) = 0 := rfl; omega⟩
  have hx0 : x = -1 := hm
  show wb_X12_checkAll_7 (wg_ca n) post (fun a => wp_X12_checkAll_7 (wg_ca n) post M' a.1 a.2.1 a.2.2) τ (bi w) x
  exact ⟨fun _ => hp τ (JR.rf _ _ _) ⟨fun _ => ⟨rfl, rfl⟩, fun c => ⟨fun _ => ⟨c, trivial⟩, fun z hz => by cases hz⟩⟩, fun c => absurd hx0 c⟩
theorem ca_cons {T : TX} {N : Nat} {g : List DD} (p : Nat) (a b : Tr) (hA : CA1 T N g a) (hB : CA0 T N g b) (hk : ∀ (τ : SX12) (lo hi j : Nat), MS T τ a 1 lo hi (nI j) → WFS T N a 1 → j < 9000 → hi ≤ 9000 → ¬ τ.1.1.2.2.1 j = 3 ∧ ¬ τ.1.1.2.2.1 j = 4) : CA0 T N g (.branch p a b) := by
  intro n lo hi x w τ post h t t' M hn hm hw hx hh hj hz hM hp
  rw [MS, if_pos rfl] at hm
  obtain ⟨j, l1, u1, l2, u2, x1, x2, x3, x4, x5, x6, x7, g1, g2⟩ := hm
  rw [WFS, if_pos rfl] at hw
  rw [XS, if_pos rfl] at hx
  obtain ⟨tm, xs1, xs2⟩ := hx
  rw [fb, if_pos rfl] at hn
  have hbl : bl (.branch p a b) = bl b + 1 := rfl
  obtain ⟨M', rfl⟩ : ∃ M', M = M' + 1 := ⟨M - 1, by omega⟩
  show wb_X12_checkAll_7 (wg_ca n) post (fun a => wp_X12_checkAll_7 (wg_ca n) post M' a.1 a.2.1 a.2.2) τ (bi w) x
  rw [x1]
  refine ⟨fun c => absurd c (nI_nem1 (by omega)), fun _ => ⟨fun c => hp τ (JR.rf _ _ _) ⟨fun _ => ⟨rfl, rfl⟩, fun z => absurd z c⟩, fun c0 => ⟨in_k (by omega) (by omega), ?_⟩⟩⟩
  rw [nI_clamp (by omega)]
  obtain ⟨n3, n4⟩ := hk τ l1 u1 j g1 hw.1 (by omega) (by omega)
  refine ⟨fun c => absurd c n3, fun _ => ⟨in_k (by omega) (by omega), fun _ => ?_, fun c => absurd c n4⟩⟩
  refine hA n l1 u1 (nI j) w τ _ h t tm (by omega) g1 hw.1 xs1 (by omega) hj (fun k k1 k2 => hz k (by omega) (by omega)) (fun τ1 f1 f2 => ?_) c0
  have nx : τ1.1.2.1.1.1 j = τ.1.2.1.1.1 j := by
    show τ1.1.2.1.1.1 j = _
    rw [f1.sh.2.2.2]
  have ej : js T g (.branch p a b) 0 w = (match js T g a 1 w with | .error z => Except.error z | .ok _ => js T g b 0 w) := by rw [js, if_pos rfl] <;> rfl
  refine ⟨in_k (by omega) (by omega), fun y ey => ?_⟩
  rw [nI_clamp (by omega)] at ey
  have ey : y = τ.1.2.1.1.1 j := ey.trans nx
  rw [ey]
  have hbz : ∀ k, l2 ≤ k → k < u2 → τ1.1.2.1.1.2.1 k = 0 := fun k k1 k2 => (f1.out k (by omega)).1.trans (hz k (by omega) (by omega))
  refine hB n l2 u2 (τ.1.2.1.1.1 j) w τ1 post h tm t' M' (by omega) (f1.mst (by omega) g2) hw.2 xs2 (by omega) (f1.mji hj) hbz (by omega) (fun τ2 k1 k2 => ?_)
  have rr : JR τ τ2 lo hi := by
    by_cases q : l2 ≤ u2
    · exact f1.tr k1 (by omega) (by omega) (by omega) (by omega)
    · have k3 : JR τ1 τ2 l1 u1 := by
        obtain ⟨s, me, o, y, x, rfl, h5⟩ := k1
        exact ⟨s, me, o, y, x, rfl, fun j _ => h5 j (by omega)⟩
      exact f1.tr k3 (by omega) (by omega) (by omega) (by omega)
  refine hp τ2 rr ⟨fun c => absurd c0 c, fun _ => ⟨fun hok => ?_, fun z hz2 => ?_⟩⟩
  · rw [ej] at hok
    cases hja : js T g a 1 w with
    | error z =>
      rw [hja] at hok
      cases hok
    | ok u =>
      rw [hja] at hok
      dsimp only at hok
      obtain ⟨w1, w2⟩ := (f2.2 c0).1 hja
      obtain ⟨v1, v2⟩ := (k2.2 w1).1 hok
      refine ⟨v1, ?_⟩
      rw [MJS, if_pos rfl, x1, nI_clamp (by omega)]
      have nx2 : τ2.1.2.1.1.1 j = τ.1.2.1.1.1 j := by rw [rr.sh.2.2.2]
      rw [nx2]
      exact ⟨MJS.fr (τ := τ1) k1.sh.2.2.1 k1.sh.2.2.2 a 1 l1 u1 (nI j) (by omega) (f1.mst (by omega) g1) (fun k k1' k2' => by
        obtain ⟨o1, o2, o3⟩ := k1.out k (by omega)
        exact ⟨o2, o1⟩) w2, v2⟩
  · rw [ej] at hz2
    cases hja : js T g a 1 w with
    | error z1 =>
      rw [hja] at hz2
      cases hz2
      obtain ⟨w1, w2⟩ := (f2.2 c0).2 z hja
      have hz1 := js_z a 1 w z hja
      have nw : ¬ τ1.2.1.2.1.1 = 0 := by rw [w1]; exact nI_ne0 hz1.1 (by omega)
      obtain ⟨v1, v2⟩ := k2.1 nw
      exact ⟨v1.trans w1, v2.trans w2⟩
    | ok u =>
      rw [hja] at hz2
      dsimp only at hz2
      exact (k2.2 ((f2.2 c0).1 hja).1).2 z hz2
end Mjs
