section CStDef
theorem nd_sz (T : TX) : ∀ e : Tr, 2 ^ nd T e ≤ sz T e + 1 := by
  intro e
  induction e with
  | leaf t => exact Nat.le_refl _
  | branch p a b iha ihb =>
    rw [nd, sz]
    split
    · unfold ndP
      split
      · rename_i q
        rw [Nat.pow_succ]
        rw [← q] at ihb
        omega
      · rcases Nat.le_total (nd T a) (nd T b) with h | h
        · rw [Nat.max_eq_right h]
          omega
        · rw [Nat.max_eq_left h]
          omega
    · split <;> omega
theorem nd_11 {T : TX} {e : Tr} (h : sz T e ≤ 3000) : nd T e ≤ 11 := by
  have h1 := nd_sz T e
  by_cases q : nd T e ≤ 11
  · exact q
  · have : 2 ^ 12 ≤ 2 ^ nd T e := Nat.pow_le_pow_right (by omega) (by omega)
    omega
/-! what is written for statements -/
def STP (M B : Nat → Int32) (w : Bool) (s a b : Nat) : Prop := if w = true then b = a else M a = wJ 1 (nI (4 * 514) - nI (4 * a)) ∧ b = a + 1 ∧ B s = nI (4 * b)
def CSX (T : TX) (g : List DD) (M B : Nat → Int32) : Tr → Nat → Nat → Bool → Nat → Nat → Nat → Prop
  | .leaf _, _, _, _, _, a, b => a = b
  | .branch p x y, m, s, w, h, a, b => if m = 0 then ∃ c, CSX T g M B x 1 s w h a c ∧ CSX T g M B y 0 (s + szS T x 1) w h c b
    else if m = 1 then
      (if p % 8 = 0 then ∃ a1 c, STP M B w s a a1 ∧ CX T g M B x (s + sz T x) 0 h a1 c ∧ (if w = true then M c = wL 7 0 (nI (4 * fw T g (nmk T g (p / 8)))) ∧ M (c + 1) = wJ 1 (nI (4 * 519) - nI (4 * (c + 1))) ∧ M (c + 2) = wS 6 0 (4 * fw T g (nmk T g (p / 8))) ∧ b = c + 3 else M c = wS 6 0 (4 * fw T g (nmk T g (p / 8))) ∧ b = c + 1)
      else if p % 8 = 1 then ∃ a1 c d, STP M B w s a a1 ∧ CX T g M B x (s + sz T x) 0 h a1 c ∧ M c = wJ 1 (nI (4 * (532 + 5 * nrw g + 5 * nrw (g.take (nmk T g (p / 8))))) - nI (4 * c)) ∧ B (s + sz T x + 1) = nI (4 * (c + 1)) ∧ M (c + 1) = wS 6 0 (1200 + 4 * h) ∧ CX T g M B y (s + sz T x + 1 + sz T y) 0 (h + 1) (c + 2) d ∧ M d = wL 7 0 (nI (1200 + 4 * h)) ∧ M (d + 1) = wS 6 7 0 ∧ b = d + 2
      else if p % 8 = 2 then ∃ a1 c, STP M B w s a a1 ∧ CX T g M B x (s + sz T x) 0 h a1 c ∧ M c = wJ 1 (nI (4 * 523) - nI (4 * c)) ∧ b = c + 1 ∧ B (s + sz T x + 1) = nI (4 * b)
      else if p % 8 = 3 then ∃ a1 a2 c d, STP M B w s a a1 ∧ STP M B w (s + 1) a1 a2 ∧ CX T g M B x (s + 1 + sz T x) 0 h a2 c ∧ M c = wB (nI 1) (nI 6) (nI 0) 8 ∧ M (c + 1) = wJ 0 (nI (4 * b) - nI (4 * (c + 1))) ∧ CSX T g M B y 0 (s + sz T x + 3) w h (c + 2) d ∧ M d = wJ 0 (nI (4 * a1) - nI (4 * d)) ∧ b = d + 1
      else ∃ a1 c, STP M B w s a a1 ∧ CX T g M B x (s + sz T x) 0 h a1 c ∧ (if esc T g x = true then M c = wS 3 0 (1200 + 4 * h) ∧ M (c + 1) = wI 3 6 6 (nI 1) ∧ M (c + 2) = wI 0 6 6 (-1) ∧ M (c + 3) = wR 0 7 3 3 6 ∧ ∃ d, CSX T g M B y (if p % 8 = 4 then 0 else 3) (s + sz T x + 2) true (h + 1) (c + 4) d ∧ M d = wL 3 0 (nI (1200 + 4 * h)) ∧ b = d + 1
        else M c = wB (nI 1) (nI 6) (nI 0) 8 ∧ (p % 8 = 4 → M (c + 1) = wJ 0 (nI (4 * b) - nI (4 * (c + 1)))) ∧ CSX T g M B y (if p % 8 = 4 then 0 else 2) (s + sz T x + 2) w h (c + 2) b))
    else if m = 2 then ∃ d, M (a - 1) = wJ 0 (nI (4 * (d + 1)) - nI (4 * (a - 1))) ∧ CSX T g M B x 0 s w h a d ∧ M d = wJ 0 (nI (4 * b) - nI (4 * d)) ∧ CSX T g M B y 0 (s + szS T x 0 + 1) w h (d + 1) b
    else ∃ d, CSX T g M B x 0 s w h a d ∧ M d = wL 5 0 (nI (1200 + 4 * (h - 1))) ∧ M (d + 1) = wR 0 4 3 3 5 ∧ CSX T g M B y 0 (s + szS T x 0 + 1) w h (d + 2) b
theorem STP.le {M B : Nat → Int32} {w : Bool} {s a b : Nat} (h : STP M B w s a b) : a ≤ b ∧ b ≤ a + 1 := by
  unfold STP at h
  split at h <;> omega
theorem STP.fr {M B M' B' : Nat → Int32} {w : Bool} {s a b : Nat} (h : STP M B w s a b) (hm : ∀ j, a ≤ j → j < b → M' j = M j) (hb : B' s = B s) : STP M' B' w s a b := by
  unfold STP at h ⊢
  split
  · rename_i q
    rw [if_pos q] at h
    exact h
  · rename_i q
    rw [if_neg q] at h
    rw [hm a (by omega) (by omega), hb]
    exact h
theorem CSX.le {T : TX} {g : List DD} {M B : Nat → Int32} : ∀ (e : Tr) (m s : Nat) (w : Bool) (h a b : Nat), CSX T g M B e m s w h a b → a ≤ b := by
  intro e
  induction e with
  | leaf t =>
    intro m s w h a b hc
    rw [CSX] at hc
    omega
  | branch p x y ihx ihy =>
    intro m s w h a b hc
    rw [CSX] at hc
    by_cases m0 : m = 0
    · rw [if_pos m0] at hc
      obtain ⟨c, h1, h2⟩ := hc
      have := ihx _ _ _ _ _ _ h1
      have := ihy _ _ _ _ _ _ h2
      omega
    · rw [if_neg m0] at hc
      by_cases m1 : m = 1
      · rw [if_pos m1] at hc
        by_cases c0 : p % 8 = 0
        · rw [if_pos c0] at hc
          obtain ⟨a1, c, h1, h2, h3⟩ := hc
          have := h1.le
          have := CX.le _ _ _ _ _ _ h2
          split at h3 <;> omega
        · rw [if_neg c0] at hc
          by_cases c1 : p % 8 = 1
          · rw [if_pos c1] at hc
            obtain ⟨a1, c, d, h1, h2, h3, h4, h5, h6, h7, h8, h9⟩ := hc
            have := h1.le
            have := CX.le _ _ _ _ _ _ h2
            have := CX.le _ _ _ _ _ _ h6
            omega
          · rw [if_neg c1] at hc
            by_cases c2 : p % 8 = 2
            · rw [if_pos c2] at hc
              obtain ⟨a1, c, h1, h2, h3, h4, h5⟩ := hc
              have := h1.le
              have := CX.le _ _ _ _ _ _ h2
              omega
            · rw [if_neg c2] at hc
              by_cases c3 : p % 8 = 3
              · rw [if_pos c3] at hc
                obtain ⟨a1, a2, c, d, h1, h2, h3, h4, h5, h6, h7, h8⟩ := hc
                have := h1.le
                have := h2.le
                have := CX.le _ _ _ _ _ _ h3
                have := ihy _ _ _ _ _ _ h6
                omega
              · rw [if_neg c3] at hc
                obtain ⟨a1, c, h1, h2, h3⟩ := hc
                have := h1.le
                have := CX.le _ _ _ _ _ _ h2
                split at h3
                · obtain ⟨k1, k2, k3, k4, d, k5, k6, k7⟩ := h3
                  have := ihy _ _ _ _ _ _ k5
                  omega
                · obtain ⟨k1, k2, k3⟩ := h3
                  have := ihy _ _ _ _ _ _ k3
                  omega
      · rw [if_neg m1] at hc
        split at hc
        · obtain ⟨d, h0, h1, h2, h3⟩ := hc
          have := ihx _ _ _ _ _ _ h1
          have := ihy _ _ _ _ _ _ h3
          omega
        · obtain ⟨d, h1, h2, h3, h4⟩ := hc
          have := ihx _ _ _ _ _ _ h1
          have := ihy _ _ _ _ _ _ h4
          omega
/-- how many nodes, in the coder's modes -/
def szM (m : Nat) : Nat := if m = 3 then 2 else m
theorem CSX.fr {T : TX} {g : List DD} {M B M' B' : Nat → Int32} : ∀ (e : Tr) (m s : Nat) (w : Bool) (h a b : Nat), m ≤ 3 → CSX T g M B e m s w h a b → (∀ j, a ≤ j + (if m = 2 then 1 else 0) → j < b → M' j = M j) → (m = 2 → 0 < a) → (∀ j, s ≤ j → j < s + szS T e (szM m) → B' j = B j) → CSX T g M' B' e m s w h a b := by
  intro e
  induction e with
  | leaf t =>
    intro m s w h a b hm3 hc hm h2a hb
    rw [CSX] at hc ⊢
    exact hc
  | branch p x y ihx ihy =>
    intro m s w h a b hm3 hc hm h2a hb
    have px := sz_pos T x
    have py := sz_pos T y
    have hl := CSX.le _ _ _ _ _ _ _ hc
    rw [CSX] at hc ⊢
    by_cases m0 : m = 0
    · rw [if_pos m0] at hc ⊢
      have e0 : szS T (.branch p x y) (szM m) = szS T x 1 + szS T y 0 := by rw [m0]; rfl
      rw [e0] at hb
      rw [if_neg (by omega)] at hm
      obtain ⟨c, h1, h2⟩ := hc
      have l1 := CSX.le _ _ _ _ _ _ _ h1
      have l2 := CSX.le _ _ _ _ _ _ _ h2
      exact ⟨c, ihx 1 _ _ _ _ _ (by omega) h1 (fun j j1 j2 => hm j (by rw [if_neg (by omega)] at j1; omega) (by omega)) (fun c => absurd c (by omega)) (fun j j1 j2 => hb j (by omega) (by have : szS T x (szM 1) = szS T x 1 := rfl; omega)), ihy 0 _ _ _ _ _ (by omega) h2 (fun j j1 j2 => hm j (by rw [if_neg (by omega)] at j1; omega) (by omega)) (fun c => absurd c (by omega)) (fun j j1 j2 => hb j (by omega) (by have : szS T y (szM 0) = szS T y 0 := rfl; omega))⟩
    · rw [if_neg m0] at hc ⊢
      by_cases m1 : m = 1
      · rw [if_pos m1] at hc ⊢
        have e0 : szS T (.branch p x y) (szM m) = (if p % 8 = 0 then sz T x + 2 else if p % 8 = 1 then sz T x + sz T y + 3 else if p % 8 = 2 then sz T x + 2 else if p % 8 = 3 then sz T x + szS T y 0 + 4 else if p % 8 = 4 then sz T x + szS T y 0 + 3 else sz T x + szS T y 2 + 3) := by rw [m1]; rfl
        rw [e0] at hb
        rw [if_neg (by omega)] at hm
        by_cases c0 : p % 8 = 0
        · rw [if_pos c0] at hc hb ⊢
          obtain ⟨a1, c, h1, h2, h3⟩ := hc
          have l1 := h1.le
          have l2 := CX.le _ _ _ _ _ _ h2
          refine ⟨a1, c, h1.fr (fun j j1 j2 => hm j (by omega) (by split at h3 <;> omega)) (hb s (by omega) (by omega)), CX.fr _ _ _ _ _ _ h2 (by omega) (fun j j1 j2 => hm j (by omega) (by split at h3 <;> omega)) (fun j j1 j2 => hb j (by omega) (by omega)), ?_⟩
          split
          · rename_i qw
            rw [if_pos qw] at h3
            rw [hm c (by omega) (by omega), hm (c + 1) (by omega) (by omega), hm (c + 2) (by omega) (by omega)]
            exact h3
          · rename_i qw
            rw [if_neg qw] at h3
            rw [hm c (by omega) (by omega)]
            exact h3
        · rw [if_neg c0] at hc hb ⊢
          by_cases c1 : p % 8 = 1
          · rw [if_pos c1] at hc hb ⊢
            obtain ⟨a1, c, d, h1, h2, h3, h4, h5, h6, h7, h8, h9⟩ := hc
            have l1 := h1.le
            have l2 := CX.le _ _ _ _ _ _ h2
            have l3 := CX.le _ _ _ _ _ _ h6
            refine ⟨a1, c, d, h1.fr (fun j j1 j2 => hm j (by omega) (by omega)) (hb s (by omega) (by omega)), CX.fr _ _ _ _ _ _ h2 (by omega) (fun j j1 j2 => hm j (by omega) (by omega)) (fun j j1 j2 => hb j (by omega) (by omega)), ?_, ?_, ?_, CX.fr _ _ _ _ _ _ h6 (by omega) (fun j j1 j2 => hm j (by omega) (by omega)) (fun j j1 j2 => hb j (by omega) (by omega)), ?_, ?_, h9⟩
            · rw [hm c (by omega) (by omega)]; exact h3
            · rw [hb _ (by omega) (by omega)]; exact h4
            · rw [hm (c + 1) (by omega) (by omega)]; exact h5
            · rw [hm d (by omega) (by omega)]; exact h7
            · rw [hm (d + 1) (by omega) (by omega)]; exact h8
          · rw [if_neg c1] at hc hb ⊢
            by_cases c2 : p % 8 = 2
            · rw [if_pos c2] at hc hb ⊢
              obtain ⟨a1, c, h1, h2, h3, h4, h5⟩ := hc
              have l1 := h1.le
              have l2 := CX.le _ _ _ _ _ _ h2
              refine ⟨a1, c, h1.fr (fun j j1 j2 => hm j (by omega) (by omega)) (hb s (by omega) (by omega)), CX.fr _ _ _ _ _ _ h2 (by omega) (fun j j1 j2 => hm j (by omega) (by omega)) (fun j j1 j2 => hb j (by omega) (by omega)), ?_, h4, ?_⟩
              · rw [hm c (by omega) (by omega)]; exact h3
              · rw [hb _ (by omega) (by omega)]; exact h5
            · rw [if_neg c2] at hc hb ⊢
              by_cases c3 : p % 8 = 3
              · rw [if_pos c3] at hc hb ⊢
                obtain ⟨a1, a2, c, d, h1, h2, h3, h4, h5, h6, h7, h8⟩ := hc
                have l1 := h1.le
                have l2 := h2.le
                have l3 := CX.le _ _ _ _ _ _ h3
                have l4 := CSX.le _ _ _ _ _ _ _ h6
                have ez : szS T y (szM 0) = szS T y 0 := rfl
                refine ⟨a1, a2, c, d, h1.fr (fun j j1 j2 => hm j (by omega) (by omega)) (hb s (by omega) (by omega)), h2.fr (fun j j1 j2 => hm j (by omega) (by omega)) (hb (s + 1) (by omega) (by omega)), CX.fr _ _ _ _ _ _ h3 (by omega) (fun j j1 j2 => hm j (by omega) (by omega)) (fun j j1 j2 => hb j (by omega) (by omega)), ?_, ?_, ihy 0 _ _ _ _ _ (by omega) h6 (fun j j1 j2 => hm j (by rw [if_neg (by omega)] at j1; omega) (by omega)) (fun c => absurd c (by omega)) (fun j j1 j2 => hb j (by omega) (by omega)), ?_, h8⟩
                · rw [hm c (by omega) (by omega)]; exact h4
                · rw [hm (c + 1) (by omega) (by omega)]; exact h5
                · rw [hm d (by omega) (by omega)]; exact h7
              · rw [if_neg c3] at hc hb ⊢
                obtain ⟨a1, c, h1, h2, h3⟩ := hc
                have l1 := h1.le
                have l2 := CX.le _ _ _ _ _ _ h2
                have hsz : ∀ k, k = (if p % 8 = 4 then 0 else 2) → szS T y k + sz T x + 3 = (if p % 8 = 4 then sz T x + szS T y 0 + 3 else sz T x + szS T y 2 + 3) := by
                  intro k hk
                  rw [hk]
                  split <;> omega
                by_cases qe : esc T g x = true
                · rw [if_pos qe] at h3
                  obtain ⟨k1, k2, k3, k4, d, k5, k6, k7⟩ := h3
                  have l3 := CSX.le _ _ _ _ _ _ _ k5
                  have hs := hsz _ rfl
                  refine ⟨a1, c, h1.fr (fun j j1 j2 => hm j (by omega) (by omega)) (hb s (by omega) (by omega)), CX.fr _ _ _ _ _ _ h2 (by omega) (fun j j1 j2 => hm j (by omega) (by omega)) (fun j j1 j2 => hb j (by omega) (by omega)), ?_⟩
                  rw [if_pos qe, hm c (by omega) (by omega), hm (c + 1) (by omega) (by omega), hm (c + 2) (by omega) (by omega), hm (c + 3) (by omega) (by omega)]
                  have e3 : ¬ (if p % 8 = 4 then 0 else 3) = 2 := by split <;> omega
                  refine ⟨k1, k2, k3, k4, d, ihy _ _ _ _ _ _ (by split <;> omega) k5 (fun j j1 j2 => hm j (by rw [if_neg e3] at j1; omega) (by omega)) (fun c => absurd c e3) (fun j j1 j2 => hb j (by omega) ?_), by rw [hm d (by omega) (by omega)]; exact k6, k7⟩
                  have ez : szM (if p % 8 = 4 then 0 else 3) = (if p % 8 = 4 then 0 else 2) := by split <;> rfl
                  rw [ez] at j2
                  omega
                · rw [if_neg qe] at h3
                  obtain ⟨k1, k2, k3⟩ := h3
                  have l3 := CSX.le _ _ _ _ _ _ _ k3
                  have hs := hsz _ rfl
                  refine ⟨a1, c, h1.fr (fun j j1 j2 => hm j (by omega) (by omega)) (hb s (by omega) (by omega)), CX.fr _ _ _ _ _ _ h2 (by omega) (fun j j1 j2 => hm j (by omega) (by omega)) (fun j j1 j2 => hb j (by omega) (by omega)), ?_⟩
                  rw [if_neg qe, hm c (by omega) (by omega), hm (c + 1) (by omega) (by omega)]
                  have e3 : ∀ k : Nat, (if k = 2 then 1 else 0) ≤ 1 := fun k => by split <;> omega
                  refine ⟨k1, k2, ihy _ _ _ _ _ _ (by split <;> omega) k3 (fun j j1 j2 => hm j (by have := e3 (if p % 8 = 4 then 0 else 2); omega) (by omega)) (fun _ => by omega) (fun j j1 j2 => hb j (by omega) ?_)⟩
                  have ez : szM (if p % 8 = 4 then 0 else 2) = (if p % 8 = 4 then 0 else 2) := by split <;> rfl
                  rw [ez] at j2
                  omega
      · rw [if_neg m1] at hc ⊢
        have e0 : szS T (.branch p x y) (szM m) = szS T x 0 + szS T y 0 + 1 := by
          have : m = 2 ∨ m = 3 := by omega
          rcases this with e | e <;> (rw [e]; rfl)
        rw [e0] at hb
        have ex : szS T x (szM 0) = szS T x 0 := rfl
        have ey : szS T y (szM 0) = szS T y 0 := rfl
        by_cases m2 : m = 2
        · rw [if_pos m2] at hc hm ⊢
          have h0a := h2a m2
          obtain ⟨d, h0, h1, h2, h3⟩ := hc
          have l1 := CSX.le _ _ _ _ _ _ _ h1
          have l2 := CSX.le _ _ _ _ _ _ _ h3
          refine ⟨d, ?_, ihx 0 _ _ _ _ _ (by omega) h1 (fun j j1 j2 => hm j (by rw [if_neg (by omega)] at j1; omega) (by omega)) (fun c => absurd c (by omega)) (fun j j1 j2 => hb j (by omega) (by omega)), ?_, ihy 0 _ _ _ _ _ (by omega) h3 (fun j j1 j2 => hm j (by rw [if_neg (by omega)] at j1; omega) (by omega)) (fun c => absurd c (by omega)) (fun j j1 j2 => hb j (by omega) (by omega))⟩
          · rw [hm (a - 1) (by omega) (by omega)]; exact h0
          · rw [hm d (by omega) (by omega)]; exact h2
        · rw [if_neg m2] at hc hm ⊢
          obtain ⟨d, h1, h2, h3, h4⟩ := hc
          have l1 := CSX.le _ _ _ _ _ _ _ h1
          have l2 := CSX.le _ _ _ _ _ _ _ h4
          refine ⟨d, ihx 0 _ _ _ _ _ (by omega) h1 (fun j j1 j2 => hm j (by rw [if_neg (by omega)] at j1; omega) (by omega)) (fun c => absurd c (by omega)) (fun j j1 j2 => hb j (by omega) (by omega)), ?_, ?_, ihy 0 _ _ _ _ _ (by omega) h4 (fun j j1 j2 => hm j (by rw [if_neg (by omega)] at j1; omega) (by omega)) (fun c => absurd c (by omega)) (fun j j1 j2 => hb j (by omega) (by omega))⟩
          · rw [hm d (by omega) (by omega)]; exact h2
          · rw [hm (d + 1) (by omega) (by omega)]; exact h3
/-- the bytes of statements -/
def wS' (T : TX) : Tr → Nat → Nat
  | .leaf _, _ => 0
  | .branch p x y, m => if m = 0 then wS' T x 1 + wS' T y 0 else if m = 1 then
      (if p % 8 = 0 then 3 + wt T x else if p % 8 = 1 then 5 + wt T x + wt T y else if p % 8 = 2 then 3 + wt T x else if p % 8 = 3 then 6 + wt T x + wS' T y 0 else if p % 8 = 4 then 6 + wt T x + wS' T y 0 else 6 + wt T x + wS' T y 2)
      else wS' T x 0 + 3 + wS' T y 0
theorem XS.le {T : TX} : ∀ (e : Tr) (m t t' h : Nat), XS T e m t t' h → t ≤ t' := by
  intro e
  induction e with
  | leaf x =>
    intro m t t' h hx
    rw [XS] at hx
    exact hx
  | branch p x y ihx ihy =>
    intro m t t' h hx
    rw [XS] at hx
    by_cases m0 : m = 0
    · rw [if_pos m0] at hx
      obtain ⟨t1, h1, h2⟩ := hx
      have := ihx _ _ _ _ h1
      have := ihy _ _ _ _ h2
      omega
    · rw [if_neg m0] at hx
      by_cases m1 : m = 1
      · rw [if_pos m1] at hx
        obtain ⟨h0, hx⟩ := hx
        by_cases c0 : p % 8 = 0
        · rw [if_pos c0] at hx
          have := SPN.lt _ _ _ hx.1
          omega
        · rw [if_neg c0] at hx
          by_cases c1 : p % 8 = 1
          · rw [if_pos c1] at hx
            obtain ⟨t1, h1, h2⟩ := hx
            have := SPN.lt _ _ _ h1.1
            have := SPN.lt _ _ _ h2.1
            omega
          · rw [if_neg c1] at hx
            by_cases c2 : p % 8 = 2
            · rw [if_pos c2] at hx
              have := SPN.lt _ _ _ hx.1
              omega
            · rw [if_neg c2] at hx
              by_cases c3 : p % 8 = 3
              · rw [if_pos c3] at hx
                obtain ⟨t1, h1, h2, h3⟩ := hx
                have := SPN.lt _ _ _ h1.1
                have := ihy _ _ _ _ h3
                omega
              · rw [if_neg c3] at hx
                by_cases c4 : p % 8 = 4
                · rw [if_pos c4] at hx
                  obtain ⟨t1, h1, h2, h3⟩ := hx
                  have := SPN.lt _ _ _ h1.1
                  have := ihy _ _ _ _ h3
                  omega
                · rw [if_neg c4] at hx
                  obtain ⟨t1, h1, h2, h3⟩ := hx
                  have := SPN.lt _ _ _ h1.1
                  have := ihy _ _ _ _ h3
                  omega
      · rw [if_neg m1] at hx
        obtain ⟨t1, h1, h2⟩ := hx
        have := ihx _ _ _ _ h1
        have := ihy _ _ _ _ h2
        omega
theorem wS_span {T : TX} {N : Nat} (hN : LT T N) : ∀ (e : Tr) (m t t' h : Nat), WFS T N e m → XS T e m t t' h → t' < N → PL T t + wS' T e m ≤ PL T t' := by
  have nx : ∀ s, s + 1 < N → PL T s + 1 ≤ PL T (s + 1) := fun s hs => PL_succ (hN.2.2.2 s hs)
  intro e
  induction e with
  | leaf x =>
    intro m t t' h hw hx ht
    rw [XS] at hx
    exact PL_mono _ _ hx
  | branch p x y ihx ihy =>
    intro m t t' h hw hx ht
    rw [XS] at hx
    rw [WFS] at hw
    rw [wS']
    by_cases m0 : m = 0
    · rw [if_pos m0] at hx hw ⊢
      obtain ⟨t1, h1, h2⟩ := hx
      have l2 := XS.le _ _ _ _ _ h2
      have := ihx _ _ _ _ hw.1 h1 (by omega)
      have := ihy _ _ _ _ hw.2 h2 ht
      omega
    · rw [if_neg m0] at hx hw ⊢
      by_cases m1 : m = 1
      · rw [if_pos m1] at hx hw ⊢
        obtain ⟨h0, hx⟩ := hx
        obtain ⟨w0, hw⟩ := hw
        have p0 := PL_mono (T := T) _ _ h0
        by_cases c0 : p % 8 = 0
        · rw [if_pos c0] at hx hw ⊢
          have l := SPN.lt _ _ _ hx.1
          have := wt_span hN _ _ _ hw.2 hx.1 (by omega)
          have := nx (p / 8) (by omega)
          have := nx (p / 8 + 1) (by omega)
          have := nx (t' - 1) (by omega)
          rw [show t' - 1 + 1 = t' by omega] at this
          rw [show p / 8 + 1 + 1 = p / 8 + 2 by omega] at *
          omega
        · rw [if_neg c0] at hx hw ⊢
          by_cases c1 : p % 8 = 1
          · rw [if_pos c1] at hx hw ⊢
            obtain ⟨t1, h1, h2⟩ := hx
            have l := SPN.lt _ _ _ h1.1
            have l2 := SPN.lt _ _ _ h2.1
            have k1 := wt_span hN _ _ _ hw.2.2.2.1 h1.1 (by omega)
            have k2 := wt_span hN _ _ _ hw.2.2.2.2 h2.1 (by omega)
            have k3 := nx (p / 8) (by omega)
            have k4 := nx (p / 8 + 1) (by omega)
            have k5 := nx t1 (by omega)
            have k6 := nx (t1 + 1) (by omega)
            have k7 := nx (t' - 1) (by omega)
            rw [show t' - 1 + 1 = t' by omega] at k7
            rw [show p / 8 + 1 + 1 = p / 8 + 2 by omega] at k4
            rw [show t1 + 1 + 1 = t1 + 2 by omega] at k6
            omega
          · rw [if_neg c1] at hx hw ⊢
            by_cases c2 : p % 8 = 2
            · rw [if_pos c2] at hx hw ⊢
              have l := SPN.lt _ _ _ hx.1
              have k1 := wt_span hN _ _ _ hw.2 hx.1 (by omega)
              have k2 := LN_word (T := T) (t := p / 8) (by omega) (by omega)
              have k3 := nx (t' - 1) (by omega)
              rw [show t' - 1 + 1 = t' by omega] at k3
              omega
            · rw [if_neg c2] at hx hw ⊢
              have body : ∀ (mm : Nat) (hh : Nat), TK T (p / 8) = 10 ∨ TK T (p / 8) = 8 → WF T N x → WFS T N y mm → (∃ t1, XE T x (p / 8 + 2) t1 hX ∧ 0 < hh ∧ XS T y mm (t1 + 2) (t' - 1) (hh - 1)) → PL T t + (6 + wt T x + wS' T y mm) ≤ PL T t' := by
                intro mm hh hk w1 w2 hx
                obtain ⟨t1, h1, h2, h3⟩ := hx
                have l := SPN.lt _ _ _ h1.1
                have l2 := XS.le _ _ _ _ _ h3
                have k1 := wt_span hN _ _ _ w1 h1.1 (by omega)
                have k2 := ihy _ _ _ _ w2 h3 (by omega)
                have k3 := LN_word (T := T) (t := p / 8) (by omega) (by omega)
                have k4 := nx (p / 8 + 1) (by omega)
                have k5 := nx t1 (by omega)
                have k6 := nx (t1 + 1) (by omega)
                have k7 := nx (t' - 1) (by omega)
                rw [show t' - 1 + 1 = t' by omega] at k7
                rw [show p / 8 + 1 + 1 = p / 8 + 2 by omega] at k4
                rw [show t1 + 1 + 1 = t1 + 2 by omega] at k6
                omega
              by_cases c3 : p % 8 = 3
              · rw [if_pos c3] at hx hw ⊢
                exact body 0 h (Or.inl hw.1) hw.2.1 hw.2.2 hx
              · rw [if_neg c3] at hx hw ⊢
                by_cases c4 : p % 8 = 4
                · rw [if_pos c4] at hx hw ⊢
                  exact body 0 h (Or.inr hw.1) hw.2.1 hw.2.2 hx
                · rw [if_neg c4] at hx hw ⊢
                  exact body 2 h (Or.inr hw.2.1) hw.2.2.1 hw.2.2.2 hx
      · rw [if_neg m1] at hx hw ⊢
        obtain ⟨t1, h1, h2⟩ := hx
        have l2 := XS.le _ _ _ _ _ h2
        have k1 := ihx _ _ _ _ hw.1 h1 (by omega)
        have k2 := ihy _ _ _ _ hw.2 h2 ht
        have k3 := nx t1 (by omega)
        have k4 := nx (t1 + 1) (by omega)
        have k5 := nx (t1 + 1 + 1) (by omega)
        rw [show t1 + 1 + 1 + 1 = t1 + 3 by omega] at k5
        omega
/-- the judge keeps the nodes' links -/
theorem CB.jn {T : TX} {σ σ' : SX4} {lo hi : Nat} (h : JN σ σ' lo hi) : ∀ (e : Tr) (m s : Nat), CB T σ e m s → (m = 2 → σ.1.1.2 (s - 1) = 18) → m ≤ 2 → CB T σ' e m s := by
  have hk : ∀ j, σ'.1.1.2 j = σ.1.1.2 j := fun j => by rw [h.1.2.1]
  have hpl : ∀ j, σ'.1.2.1 j = σ.1.2.1 j := fun j => by rw [h.1.2.2.1]
  have nkj : ∀ i k p, nk σ i k p → nk σ' i k p := fun i k p x => ⟨(hk i).trans x.1, (hpl i).trans x.2⟩
  have nvj : ∀ i k p v, kN k = true → nv σ i k p v → nv σ' i k p v := fun i k p v c x => ⟨(hk i).trans x.1, (hpl i).trans x.2.1, (h.2.2 i (by rw [x.1]; exact c)).trans x.2.2⟩
  have csj : ∀ (e : Tr) (i : Nat), CS T σ e i → CS T σ' e i := fun e i x => CS.fr (lo := 0) (hi := i + 1) (h.ag 0 (i + 1)) e i x (by have := x.hd.2.2.2; omega) (by omega)
  intro e
  induction e with
  | leaf t => intro m s hc h2 _; trivial
  | branch p x y ihx ihy =>
    intro m s hc h2 hz
    rw [CB] at hc ⊢
    by_cases m0 : m = 0
    · rw [if_pos m0] at hc ⊢
      exact ⟨ihx _ _ hc.1 (fun c => absurd c (by omega)) (by omega), ihy _ _ hc.2 (fun c => absurd c (by omega)) (by omega)⟩
    · rw [if_neg m0] at hc ⊢
      by_cases m1 : m = 1
      · rw [if_pos m1] at hc ⊢
        by_cases c0 : p % 8 = 0
        · rw [if_pos c0] at hc ⊢
          exact ⟨nkj _ _ _ hc.1, csj _ _ hc.2.1, nvj _ _ _ _ (by decide) hc.2.2⟩
        · rw [if_neg c0] at hc ⊢
          by_cases c1 : p % 8 = 1
          · rw [if_pos c1] at hc ⊢
            exact ⟨nkj _ _ _ hc.1, csj _ _ hc.2.1, nvj _ _ _ _ (by decide) hc.2.2.1, csj _ _ hc.2.2.2.1, nvj _ _ _ _ (by decide) hc.2.2.2.2⟩
          · rw [if_neg c1] at hc ⊢
            by_cases c2 : p % 8 = 2
            · rw [if_pos c2] at hc ⊢
              exact ⟨nkj _ _ _ hc.1, csj _ _ hc.2.1, nkj _ _ _ hc.2.2⟩
            · rw [if_neg c2] at hc ⊢
              by_cases c3 : p % 8 = 3
              · rw [if_pos c3] at hc ⊢
                exact ⟨nkj _ _ _ hc.1, nkj _ _ _ hc.2.1, csj _ _ hc.2.2.1, nvj _ _ _ _ (by decide) hc.2.2.2.1, ihy _ _ hc.2.2.2.2.1 (fun c => absurd c (by omega)) (by omega), nvj _ _ _ _ (by decide) hc.2.2.2.2.2⟩
              · rw [if_neg c3] at hc ⊢
                by_cases c4 : p % 8 = 4
                · rw [if_pos c4] at hc ⊢
                  exact ⟨nkj _ _ _ hc.1, csj _ _ hc.2.1, nvj _ _ _ _ (by decide) hc.2.2.1, ihy _ _ hc.2.2.2.1 (fun c => absurd c (by omega)) (by omega), nvj _ _ _ _ (by decide) hc.2.2.2.2⟩
                · rw [if_neg c4] at hc ⊢
                  exact ⟨nkj _ _ _ hc.1, csj _ _ hc.2.1, nkj _ _ _ hc.2.2.1, ihy _ _ hc.2.2.2.1 (fun _ => by rw [show s + sz T x + 2 - 1 = s + sz T x + 1 by omega]; exact hc.2.2.1.1) (by omega), nvj _ _ _ _ (by decide) hc.2.2.2.2⟩
      · rw [if_neg m1] at hc ⊢
        obtain ⟨g0, g1, g2, g3, g4, g5⟩ := hc
        by_cases m2 : m = 2
        · exact ⟨g0, ihx _ _ g1 (fun c => absurd c (by omega)) (by omega), (hk _).trans g2, (h.2.2 _ (by rw [g2]; decide)).trans g3, (h.2.2 _ (by rw [h2 m2]; decide)).trans g4, ihy _ _ g5 (fun c => absurd c (by omega)) (by omega)⟩
        · omega
end CStDef
