section Sem
/-! what a program means -/
def uF (k : Nat) : Nat := if k = 37 ∨ k = 42 ∨ k = 47 then 1 else if k = 45 ∨ k = 131 then 32 else 0
def kF (k : Nat) : Nat := if k = 37 then 6 else if k = 38 then 7 else if k = 47 then 4 else if k = 60 then 2 else if k = 94 then 4 else if k = 124 then 6 else if k = 130 then 1 else if k = 131 then 5 else 0
def two (k : Nat) (x y : Int32) : Int32 := if k = 128 then jv (nI 4) (rv 0 2 y x) 1 else if k = 129 then jv (nI 3) (rv 0 4 x y) 1 else rv (uF k) (kF k) x y
def one (k : Nat) (x : Int32) : Int32 := if k = 45 then rv 32 0 0 x else if k = 126 then jv (nI 4) x (-1) else jv (nI 3) x 1
theorem lvl_k {k : Nat} (h : lvl k < 7) : k = 124 ∨ k = 94 ∨ k = 38 ∨ k = 60 ∨ k = 128 ∨ k = 129 ∨ k = 130 ∨ k = 131 ∨ k = 43 ∨ k = 45 ∨ k = 42 ∨ k = 47 ∨ k = 37 := by
  unfold lvl at h
  by_cases h1 : k = 124
  · omega
  rw [if_neg h1] at h
  by_cases h1 : k = 94
  · omega
  rw [if_neg h1] at h
  by_cases h1 : k = 38
  · omega
  rw [if_neg h1] at h
  by_cases h1 : k = 60
  · omega
  rw [if_neg h1] at h
  by_cases h1 : k = 128
  · omega
  rw [if_neg h1] at h
  by_cases h1 : k = 129
  · omega
  rw [if_neg h1] at h
  by_cases h1 : k = 130
  · omega
  rw [if_neg h1] at h
  by_cases h1 : k = 131
  · omega
  rw [if_neg h1] at h
  by_cases h1 : k = 43
  · omega
  rw [if_neg h1] at h
  by_cases h1 : k = 45
  · omega
  rw [if_neg h1] at h
  by_cases h1 : k = 42
  · omega
  rw [if_neg h1] at h
  by_cases h1 : k = 47
  · omega
  rw [if_neg h1] at h
  by_cases h1 : k = 37
  · omega
  rw [if_neg h1] at h
  omega
theorem jv3 (x : Int32) : jv (nI 3) x 1 = if x = 0 then 1 else 0 := by
  have e : jv (nI 3) x 1 = (if ((1 : Int32) ^^^ (-2147483648)) ≤ (x ^^^ (-2147483648)) then 0 else 1) := rfl
  rw [e]
  by_cases q : x = 0
  · rw [if_pos q, q]
    decide
  · rw [if_neg q, if_pos]
    rw [Int32.le_iff_toInt_le]
    have h1 : ((1 : Int32) ^^^ (-2147483648)).toInt = -2147483647 := by decide
    rw [h1]
    have h2 : -2147483648 ≤ (x ^^^ (-2147483648)).toInt := by
      rcases i32_toInt (x ^^^ (-2147483648)) with ⟨a, b⟩ | ⟨a, b, c⟩ <;> omega
    have h3 : ¬ (x ^^^ (-2147483648)).toInt = -2147483648 := by
      intro c
      have : x ^^^ (-2147483648) = -2147483648 := Int32.toInt_inj.mp (by rw [c]; decide)
      have h4 : x = (x ^^^ (-2147483648)) ^^^ (-2147483648) := by
        rw [Int32.xor_assoc, Int32.xor_self, Int32.xor_zero]
      rw [this] at h4
      exact q (h4.trans (by decide))
    omega
theorem two_le (x y : Int32) : two 128 x y = if y < x then 0 else 1 := by
  have e : two 128 x y = (if x ≤ y then (0 : Int32) else 1) ^^^ 1 := rfl
  rw [e]
  by_cases q : x ≤ y
  · rw [if_pos q, if_neg (Int32.not_lt.mpr q)]
    decide
  · rw [if_neg q, if_pos (Int32.not_le.mp q)]
    decide
theorem two_eq (x y : Int32) : two 129 x y = if x = y then 1 else 0 := by
  have e : two 129 x y = jv (nI 3) (x ^^^ y) 1 := rfl
  rw [e, jv3]
  by_cases q : x = y
  · rw [if_pos q, if_pos (by rw [q, Int32.xor_self])]
  · rw [if_neg q, if_neg]
    intro c
    apply q
    have : x = (x ^^^ y) ^^^ y := by rw [Int32.xor_assoc, Int32.xor_self, Int32.xor_zero]
    rw [c, Int32.zero_xor] at this
    exact this
/-- the reference's operators -/
theorem m_two {τ : SX12} {k : Nat} {x y : Int32} {Q : Int32 → SX12 → Prop} (hk : lvl k < 7) (h : Q (two k x y) τ) : wp_X12_two τ (nI (kM k)) x y Q := by
  have n : ∀ (a b : Int32) (A B : Prop), ¬ a = b → B → (a = b → A) ∧ (¬ a = b → B) := fun a b A B h1 h2 => ⟨fun c => absurd c h1, fun _ => h2⟩
  have yy : ∀ (a : Int32) (A B : Prop), A → (a = a → A) ∧ (¬ a = a → B) := fun a A B h1 => ⟨fun _ => h1, fun c => absurd rfl c⟩
  unfold wp_X12_two
  rcases lvl_k hk with rfl | rfl | rfl | rfl | rfl | rfl | rfl | rfl | rfl | rfl | rfl | rfl | rfl
  · exact n _ _ _ _ (by decide) (n _ _ _ _ (by decide) (n _ _ _ _ (by decide) (n _ _ _ _ (by decide) (n _ _ _ _ (by decide) (n _ _ _ _ (by decide) (n _ _ _ _ (by decide) (yy _ _ _ h)))))))
  · exact n _ _ _ _ (by decide) (n _ _ _ _ (by decide) (n _ _ _ _ (by decide) (n _ _ _ _ (by decide) (n _ _ _ _ (by decide) (n _ _ _ _ (by decide) (yy _ _ _ h))))))
  · exact yy _ _ _ h
  · refine n _ _ _ _ (by decide) (n _ _ _ _ (by decide) (n _ _ _ _ (by decide) (n _ _ _ _ (by decide) (n _ _ _ _ (by decide) (yy _ _ _ ?_)))))
    have e : two 60 x y = if y ≤ x then 0 else 1 := rfl
    rw [e] at h
    exact ⟨fun c => by rw [if_pos c] at h; exact h, fun c => by rw [if_neg c] at h; exact h⟩
  · refine n _ _ _ _ (by decide) (n _ _ _ _ (by decide) (n _ _ _ _ (by decide) (n _ _ _ _ (by decide) (n _ _ _ _ (by decide) (n _ _ _ _ (by decide) (n _ _ _ _ (by decide) (n _ _ _ _ (by decide) (yy _ _ _ ?_))))))))
    rw [two_le] at h
    exact ⟨fun c => by rw [if_pos c] at h; exact h, fun c => by rw [if_neg c] at h; exact h⟩
  · refine n _ _ _ _ (by decide) (n _ _ _ _ (by decide) (n _ _ _ _ (by decide) (n _ _ _ _ (by decide) (n _ _ _ _ (by decide) (n _ _ _ _ (by decide) (n _ _ _ _ (by decide) (n _ _ _ _ (by decide) (n _ _ _ _ (by decide) (yy _ _ _ ?_)))))))))
    rw [two_eq] at h
    exact ⟨fun c => by rw [if_neg c] at h; exact h, fun c => by rw [if_pos c] at h; exact h⟩
  · exact n _ _ _ _ (by decide) (n _ _ _ _ (by decide) (n _ _ _ _ (by decide) (n _ _ _ _ (by decide) (n _ _ _ _ (by decide) (n _ _ _ _ (by decide) (n _ _ _ _ (by decide) (n _ _ _ _ (by decide) (n _ _ _ _ (by decide) (n _ _ _ _ (by decide) (yy _ _ _ h))))))))))
  · exact n _ _ _ _ (by decide) (n _ _ _ _ (by decide) (n _ _ _ _ (by decide) (n _ _ _ _ (by decide) (n _ _ _ _ (by decide) (n _ _ _ _ (by decide) (n _ _ _ _ (by decide) (n _ _ _ _ (by decide) (n _ _ _ _ (by decide) (n _ _ _ _ (by decide) (n _ _ _ _ (by decide) (yy _ _ _ h)))))))))))
  · exact n _ _ _ _ (by decide) (n _ _ _ _ (by decide) (yy _ _ _ h))
  · exact n _ _ _ _ (by decide) (n _ _ _ _ (by decide) (n _ _ _ _ (by decide) (yy _ _ _ h)))
  · exact n _ _ _ _ (by decide) (yy _ _ _ h)
  · refine n _ _ _ _ (by decide) (n _ _ _ _ (by decide) (n _ _ _ _ (by decide) (n _ _ _ _ (by decide) (yy _ _ _ ?_))))
    have e : two 47 x y = if y = 0 then -1 else x / y := rfl
    rw [e] at h
    exact ⟨fun c => ⟨c, by rw [if_neg c] at h; exact h⟩, fun c => by rw [if_pos c] at h; exact h⟩
  · refine n _ _ _ _ (by decide) (n _ _ _ _ (by decide) (n _ _ _ _ (by decide) (n _ _ _ _ (by decide) (n _ _ _ _ (by decide) (n _ _ _ _ (by decide) (n _ _ _ _ (by decide) (n _ _ _ _ (by decide) (n _ _ _ _ (by decide) (n _ _ _ _ (by decide) (n _ _ _ _ (by decide) (n _ _ _ _ (by decide) ?_)))))))))))
    have e : two 37 x y = if y = 0 then x else x - x / y * y := rfl
    rw [e] at h
    exact ⟨fun c => ⟨c, by rw [if_neg c] at h; exact h⟩, fun c => by rw [if_pos c] at h; exact h⟩
def nmk (T : TX) (g : List DD) (t : Nat) : Nat := (fdI T g t).getD 0
def fw (T : TX) (g : List DD) (k : Nat) : Nat := wds T (g.take k)
def ev (T : TX) (g : List DD) (E : Nat → Int32) : Tr → Except Nat Int32
  | .leaf t => if TK T t = 3 then .ok (nI (NB T t)) else .ok (E (fw T g (nmk T g t)))
  | .branch p a b => if p % 2 = 1 then
      (match ev T g E a with
      | .error z => .error z
      | .ok x => match ev T g E b with
        | .error z => .error z
        | .ok y => .ok (two (TK T (p / 2)) x y))
    else if TK T (p / 2) = 2 then
      (match ev T g E a with
      | .error z => .error z
      | .ok x => if x.toBitVec.toNat < dsz T (gx g (nmk T g (p / 2))) then .ok (E (fw T g (nmk T g (p / 2)) + x.toBitVec.toNat)) else .error (p / 2 + 1))
    else (match ev T g E a with
      | .error z => .error z
      | .ok x => .ok (one (TK T (p / 2)) x))
/-! what the judge's word means, kind by kind -/
theorem je_pair {T : TX} {g : List DD} {w s : Bool} {p : Nat} {a b : Tr} (q : p % 2 = 1) (h : je T g w (.branch p a b) = .ok s) : ∃ s1 s2, je T g w a = .ok s1 ∧ je T g w b = .ok s2 ∧ s = (s1 || s2) ∧ (isDv (TK T (p / 2)) = true → w = false ∧ s = false) := by
  rw [je, if_pos q] at h
  cases ha : je T g w a with
  | error z =>
    rw [ha] at h
    cases h
  | ok s1 =>
    rw [ha] at h
    dsimp only at h
    cases hb : je T g w b with
    | error z =>
      rw [hb] at h
      cases h
    | ok s2 =>
      rw [hb] at h
      dsimp only at h
      refine ⟨s1, s2, rfl, rfl, ?_⟩
      split at h
      · split at h
        · cases h
        · rename_i h1
          split at h
          · cases h
          · rename_i h2
            cases h
            refine ⟨rfl, fun _ => ⟨?_, ?_⟩⟩
            · cases w with
              | true => exact absurd rfl h1
              | false => rfl
            · cases hs : (s1 || s2) with
              | true => exact absurd hs h2
              | false => rfl
      · rename_i h1
        cases h
        exact ⟨rfl, fun c => absurd c h1⟩
theorem je_item {T : TX} {g : List DD} {w s : Bool} {p : Nat} {a b : Tr} (q : ¬ p % 2 = 1) (q2 : TK T (p / 2) = 2) (h : je T g w (.branch p a b) = .ok s) : ∃ k, fdI T g (p / 2) = some k ∧ w = false ∧ (gx g k).2.2 = true ∧ je T g w a = .ok false ∧ s = dsec T (gx g k) := by
  rw [je, if_neg q, if_pos q2] at h
  cases hf : fdI T g (p / 2) with
  | none =>
    rw [hf] at h
    cases h
  | some k =>
    rw [hf] at h
    dsimp only at h
    split at h
    · cases h
    · rename_i h1
      split at h
      · rename_i h2
        cases ha : je T g w a with
        | error z =>
          rw [ha] at h
          cases h
        | ok s1 =>
          rw [ha] at h
          dsimp only at h
          split at h
          · cases h
          · rename_i h3
            cases h
            refine ⟨k, rfl, ?_, h2, ?_, rfl⟩
            · cases w with
              | true => exact absurd rfl h1
              | false => rfl
            · cases s1 with
              | true => exact absurd rfl h3
              | false => rfl
      · cases h
theorem je_un {T : TX} {g : List DD} {w s : Bool} {p : Nat} {a b : Tr} (q : ¬ p % 2 = 1) (q2 : ¬ TK T (p / 2) = 2) (h : je T g w (.branch p a b) = .ok s) : je T g w a = .ok s := by
  rw [je, if_neg q, if_neg q2] at h
  exact h
theorem je_leaf {T : TX} {g : List DD} {w s : Bool} {t : Nat} (h : je T g w (.leaf t) = .ok s) : (TK T t = 3 ∧ s = false) ∨ (¬ TK T t = 3 ∧ ∃ k, fdI T g t = some k ∧ (gx g k).2.2 = false ∧ s = dsec T (gx g k)) := by
  rw [je] at h
  split at h
  · rename_i q
    cases h
    exact Or.inl ⟨q, rfl⟩
  · rename_i q
    refine Or.inr ⟨q, ?_⟩
    cases hf : fdI T g t with
    | none =>
      rw [hf] at h
      cases h
    | some k =>
      rw [hf] at h
      dsimp only at h
      split at h
      · cases h
      · rename_i h1
        cases h
        refine ⟨k, rfl, ?_, rfl⟩
        cases hr : (gx g k).2.2 with
        | true => exact absurd hr h1
        | false => rfl
/-- public words -/
def pw (T : TX) (g : List DD) (w : Nat) : Prop := ∃ k, k < g.length ∧ dsec T (gx g k) = false ∧ fw T g k ≤ w ∧ w < fw T g k + dsz T (gx g k)
variable {ι : Type}
def PE (T : TX) (g : List DD) (E : ι → Nat → Int32) : Prop := ∀ w, pw T g w → ∀ i j, E i w = E j w
theorem ev_ni {T : TX} {N : Nat} {g : List DD} (hv : GV T N g) {E : ι → Nat → Int32} (hE : PE T g E) (w : Bool) : ∀ (e : Tr) (s : Bool), je T g w e = .ok s →
    (w = false ∧ ∃ t, ∀ i, ev T g (E i) e = .error t) ∨ (∃ v : ι → Int32, (∀ i, ev T g (E i) e = .ok (v i)) ∧ (s = false → ∀ i j, v i = v j)) := by
  intro e
  induction e with
  | leaf t =>
    intro s h
    rcases je_leaf h with ⟨q, hs⟩ | ⟨q, k, hf, hr, hs⟩
    · exact Or.inr ⟨fun _ => nI (NB T t), fun i => by rw [ev, if_pos q], fun _ _ _ => rfl⟩
    · refine Or.inr ⟨fun i => E i (fw T g k), fun i => ?_, fun h0 i j => ?_⟩
      · rw [ev, if_neg q, nmk, hf]
        rfl
      · have hk := fdI_lt g _ k hf
        have := (hv.1 _ (gx_mem hk)).2.1
        exact hE _ ⟨k, hk, by rw [← hs, h0], Nat.le_refl _, by omega⟩ i j
  | branch p a b iha ihb =>
    intro s h
    by_cases q : p % 2 = 1
    · obtain ⟨s1, s2, h1, h2, h3, h4⟩ := je_pair q h
      rcases iha s1 h1 with ⟨hw, t, ht⟩ | ⟨v, hv1, hv2⟩
      · exact Or.inl ⟨hw, t, fun i => by rw [ev, if_pos q, ht i]⟩
      · rcases ihb s2 h2 with ⟨hw, t, ht⟩ | ⟨u, hu1, hu2⟩
        · exact Or.inl ⟨hw, t, fun i => by rw [ev, if_pos q, hv1 i]; dsimp only; rw [ht i]⟩
        · refine Or.inr ⟨fun i => two (TK T (p / 2)) (v i) (u i), fun i => by rw [ev, if_pos q, hv1 i]; dsimp only; rw [hu1 i], fun h0 i j => ?_⟩
          rw [h0] at h3
          have e1 : s1 = false := by
            cases s1 with
            | false => rfl
            | true => cases h3
          have e2 : s2 = false := by
            cases s2 with
            | false => rfl
            | true => rw [e1] at h3; cases h3
          show two _ (v i) (u i) = two _ (v j) (u j)
          rw [hv2 e1 i j, hu2 e2 i j]
    · by_cases q2 : TK T (p / 2) = 2
      · obtain ⟨k, hf, hw, hr, h1, h2⟩ := je_item q q2 h
        have hk := fdI_lt g _ k hf
        have en : nmk T g (p / 2) = k := by rw [nmk, hf]; rfl
        rcases iha false h1 with ⟨hw, t, ht⟩ | ⟨v, hv1, hv2⟩
        · exact Or.inl ⟨hw, t, fun i => by rw [ev, if_neg q, if_pos q2, ht i]⟩
        · by_cases hne : ∃ i : ι, True
          · obtain ⟨i0, _⟩ := hne
            have hc : ∀ i, v i = v i0 := fun i => hv2 rfl i i0
            by_cases hin : (v i0).toBitVec.toNat < dsz T (gx g k)
            · refine Or.inr ⟨fun i => E i (fw T g k + (v i0).toBitVec.toNat), fun i => ?_, fun h0 i j => ?_⟩
              · rw [ev, if_neg q, if_pos q2, hv1 i]
                dsimp only
                rw [hc i, en, if_pos hin]
              · exact hE _ ⟨k, hk, by rw [← h2, h0], by omega, by omega⟩ i j
            · exact Or.inl ⟨hw, p / 2 + 1, fun i => by
                rw [ev, if_neg q, if_pos q2, hv1 i]
                dsimp only
                rw [hc i, en, if_neg hin]⟩
          · exact Or.inr ⟨fun i => 0, fun i => absurd ⟨i, trivial⟩ hne, fun _ i _ => absurd ⟨i, trivial⟩ hne⟩
      · rcases iha s (je_un q q2 h) with ⟨hw, t, ht⟩ | ⟨v, hv1, hv2⟩
        · exact Or.inl ⟨hw, t, fun i => by rw [ev, if_neg q, if_neg q2, ht i]⟩
        · exact Or.inr ⟨fun i => one (TK T (p / 2)) (v i), fun i => by rw [ev, if_neg q, if_neg q2, hv1 i], fun h0 i j => by show one _ (v i) = one _ (v j); rw [hv2 h0 i j]⟩
end Sem
