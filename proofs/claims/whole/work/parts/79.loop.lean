section Loop
theorem Ch.end {f : Nat → Int32} : ∀ (l : List Nat) (c : Nat), Ch f c l → f (lastN c l) = -1 := by
  intro l
  induction l with
  | nil => intro c h; exact h
  | cons d l ih => intro c h; exact ih d h.2.2
theorem lastN_snoc : ∀ (l : List Nat) (c i : Nat), lastN c (l ++ [i]) = i := by
  intro l
  induction l with
  | nil => intro c i; rfl
  | cons d l ih => intro c i; exact ih d i
/-- a brother more -/
theorem Ch.snoc {f : Nat → Int32} {i : Nat} (hi : i < 9000) (hf : f i = -1) : ∀ (l : List Nat) (c : Nat), Ch f c l → (∀ j, j = c ∨ j ∈ l → ¬ j = i) → Ch (upd f (lastN c l) (nI i)) c (l ++ [i]) := by
  intro l
  induction l with
  | nil =>
    intro c h hn
    refine ⟨pk_us, hi, ?_⟩
    show upd f c (nI i) i = -1
    rw [pk_un (fun e => hn c (Or.inl rfl) e.symm)]
    exact hf
  | cons d l ih =>
    intro c h hn
    obtain ⟨h1, h2, h3⟩ := h
    have he := Ch.end l d h3
    have nc : c ≠ lastN d l := by
      intro e
      rw [← e, h1] at he
      exact nI_nem1 (by omega) he
    refine ⟨(pk_un nc).trans h1, h2, ih d h3 (fun j hj => hn j (Or.inr (hj.elim (fun q => by rw [q]; exact List.mem_cons_self) (fun q => List.mem_cons_of_mem d q))))⟩
/-- the row of brothers lies before q -/
def chLt (q : Nat) (c : Nat) (l : List Nat) : Prop := c < q ∧ ∀ j, j ∈ l → j < q
/-- node b has its parts in order, all before q; the next goes to sl -/
def slotB (τ : SX12) (q b : Nat) : Option Nat → Prop
  | none => τ.1.1.2.2.2.2 b = -1
  | some y => ∃ c l, chLt q c l ∧ τ.1.1.2.2.2.2 b = nI c ∧ Ch τ.1.2.1.1.1 c l ∧ lastN c l = y
theorem lastN_mem : ∀ (l : List Nat) (c : Nat), lastN c l = c ∨ lastN c l ∈ l := by
  intro l
  induction l with
  | nil => intro c; exact Or.inl rfl
  | cons d l ih =>
    intro c
    rcases ih d with h | h
    · exact Or.inr (by show lastN d l ∈ d :: l; rw [h]; exact List.mem_cons_self)
    · exact Or.inr (List.mem_cons_of_mem d h)
theorem slotB.lt {τ : SX12} {q b y : Nat} (h : slotB τ q b (some y)) : y < q := by
  obtain ⟨c, l, h1, h2, h3, h4⟩ := h
  rcases lastN_mem l c with e | e
  · rw [← h4, e]
    exact h1.1
  · rw [← h4]
    exact h1.2 _ e
theorem slotB.ok {τ τ' : SX12} {q b : Nat} {sl : Option Nat} (hq : q ≤ 9000) (hb : b < q) (h : slotB τ q b sl) (hp : HP τ τ' q) : slotOk τ' b sl := by
  cases sl with
  | none => exact (hp b hb).2.2.1.trans h
  | some y =>
    obtain ⟨c, l, h1, h2, h3, h4⟩ := h
    refine ⟨c, l, by have := h1.1; omega, (hp b hb).2.2.1.trans h2, Ch.fr l c h3 (fun j hj => (hp j ?_).2.2.2), h4⟩
    rcases hj with e | e
    · rw [e]
      exact h1.1
    · exact h1.2 j e
theorem slotB.add {τ τ' : SX12} {q q' b i : Nat} {sl : Option Nat} (hb : b < q) (hq : q ≤ i) (hi : i < q') (hq' : q' ≤ 9000) (hn : τ'.1.2.1.1.1 i = -1) (h : slotB τ q b sl) (hp : HP τ τ' q) : slotB (slot τ' b sl (nI i)) q' b (some i) := by
  cases sl with
  | none => exact ⟨i, [], ⟨hi, fun j hj => by cases hj⟩, pk_us, hn, rfl⟩
  | some y =>
    obtain ⟨c, l, h1, h2, h3, h4⟩ := h
    have h3' : Ch τ'.1.2.1.1.1 c l := Ch.fr l c h3 (fun j hj => (hp j (hj.elim (fun e => by rw [e]; exact h1.1) (fun e => h1.2 j e))).2.2.2)
    refine ⟨c, l ++ [i], ⟨by have := h1.1; omega, fun j hj => ?_⟩, (hp b hb).2.2.1.trans h2, ?_, lastN_snoc l c i⟩
    · rcases List.mem_append.mp hj with e | e
      · have := h1.2 j e
        omega
      · have : j = i := by simpa using e
        omega
    · have := Ch.snoc (f := τ'.1.2.1.1.1) (i := i) (by omega) hn l c h3' (fun j hj => hj.elim (fun e => by have := h1.1; omega) (fun e => by have := h1.2 j e; omega))
      rw [h4] at this
      exact this
end Loop
