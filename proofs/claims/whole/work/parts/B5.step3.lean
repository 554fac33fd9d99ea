section StepM3
variable {ι : Type}
/-- orders with registers -/
def dvv (a b : Int32) : Int32 := if b = 0 then -1 else a / b
def rmv (a b : Int32) : Int32 := if b = 0 then a else a - a / b * b
theorem o_dv (a b : Int32) (σ : SX2) (P : Int32 → SX2 → Prop) (h : P (dvv a b) (cDiv σ a b)) : wp_X2_division σ 4 a b P := by
  obtain ⟨v, h1, h2⟩ := o_div 4 (by omega) (by omega) a b
  have e : v = dvv a b := by
    have := h2 (fun r _ => r = v) rfl
    unfold wp_X12_multiply at this
    have := (((((this _ rfl _ rfl).2 (by decide)).2 (by decide)).2 (by decide)).2 (by decide)).1 rfl
    unfold dvv
    by_cases q : b = 0
    · rw [if_pos q]
      exact (this.2 q).symm
    · rw [if_neg q]
      exact (this.1 q).2.symm
  rw [← e] at h
  exact h1 σ P h
theorem o_rm (a b : Int32) (σ : SX2) (P : Int32 → SX2 → Prop) (h : P (rmv a b) (cDiv σ a b)) : wp_X2_division σ 6 a b P := by
  obtain ⟨v, h1, h2⟩ := o_div 6 (by omega) (by omega) a b
  have e : v = rmv a b := by
    have := h2 (fun r _ => r = v) rfl
    unfold wp_X12_multiply at this
    have := (((((((this _ rfl _ rfl).2 (by decide)).2 (by decide)).2 (by decide)).2 (by decide)).2 (by decide)).2 (by decide)).1 rfl
    unfold rmv
    by_cases q : b = 0
    · rw [if_pos q]
      exact (this.2 q).symm
    · rw [if_neg q]
      exact (this.1 q).2.symm
  rw [← e] at h
  exact h1 σ P h
theorem o_ml (a b : Int32) (σ : SX2) (P : Int32 → SX2 → Prop) (h : P (a * b) (cAdd σ 3)) : wp_X2_product σ 0 a b P := by
  obtain ⟨v, h1, h2⟩ := o_prod 0 (by omega) a b
  have e : v = a * b := by
    have := h2 (fun r _ => r = v) rfl
    unfold wp_X12_multiply at this
    exact ((this _ rfl _ rfl).1 rfl).symm
  rw [← e] at h
  exact h1 σ P h
/-- which registers' order, its number and what it makes -/
def rv (u k : Nat) (a b : Int32) : Int32 := if u = 0 then jv (nI k) a b else if u = 32 then (if k = 0 then a - b else a >>> ((b &&& 31) &&& 31)) else if k = 0 then a * b else if k = 4 then dvv a b else rmv a b
def rok (u k : Nat) : Prop := (u = 0 ∧ k < 8) ∨ (u = 32 ∧ (k = 0 ∨ k = 5)) ∨ (u = 1 ∧ (k = 0 ∨ k = 4 ∨ k = 6))
noncomputable def rcy (u k : Nat) (a b : Int32) (c : CY) : CY := if u = 1 then (if k = 0 then ((c.1.1, c.1.2 + 3), c.2) else (cDiv (((fun _ => 0, fun _ => 0), (fun _ => 0, 0)), c) a b).2) else c
theorem od_reg {m r l : Nat → Int32} {p u k to x y : Nat} {w : Int32} {c : CY} (hp : p < 4096) (hm : m p = w) (hu : rok u k) (ht : to < 32) (hx : x < 32) (hy : y < 32) (hw : w = wR u k to x y) : OD (ms m r l p c) 0 (ms m (wr r to (rv u k (r x) (r y))) (acF l (4 * p)) (p + 1) (rcy u k (r x) (r y) (bgc l c (4 * p)))) := by
  intro P hP
  have hk : k < 8 := by unfold rok at hu; omega
  have hu2 : u < 128 := by unfold rok at hu; omega
  obtain ⟨a1, a2, a3, a4, a5, a6, a7⟩ := dec5 (m := u * 32 + y) (f := x) (k := k) (t := to) (c := 51) (by omega) hx hk ht (by omega) hw
  rw [show (u * 32 + y) % 32 = y by omega] at a5
  rw [show (u * 32 + y) / 32 = u by omega] at a7
  clear hw
  refine c_pre (σ := ms m r l p c) hp rfl ?_
  show cSw _ (m p) P
  rw [hm]
  unfold cSw
  rw [a1]
  simp (config := {decide := true}) only [show nI 51 = 51 from rfl, false_implies, true_implies, true_and, and_true, not_false_eq_true, not_true_eq_false]
  unfold wp_X2_doWithRegisters wp_X2_third
  refine ⟨rx_in _ _, ⟨rx_in _ _, ?_⟩⟩
  rw [a3, a4, a5, a7, nI_clamp (by omega), nI_clamp (by omega)]
  rcases hu with ⟨rfl, h⟩ | ⟨rfl, h⟩ | ⟨rfl, h⟩
  · refine ⟨fun _ => c_begin (p := 4 * p) (by omega) rfl (c_join (c_pass ?_)), fun c => absurd rfl c⟩
    rw [cBeg_eq, cPass_eq ht a2]
    exact hP
  · refine ⟨fun c => absurd c (by decide), fun _ => ⟨fun c => absurd c (by decide), fun _ => ⟨fun _ => ?_, fun c => absurd rfl c⟩⟩⟩
    have l : wp_X2_doWithRegisters_118 P (ms m r l p c) w (nI k) (r x) (r y) := by
      unfold wp_X2_doWithRegisters_118
      refine c_begin (p := 4 * p) (by omega) rfl ⟨fun c => ?_, fun c => ?_⟩
      · refine c_pass ?_
        rw [cBeg_eq, cPass_eq ht a2]
        have k5 : k = 5 := by
          rcases h with h | h
          · rw [h] at c
            exact absurd rfl c
          · exact h
        rw [k5] at hP
        exact hP
      · refine c_pass ?_
        rw [cBeg_eq, cPass_eq ht a2]
        have k0 : k = 0 := (nI_eq (b := 0) (by omega) (by omega)).mp c
        rw [k0] at hP
        exact hP
    refine ⟨fun _ => l, fun c => ⟨fun _ => l, fun c2 => ?_⟩⟩
    rcases h with h | h
    · rw [h] at c
      exact absurd rfl c
    · rw [h] at c2
      exact absurd rfl c2
  · refine ⟨fun c => absurd c (by decide), fun _ => ⟨fun _ => c_begin (p := 4 * p) (by omega) rfl ?_, fun c => absurd rfl c⟩⟩
    rcases h with rfl | rfl | rfl
    · refine ⟨fun c => absurd c (by decide), fun _ => o_ml _ _ _ _ (c_pass ?_)⟩
      rw [cBeg_eq]
      show P 0 (cPass (((m, r), (acF l (4 * p), nI (4 * p))), ((_, _), _)) w _)
      rw [cPass_eq ht a2]
      exact hP
    · refine ⟨fun _ => o_dv _ _ _ _ (c_pass ?_), fun c => absurd (by decide) c⟩
      rw [cBeg_eq]
      have e : ∀ (s : SX2) (a b : Int32), s.1 = ((m, r), (acF l (4 * p), nI (4 * p))) → cDiv s a b = (((m, r), (acF l (4 * p), nI (4 * p))), (cDiv s a b).2) := by
        intro s a b e
        rw [← e]
        rfl
      rw [e _ _ _ rfl, cPass_eq ht a2]
      exact hP
    · refine ⟨fun _ => o_rm _ _ _ _ (c_pass ?_), fun c => absurd (by decide) c⟩
      rw [cBeg_eq]
      have e : ∀ (s : SX2) (a b : Int32), s.1 = ((m, r), (acF l (4 * p), nI (4 * p))) → cDiv s a b = (((m, r), (acF l (4 * p), nI (4 * p))), (cDiv s a b).2) := by
        intro s a b e
        rw [← e]
        rfl
      rw [e _ _ _ rfl, cPass_eq ht a2]
      exact hP
theorem fx_reg {m r : ι → Nat → Int32} {p u k to x y : Nat} {Q : (ι → Nat → Int32) → (ι → Nat → Int32) → Nat → Prop} (hp : p < 4096) (hm : ∀ i, m i p = wR u k to x y) (hu : rok u k) (hd : u = 1 → ¬ k = 0 → ∃ a b, ∀ i, r i x = a ∧ r i y = b) (ht : to < 32) (hx : x < 32) (hy : y < 32)
    (hq : Q m (fun i => wr (r i) to (rv u k (r i x) (r i y))) (p + 1)) : FX 1 m r p Q := by
  by_cases q : u = 1 ∧ ¬ k = 0
  · obtain ⟨a, b, hab⟩ := hd q.1 q.2
    refine FX.one (m' := m) (r' := fun i => wr (r i) to (rv u k (r i x) (r i y))) (p' := p + 1) (fun l c => ⟨acF l (4 * p), rcy u k a b (bgc l c (4 * p)), acF_hi, fun i => ?_⟩) hq
    have := od_reg (m := m i) (r := r i) (l := l) (c := c) hp (hm i) hu ht hx hy rfl
    have e : rcy u k (r i x) (r i y) (bgc l c (4 * p)) = rcy u k a b (bgc l c (4 * p)) := by rw [(hab i).1, (hab i).2]
    rw [e] at this
    exact this
  · refine FX.one (m' := m) (r' := fun i => wr (r i) to (rv u k (r i x) (r i y))) (p' := p + 1) (fun l c => ⟨acF l (4 * p), rcy u k 0 0 (bgc l c (4 * p)), acF_hi, fun i => ?_⟩) hq
    have := od_reg (m := m i) (r := r i) (l := l) (c := c) hp (hm i) hu ht hx hy rfl
    have e : rcy u k (r i x) (r i y) (bgc l c (4 * p)) = rcy u k 0 0 (bgc l c (4 * p)) := by
      unfold rcy
      by_cases h1 : u = 1
      · have h2 : k = 0 := by
          by_cases h2 : k = 0
          · exact h2
          · exact absurd ⟨h1, h2⟩ q
        rw [if_pos h1, if_pos h2, if_pos h1, if_pos h2]
      · rw [if_neg h1, if_neg h1]
    rw [e] at this
    exact this
/-- an upper part -/
def wU (to : Nat) (x : Int32) : Int32 := nI (x.toBitVec.toNat / 4096 * 4096 + to * 128 + 55)
theorem wU_all (to : Nat) (x : Int32) (ht : to < 32) : wU to x &&& 127 = 55 ∧ (wU to x >>> ((7 : Int32) &&& 31)) &&& 31 = nI to ∧ wU to x &&& (-4096) = nI (x.toBitVec.toNat / 4096 * 4096) := by
  have hx : x.toBitVec.toNat < 4294967296 := x.toBitVec.isLt
  have hW : x.toBitVec.toNat / 4096 * 4096 + to * 128 + 55 < 2 ^ 32 := by omega
  obtain ⟨b1, _⟩ := shm hW
  have e1 : wU to x &&& 127 = nI ((x.toBitVec.toNat / 4096 * 4096 + to * 128 + 55) % 128) := by
    apply i32_ext
    show ((wU to x).toBitVec &&& (127 : Int32).toBitVec).toNat = _
    rw [BitVec.toNat_and, show (127 : Int32).toBitVec.toNat = 2 ^ 7 - 1 by decide]
    unfold wU
    rw [pk_tn hW, Nat.and_two_pow_sub_one_eq_mod, pk_tn (by omega)]
  have e3 : wU to x &&& (-4096) = nI ((x.toBitVec.toNat / 4096 * 4096 + to * 128 + 55) / 4096 * 4096) := by
    apply i32_ext
    show ((wU to x).toBitVec &&& (-4096 : Int32).toBitVec).toNat = _
    rw [BitVec.toNat_and, show (-4096 : Int32).toBitVec.toNat = 4294963200 by decide]
    unfold wU
    generalize x.toBitVec.toNat / 4096 * 4096 + to * 128 + 55 = W at hW
    rw [pk_tn hW, pk_tn (by omega)]
    apply Nat.eq_of_testBit_eq
    intro j
    rw [Nat.testBit_and, show W / 4096 * 4096 = (W / 2 ^ 12) * 2 ^ 12 by omega, Nat.testBit_mul_two_pow]
    by_cases hj : j < 12
    · have : Nat.testBit 4294963200 j = false := by
        have : ∀ j, j < 12 → Nat.testBit 4294963200 j = false := by decide
        exact this j hj
      rw [this, Bool.and_false]
      have : decide (12 ≤ j) = false := decide_eq_false (by omega)
      rw [this, Bool.false_and]
    · have h2 : decide (12 ≤ j) = true := decide_eq_true (by omega)
      rw [h2, Bool.true_and, Nat.testBit_div_two_pow, show j - 12 + 12 = j by omega]
      by_cases h3 : j < 32
      · have : Nat.testBit 4294963200 j = true := by
          have : ∀ j, j < 32 → 12 ≤ j → Nat.testBit 4294963200 j = true := by decide
          exact this j h3 (by omega)
        rw [this, Bool.and_true]
      · have : Nat.testBit W j = false := by
          apply Nat.testBit_lt_two_pow
          have : 2 ^ 32 ≤ 2 ^ j := Nat.pow_le_pow_right (by omega) (by omega)
          omega
        rw [this, Bool.false_and]
  refine ⟨?_, ?_, ?_⟩
  · rw [e1, show (x.toBitVec.toNat / 4096 * 4096 + to * 128 + 55) % 128 = 55 by omega]
    rfl
  · unfold wU
    rw [b1, show (x.toBitVec.toNat / 4096 * 4096 + to * 128 + 55) / 128 % 32 = to by omega]
  · rw [e3, show (x.toBitVec.toNat / 4096 * 4096 + to * 128 + 55) / 4096 * 4096 = x.toBitVec.toNat / 4096 * 4096 by omega]
theorem fx_up {m r : ι → Nat → Int32} {p to : Nat} {x : Int32} {Q : (ι → Nat → Int32) → (ι → Nat → Int32) → Nat → Prop} (hp : p < 4096) (hm : ∀ i, m i p = wU to x) (ht : to < 32)
    (hq : Q m (fun i => wr (r i) to (nI (x.toBitVec.toNat / 4096 * 4096))) (p + 1)) : FX 1 m r p Q := by
  obtain ⟨a1, a2, a3⟩ := wU_all to x ht
  generalize wU to x = w at hm a1 a2 a3
  refine FX.one (m' := m) (r' := fun i => wr (r i) to (nI (x.toBitVec.toNat / 4096 * 4096))) (p' := p + 1) (fun l c => ⟨acF l (4 * p), bgc l c (4 * p), acF_hi, fun i P hP => ?_⟩) hq
  refine c_pre (σ := ms (m i) (r i) l p c) hp rfl ?_
  show cSw _ (m i p) P
  rw [hm i]
  unfold cSw
  rw [a1]
  simp (config := {decide := true}) only [false_implies, true_implies, true_and, and_true, not_false_eq_true, not_true_eq_false]
  refine c_begin (p := 4 * p) (by omega) rfl (c_pass ?_)
  rw [a3, cBeg_eq, cPass_eq ht a2]
  exact hP
end StepM3
