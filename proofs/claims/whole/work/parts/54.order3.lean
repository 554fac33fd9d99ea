section Order3
/-! numbers without a sign -/
theorem u_mask (x : Int32) : x.toInt64 &&& 4294967295 = lN x.toBitVec.toNat := by
  apply Int64.toBitVec_inj.mp
  rw [Int64.toBitVec_and]
  apply BitVec.eq_of_toNat_eq
  rw [BitVec.toNat_and]
  have e1 : (4294967295 : Int64).toBitVec.toNat = 2 ^ 32 - 1 := by decide
  rw [e1, Nat.and_two_pow_sub_one_eq_mod]
  have e2 : (lN x.toBitVec.toNat).toBitVec.toNat = x.toBitVec.toNat := by
    unfold lN
    rw [Int64.toBitVec_ofNat', BitVec.toNat_ofNat]
    have := x.toBitVec.isLt
    omega
  rw [e2]
  have e3 : x.toInt64.toBitVec = x.toBitVec.signExtend 64 := rfl
  rw [e3, BitVec.toNat_signExtend]
  have := x.toBitVec.isLt
  simp only [BitVec.toNat_setWidth]
  split <;> omega
theorem u_flip (x : Int32) : (x ^^^ (-2147483648)).toInt = (x.toBitVec.toNat : Int) - 2147483648 := by
  have e0 : (x ^^^ (-2147483648)).toBitVec = x.toBitVec + BitVec.ofNat 32 2147483648 := by
    rw [Int32.toBitVec_xor]
    have e1 : (-2147483648 : Int32).toBitVec = BitVec.ofNat 32 2147483648 := by decide
    rw [e1]
    apply BitVec.eq_of_getLsbD_eq
    intro i hi
    rw [BitVec.getLsbD_xor, BitVec.getLsbD_add hi]
    have hc : BitVec.carry i x.toBitVec (BitVec.ofNat 32 2147483648) false = false := by
      unfold BitVec.carry
      have h1 : (BitVec.ofNat 32 2147483648).toNat % 2 ^ i = 0 := by
        have : (BitVec.ofNat 32 2147483648).toNat = 2 ^ (31 - i) * 2 ^ i := by
          rw [← Nat.pow_add, show 31 - i + i = 31 by omega]
          decide
        rw [this, Nat.mul_mod_left]
      have h2 : x.toBitVec.toNat % 2 ^ i < 2 ^ i := Nat.mod_lt _ (Nat.two_pow_pos i)
      rw [h1]
      simp
      exact h2
    rw [hc, Bool.xor_false]
  have : (x ^^^ (-2147483648)).toInt = (x ^^^ (-2147483648)).toBitVec.toInt := rfl
  rw [this, e0, BitVec.toInt_eq_toNat_cond, BitVec.toNat_add]
  have := x.toBitVec.isLt
  simp only [BitVec.toNat_ofNat]
  split <;> omega
theorem u_lt (a b : Int32) : (lg_cmp (a.toInt64 &&& 4294967295) (b.toInt64 &&& 4294967295) < 0) ↔ ¬ (b ^^^ (-2147483648)) ≤ (a ^^^ (-2147483648)) := by
  have ha := a.toBitVec.isLt
  have hb := b.toBitVec.isLt
  rw [u_mask, u_mask, Int32.le_iff_toInt_le, u_flip, u_flip]
  have h1 := lg_cmp_ge (lN a.toBitVec.toNat) (lN b.toBitVec.toNat)
  rw [pk_lLE (by omega) (by omega)] at h1
  constructor
  · intro h q
    have := h1.mpr (by omega)
    exact absurd (Int32.not_le.mpr h) (by simpa using this)
  · intro h
    have : ¬ (0 : Int32) ≤ lg_cmp (lN a.toBitVec.toNat) (lN b.toBitVec.toNat) := fun q => h (by have := h1.mp q; omega)
    exact Int32.not_le.mp this
theorem u_ge (a b : Int32) : (0 ≤ lg_cmp (a.toInt64 &&& 4294967295) (b.toInt64 &&& 4294967295)) ↔ (b ^^^ (-2147483648)) ≤ (a ^^^ (-2147483648)) := by
  have := u_lt a b
  constructor
  · intro h
    exact Classical.byContradiction fun q => absurd (this.mpr q) (Int32.not_lt.mpr h)
  · intro h
    exact Int32.not_lt.mp fun q => this.mp q h
theorem u_zero {b : Int32} (h : ¬ b = 0) : ¬ (b.toInt64 &&& 4294967295) = 0 := by
  rw [u_mask]
  intro e
  have hb := b.toBitVec.isLt
  have : b.toBitVec.toNat = 0 := (pk_lEQ (b := 0) (by omega) (by omega)).mp e
  exact h (Int32.toBitVec_inj.mp (BitVec.eq_of_toNat_eq (by rw [this]; rfl)))
theorem s_div (a b : Int32) : (a.toInt64 / b.toInt64).toInt32 = a / b := by
  apply Int32.toInt_inj.mp
  rw [Int32.toInt_div, Int64.toInt_toInt32, Int64.toInt_div, Int32.toInt_toInt64, Int32.toInt_toInt64]
  rw [Int.bmod_bmod_of_dvd (by decide)]
theorem s_id (a : Int32) : a.toInt64.toInt32 = a := Int32.toInt32_toInt64 a
theorem s_rem (a b : Int32) : (a.toInt64 - a.toInt64 / b.toInt64 * b.toInt64).toInt32 = a - a / b * b := by
  rw [Int64.toInt32_sub, Int64.toInt32_mul, s_div, s_id, s_id]
theorem s_zero {b : Int32} (h : ¬ b = 0) : ¬ b.toInt64 = 0 := fun e => h (by rw [← s_id b, e]; rfl)
theorem cmp_0 (x : Int64) : lg_cmp x 0 = 0 ↔ x = 0 := by
  unfold lg_cmp
  constructor
  · intro h
    split at h
    · exact absurd h (by decide)
    · split at h
      · assumption
      · exact absurd h (by decide)
  · intro h
    rw [h]
    decide
theorem f_of (w : Int32) : ∃ j : Nat, j < 8 ∧ (w >>> ((12 : Int32) &&& 31)) &&& 7 = nI j := pk_andE _ (m := 7) 3 (by decide)
/-! the ends of the orders -/
theorem RX.pass {ex : Int32} {σ : SX2} {τ : SX12} {w v goal : Int32} (h : RX 1 (1 + ex) σ τ) (hg : goal = σ.1.2.2 + 4) : RM (cPass σ w v) (mEnd τ ((w >>> ((7 : Int32) &&& 31)) &&& 31) goal 0 v 1 ex) := by
  obtain ⟨h1, h2, h3, h4, h5, h6, h7, h8, h9⟩ := h
  obtain ⟨j, hj, e⟩ := rx_of w ((7 : Int32) &&& 31)
  have hwr : (∀ i, i < 32 → wrR σ.1.1.2 ((w >>> ((7 : Int32) &&& 31)) &&& 31) v i = wrM τ.2.2.2.1.1 ((w >>> ((7 : Int32) &&& 31)) &&& 31) v i) ∧ wrR σ.1.1.2 ((w >>> ((7 : Int32) &&& 31)) &&& 31) v 0 = 0 := by
    rcases wr_eq (rd := (w >>> ((7 : Int32) &&& 31)) &&& 31) (v := v) h2 h3 with q | q
    · exact q
    · rw [e, nI_clamp (by omega)] at q
      exact absurd (by rw [q.1]; rfl) q.2
  refine ⟨h1, fun i hi => ?_, hwr.2, h4, hg.symm, h6, ?_, h8, h9⟩
  · show wrR _ _ _ i = (if (1 : Int32) = 0 then τ.2.2.2.1.1 else wrM τ.2.2.2.1.1 _ _ : Nat → Int32) i
    rw [if_neg (by decide)]
    exact hwr.1 i hi
  · show σ.2.1.2.toInt32 = τ.2.2.2.2.1.1 + ((1 + ex) + (if (0 : Int32) = 0 then 0 else 1))
    rw [h7, if_pos rfl, Int32.add_zero]
theorem RX.jump {σ : SX2} {τ : SX12} {w goal res : Int32} (h : RX 1 1 σ τ) (hg : res = σ.1.2.2 + 4) : RM (cJump σ w goal) (mEnd τ ((w >>> ((7 : Int32) &&& 31)) &&& 31) goal 1 res 1 0) := by
  obtain ⟨h1, h2, h3, h4, h5, h6, h7, h8, h9⟩ := h
  obtain ⟨j, hj, e⟩ := rx_of w ((7 : Int32) &&& 31)
  subst hg
  have hwr : (∀ i, i < 32 → wrR σ.1.1.2 ((w >>> ((7 : Int32) &&& 31)) &&& 31) (σ.1.2.2 + 4) i = wrM τ.2.2.2.1.1 ((w >>> ((7 : Int32) &&& 31)) &&& 31) (σ.1.2.2 + 4) i) ∧ wrR σ.1.1.2 ((w >>> ((7 : Int32) &&& 31)) &&& 31) (σ.1.2.2 + 4) 0 = 0 := by
    rcases wr_eq (rd := (w >>> ((7 : Int32) &&& 31)) &&& 31) (v := σ.1.2.2 + 4) h2 h3 with q | q
    · exact q
    · rw [e, nI_clamp (by omega)] at q
      exact absurd (by rw [q.1]; rfl) q.2
  refine ⟨h1, fun i hi => ?_, hwr.2, h4, rfl, h6, ?_, h8, h9⟩
  · show wrR _ _ _ i = (if (1 : Int32) = 0 then τ.2.2.2.1.1 else wrM τ.2.2.2.1.1 _ _ : Nat → Int32) i
    rw [if_neg (by decide)]
    exact hwr.1 i hi
  · show (σ.2.1.2 + 1).toInt32 = τ.2.2.2.2.1.1 + ((1 + 0) + (if (1 : Int32) = 0 then 0 else 1))
    rw [Int64.toInt32_add, h7, if_neg (by decide), Int32.add_assoc]
    rfl
theorem RX.here {σ : SX2} {τ : SX12} {goal : Int32} {d : Int64} {j rd res : Int32} (h : RX 1 1 σ τ) (hj : (d = 0 ∧ j = 0) ∨ (d = 1 ∧ j = 1)) : RM ((σ.1.1, (σ.1.2.1, goal)), ((σ.2.1.1, σ.2.1.2 + d), σ.2.2)) (mEnd τ rd goal j res 0 0) := by
  obtain ⟨h1, h2, h3, h4, h5, h6, h7, h8, h9⟩ := h
  refine ⟨h1, fun i hi => ?_, h3, h4, rfl, h6, ?_, h8, h9⟩
  · show σ.1.1.2 i = (if (0 : Int32) = 0 then τ.2.2.2.1.1 else wrM τ.2.2.2.1.1 rd res : Nat → Int32) i
    rw [if_pos rfl]
    exact h2 i hi
  · show (σ.2.1.2 + d).toInt32 = τ.2.2.2.2.1.1 + ((1 + 0) + (if j = 0 then 0 else 1))
    rcases hj with ⟨rfl, rfl⟩ | ⟨rfl, rfl⟩
    · rw [Int64.toInt32_add, h7, if_pos rfl, Int32.add_assoc]
      rfl
    · rw [Int64.toInt32_add, h7, if_neg (by decide), Int32.add_assoc]
      rfl
theorem mo_end {τ0 τ : SX12} (rd goal jump res wr ex : Int32) (h : MO τ0 τ) : MO τ0 (mEnd τ rd goal jump res wr ex) := h
end Order3
