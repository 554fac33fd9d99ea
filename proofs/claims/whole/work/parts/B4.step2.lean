section StepM2
variable {ι : Type}
/-- a load -/
theorem fx_load {m r : ι → Nat → Int32} {p to fr q : Nat} {x : Int32} {Q : (ι → Nat → Int32) → (ι → Nat → Int32) → Nat → Prop} (hp : p < 4096) (hm : ∀ i, m i p = wL to fr x) (ht : to < 32) (hf : fr < 32) (h1 : -2048 ≤ x.toInt) (h2 : x.toInt < 2048) (hq4 : q < 4096) (ha : ∀ i, r i fr + x = nI (4 * q))
    (hq : Q m (fun i => wr (r i) to (m i q)) (p + 1)) : FX 1 m r p Q := by
  refine FX.one (m' := m) (r' := fun i => wr (r i) to (m i q)) (p' := p + 1) (fun l c => ⟨acF (acF l (4 * p)) (4 * q), (cAcc (((fun _ => 0, fun _ => 0), (acF l (4 * p), nI (4 * p))), bgc l c (4 * p)) (4 * q)).2, acF_hi2, fun i P hP => ?_⟩) hq
  obtain ⟨a1, a2, a3, a4, a5, a6, a7⟩ := dec5 (m := x.toBitVec.toNat % 4096) (f := fr) (k := 2) (t := to) (c := 3) (by omega) hf (by omega) ht (by omega) (w := wL to fr x) rfl
  have a8 := imm12 (f := fr) (k := 2) (t := to) (c := 3) h1 h2 hf (by omega) ht (by omega) (w := wL to fr x) rfl
  refine c_pre (σ := ms (m i) (r i) l p c) hp rfl ?_
  show cSw _ (m i p) P
  rw [hm i]
  unfold cSw
  rw [a1]
  simp (config := {decide := true}) only [show nI 3 = 3 from rfl, false_implies, true_implies, true_and, and_true, not_false_eq_true, not_true_eq_false]
  unfold wp_X2_doLoad wp_X2_third
  rw [a3]
  refine ⟨fun _ => ⟨rx_in _ _, fun y5 e5 => ?_⟩, fun c => absurd rfl c⟩
  rw [a4, nI_clamp (by omega), a8] at e5
  have e5 : y5 = nI (4 * q) := e5.trans (ha i)
  rw [e5]
  refine isP_c (fun _ => ⟨fun _ => ?_, fun c => absurd c (by decide)⟩) (fun c => absurd ⟨q, hq4, rfl⟩ c)
  refine c_begin (p := 4 * p) (by omega) rfl (c_reach (by omega) ?_)
  rw [ix_c hq4, nI_clamp (by omega)]
  refine ⟨in_k hq4 (by omega), c_pass ?_⟩
  rw [cBeg_eq]
  have := cPass_eq (m := m i) (r := r i) (l := acF (acF l (4 * p)) (4 * q)) (p := p) (c := (cAcc (((fun _ => 0, fun _ => 0), (acF l (4 * p), nI (4 * p))), bgc l c (4 * p)) (4 * q)).2) (w := wL to fr x) (v := m i q) ht a2
  have e : cPass (cAcc (((m i, r i), (acF l (4 * p), nI (4 * p))), bgc l c (4 * p)) (4 * q)) (wL to fr x) (m i q) = ms (m i) (wr (r i) to (m i q)) (acF (acF l (4 * p)) (4 * q)) (p + 1) (cAcc (((fun _ => 0, fun _ => 0), (acF l (4 * p), nI (4 * p))), bgc l c (4 * p)) (4 * q)).2 := this
  show P 0 (cPass (cAcc (((m i, r i), (acF l (4 * p), nI (4 * p))), bgc l c (4 * p)) (4 * q)) (wL to fr x) (m i q))
  rw [e]
  exact hP
/-- a store -/
theorem fx_sto {m r : ι → Nat → Int32} {p fr base d q : Nat} {Q : (ι → Nat → Int32) → (ι → Nat → Int32) → Nat → Prop} (hp : p < 4096) (hm : ∀ i, m i p = wS fr base d) (hf : fr < 32) (hb : base < 32) (hd : d < 2048) (hq4 : q < 4096) (ha : ∀ i, r i base + nI d = nI (4 * q))
    (hq : Q (fun i => upd (m i) q (r i fr)) r (p + 1)) : FX 1 m r p Q := by
  refine FX.one (m' := fun i => upd (m i) q (r i fr)) (r' := r) (p' := p + 1) (fun l c => ⟨acF (acF l (4 * p)) (4 * q), (cAcc (((fun _ => 0, fun _ => 0), (acF l (4 * p), nI (4 * p))), bgc l c (4 * p)) (4 * q)).2, acF_hi2, fun i P hP => ?_⟩) hq
  obtain ⟨a1, a2, a3, a4, a5, a6, a7⟩ := dec5 (m := d / 32 * 32 + fr) (f := base) (k := 2) (t := d % 32) (c := 35) (by omega) hb (by omega) (by omega) (by omega) (w := wS fr base d) rfl
  have a8 := wS_d hf hb hd
  have a9 : (d / 32 * 32 + fr) % 32 = fr := by omega
  rw [a9] at a5
  refine c_pre (σ := ms (m i) (r i) l p c) hp rfl ?_
  show cSw _ (m i p) P
  rw [hm i]
  unfold cSw
  rw [a1]
  simp (config := {decide := true}) only [show nI 35 = 35 from rfl, false_implies, true_implies, true_and, and_true, not_false_eq_true, not_true_eq_false]
  unfold wp_X2_doStore wp_X2_third wp_X2_storeDistance
  rw [a3, a8]
  refine ⟨fun _ => ⟨rx_in _ _, fun y5 e5 => ?_⟩, fun c => absurd rfl c⟩
  rw [a4, nI_clamp (by omega)] at e5
  have e5 : y5 = nI (4 * q) := e5.trans (ha i)
  rw [e5]
  refine isP_c (fun _ => ⟨fun _ => ?_, fun c => absurd c (by decide)⟩) (fun c => absurd ⟨q, hq4, rfl⟩ c)
  refine c_begin (p := 4 * p) (by omega) rfl (c_reach (by omega) ⟨rx_in _ _, ?_⟩)
  rw [ix_c hq4, nI_clamp (by omega), a5, nI_clamp (by omega)]
  refine ⟨in_k hq4 (by omega), fun y16 e16 y17 e17 => ?_⟩
  have e17 : y17 = nI (4 * (p + 1)) := e17.trans (p4 p)
  rw [e16, e17]
  exact hP
/-- a jump -/
theorem fx_jal {m r : ι → Nat → Int32} {p a : Nat} {l0 d : Int32} {lk : Nat} {Q : (ι → Nat → Int32) → (ι → Nat → Int32) → Nat → Prop} (hp : p < 4096) (hm : ∀ i, m i p = wJ l0 d) (hl : l0 = nI lk) (hl32 : lk < 32) (hok : OkJ l0 d) (hd : nI (4 * p) + d = nI (4 * a))
    (hq : Q m (fun i => wr (r i) lk (nI (4 * (p + 1)))) a) : FX 1 m r p Q := by
  refine FX.one (m' := m) (r' := fun i => wr (r i) lk (nI (4 * (p + 1)))) (p' := a) (fun l c => ⟨acF l (4 * p), (((bgc l c (4 * p)).1.1, (bgc l c (4 * p)).1.2 + 1), (bgc l c (4 * p)).2), acF_hi, fun i P hP => ?_⟩) hq
  obtain ⟨a1, a2, a3⟩ := hok
  refine c_pre (σ := ms (m i) (r i) l p c) hp rfl ?_
  show cSw _ (m i p) P
  rw [hm i]
  unfold cSw
  rw [a1]
  simp (config := {decide := true}) only [false_implies, true_implies, true_and, and_true, not_false_eq_true, not_true_eq_false]
  refine c_begin (p := 4 * p) (by omega) rfl ?_
  unfold wp_X2_jumpDistance
  rw [a3]
  refine c_jump ?_
  unfold cJump
  rw [a2, hl, wrR_wr hl32]
  show P 0 (((m i, wr (r i) lk (nI (4 * p) + 4)), (acF l (4 * p), nI (4 * p) + d)), _)
  rw [p4, hd]
  exact hP
/-- coming back -/
def wJR : Int32 := nI (fld 0 1 0 0 103)
theorem w_jr {post : Int32 → Unit → Prop} (hp : post wJR ()) : wp_X5_jumpByRegister 0 1 post := by
  unfold wp_X5_jumpByRegister
  have e : (((1 : Int32) <<< ((15 : Int32) &&& 31)) ||| ((0 : Int32) <<< ((7 : Int32) &&& 31))) ||| (103 : Int32) = wJR := by decide +kernel
  rw [e]
  exact hp
theorem even_and {a : Nat} (ha : a < 4096) : (nI (4 * a) + 0) &&& (-2) = nI (4 * a) := by
  have e0 : nI (4 * a) + 0 = nI (4 * a) := nI_add (4 * a) 0
  rw [e0]
  apply i32_ext
  show ((nI (4 * a)).toBitVec &&& (-2 : Int32).toBitVec).toNat = _
  rw [BitVec.toNat_and, pk_tn (by omega), show (-2 : Int32).toBitVec.toNat = 4294967294 by decide]
  have h1 : 4 * a &&& 4294967294 = 4 * a := by
    have e : 4 * a = 2 * (2 * a) := by omega
    apply Nat.eq_of_testBit_eq
    intro j
    rw [Nat.testBit_and]
    cases j with
    | zero =>
      rw [Nat.testBit_zero]
      have : 4 * a % 2 = 0 := by omega
      rw [this]
      rfl
    | succ j =>
      by_cases hj : j < 31
      · have : Nat.testBit 4294967294 (j + 1) = true := by
          have : ∀ j, j < 31 → Nat.testBit 4294967294 (j + 1) = true := by decide
          exact this j hj
        rw [this, Bool.and_true]
      · have : Nat.testBit (4 * a) (j + 1) = false := by
          apply Nat.testBit_lt_two_pow
          have : 2 ^ 32 ≤ 2 ^ (j + 1) := Nat.pow_le_pow_right (by omega) (by omega)
          omega
        rw [this, Bool.false_and]
  rw [h1]
theorem fx_jr {m r : ι → Nat → Int32} {p a : Nat} {Q : (ι → Nat → Int32) → (ι → Nat → Int32) → Nat → Prop} (hp : p < 4096) (hm : ∀ i, m i p = wJR) (ha : a < 4096) (hr : ∀ i, r i 1 = nI (4 * a)) (hq : Q m r a) : FX 1 m r p Q := by
  refine FX.one (m' := m) (r' := r) (p' := a) (fun l c => ⟨acF l (4 * p), (((bgc l c (4 * p)).1.1, (bgc l c (4 * p)).1.2 + 1), (bgc l c (4 * p)).2), acF_hi, fun i P hP => ?_⟩) hq
  obtain ⟨a1, a2, a3, a4, a5, a6, a7⟩ := dec5 (m := 0) (f := 1) (k := 0) (t := 0) (c := 103) (by omega) (by omega) (by omega) (by omega) (by omega) (w := wJR) rfl
  have a8 : wJR >>> ((20 : Int32) &&& 31) = 0 := by decide +kernel
  refine c_pre (σ := ms (m i) (r i) l p c) hp rfl ?_
  show cSw _ (m i p) P
  rw [hm i]
  unfold cSw
  rw [a1]
  simp (config := {decide := true}) only [show nI 103 = 103 from rfl, false_implies, true_implies, true_and, and_true, not_false_eq_true, not_true_eq_false]
  unfold wp_X2_doJumpByRegister wp_X2_third
  rw [a3]
  refine ⟨fun _ => c_begin (p := 4 * p) (by omega) rfl ⟨rx_in _ _, ?_⟩, fun c => absurd rfl c⟩
  rw [a4, nI_clamp (by omega), a8]
  refine c_jump ?_
  unfold cJump
  rw [a2, wrR_wr (by omega)]
  show P 0 (((m i, wr (r i) 0 _), (acF l (4 * p), (r i 1 + 0) &&& -2)), _)
  rw [hr i, even_and ha]
  exact hP
/-- a branch: the same way for all -/
theorem holds_c {k : Nat} {a b : Int32} {t : Bool} {P : Int32 → Unit → Prop} (hk : k = 0 ∨ k = 1) (ht : a = b ↔ (if k = 0 then t = true else t = false)) (hP : P (if t = true then 1 else 0) ()) : wp_X2_holds (nI k) a b P := by
  unfold wp_X2_holds
  rcases hk with q | q
  · rw [q] at ht ⊢
    rw [if_pos rfl] at ht
    refine ⟨fun _ => ⟨fun c => ?_, fun c => ?_⟩, fun c => absurd rfl c⟩
    · rw [if_neg (fun e => c (ht.mpr e))] at hP
      exact hP
    · rw [if_pos (ht.mp c)] at hP
      exact hP
  · rw [q] at ht ⊢
    rw [if_neg (by decide)] at ht
    refine ⟨fun c => absurd c (by decide), fun _ => ⟨fun _ => ⟨fun c => ?_, fun c => ?_⟩, fun c => absurd rfl c⟩⟩
    · rw [if_neg (by rw [ht.mp c]; decide)] at hP
      exact hP
    · have : t = true := by
        cases t with
        | true => rfl
        | false => exact absurd (ht.mpr rfl) c
      rw [if_pos this] at hP
      exact hP
theorem od_br {m r l : Nat → Int32} {p a k x y : Nat} {w d : Int32} {t : Bool} {c : CY} (hp : p < 4096) (hm : m p = w) (hk : k = 0 ∨ k = 1) (hx : x < 32) (hy : y < 32)
    (a1 : w &&& 127 = 99) (a2 : (w >>> ((12 : Int32) &&& 31)) &&& 7 = nI k) (a3 : (w >>> ((15 : Int32) &&& 31)) &&& 31 = nI x) (a4 : (w >>> ((20 : Int32) &&& 31)) &&& 31 = nI y)
    (a5 : ((((w >>> ((31 : Int32) &&& 31)) <<< ((12 : Int32) &&& 31)) ||| ((w <<< ((4 : Int32) &&& 31)) &&& (2048 : Int32))) ||| ((w >>> ((20 : Int32) &&& 31)) &&& (2016 : Int32))) ||| ((w >>> ((7 : Int32) &&& 31)) &&& (30 : Int32)) = d) (hd : nI (4 * p) + d = nI (4 * a))
    (ht : (r x = r y ↔ (if k = 0 then t = true else t = false))) : OD (ms m r l p c) 0 (ms m r (acF l (4 * p)) (if t = true then a else p + 1) (if t = true then (((bgc l c (4 * p)).1.1, (bgc l c (4 * p)).1.2 + 1), (bgc l c (4 * p)).2) else bgc l c (4 * p))) := by
  intro P hP
  refine c_pre (σ := ms m r l p c) hp rfl ?_
  show cSw _ (m p) P
  rw [hm]
  unfold cSw
  rw [a1]
  simp (config := {decide := true}) only [false_implies, true_implies, true_and, and_true, not_false_eq_true, not_true_eq_false]
  unfold wp_X2_doBranch wp_X2_third
  rw [a2]
  have n2 : ¬ nI k = (2 : Int32) := fun e => by have := (nI_eq (b := 2) (by omega) (by omega)).mp e; omega
  have n3 : ¬ nI k = (3 : Int32) := fun e => by have := (nI_eq (b := 3) (by omega) (by omega)).mp e; omega
  refine ⟨fun c => absurd c n2, fun _ => ⟨fun _ => c_begin (p := 4 * p) (by omega) rfl ⟨rx_in _ _, ⟨rx_in _ _, ?_⟩⟩, fun c => absurd c n3⟩⟩
  rw [a3, a4, nI_clamp (by omega), nI_clamp (by omega)]
  refine holds_c hk ht ⟨fun c1 y11 e11 => ?_, fun c1 y12 e12 => ?_⟩
  · have q : ¬ t = true := fun e => by rw [if_pos e] at c1; exact absurd c1 (by decide)
    rw [if_neg q, if_neg q] at hP
    have e : y11 = nI (4 * (p + 1)) := e11.trans (p4 p)
    rw [e]
    exact hP
  · have q : t = true := by
      cases t with
      | true => rfl
      | false => exact absurd rfl c1
    rw [if_pos q, if_pos q] at hP
    unfold wp_X2_branchDistance
    rw [a5]
    intro y15 e15
    have e : y15 = nI (4 * a) := e15.trans hd
    rw [e, e12]
    exact hP
theorem fx_br {m r : ι → Nat → Int32} {p a k x y : Nat} {d : Int32} {t : Bool} {Q : (ι → Nat → Int32) → (ι → Nat → Int32) → Nat → Prop} (hp : p < 4096) (hm : ∀ i, m i p = wB (nI k) (nI x) (nI y) d) (hk : k = 0 ∨ k = 1) (hx : x < 32) (hy : y < 32) (hok : OkB (nI k) (nI x) (nI y) d) (hd : nI (4 * p) + d = nI (4 * a))
    (ht : ∀ i, (r i x = r i y ↔ (if k = 0 then t = true else t = false))) (hq : Q m r (if t = true then a else p + 1)) : FX 1 m r p Q := by
  obtain ⟨a1, a2, a3, a4, a5⟩ := hok
  exact FX.one (m' := m) (r' := r) (p' := if t = true then a else p + 1) (fun l c => ⟨acF l (4 * p), (if t = true then (((bgc l c (4 * p)).1.1, (bgc l c (4 * p)).1.2 + 1), (bgc l c (4 * p)).2) else bgc l c (4 * p)), acF_hi, fun i => od_br hp (hm i) hk hx hy a1 a2 a3 a4 a5 hd (ht i)⟩) hq
/-- the call that ends a run -/
theorem od_call {m r l : Nat → Int32} {p : Nat} {c : CY} (hp : p < 4096) (hm : m p = 115) : OD (ms m r l p c) 1 (ms m r l p c) := by
  intro P hP
  refine c_pre (σ := ms m r l p c) hp rfl ?_
  show cSw _ (m p) P
  rw [hm]
  unfold cSw
  simp (config := {decide := true}) only [false_implies, true_implies, true_and, and_true, not_false_eq_true, not_true_eq_false]
  exact hP
end StepM2
