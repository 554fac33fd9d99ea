section CPrim
/-! the coder at work: what stays (z), and what changes -/
def KS (z : WSX0) (m ti ba : Nat → Int32) (a h q : Nat) : WSX0 := (((((z.1.1.1.1.1, nI (4 * a)), z.1.1.1.2), (z.1.1.2.1, (z.1.1.2.2.1, (nI h, nI q)))), (z.1.2.1, ((z.1.2.2.1.1, (ti, ba)), z.1.2.2.2))), (z.2.1, (z.2.2.1, (((m, z.2.2.2.1.1.2), z.2.2.2.1.2), z.2.2.2.2))))
def KZ (T : TX) (g : List DD) (z : WSX0) (u L : Nat) : Prop := NW0 z.1.2 u L ∧ NC T g z.2.1 ∧ (∀ k, k < g.length → z.1.1.1.1.1 k = nI (nrw (g.take k))) ∧ z.1.1.1.2.1 = nI (4 * 514) ∧ z.1.1.1.2.2 = nI (4 * 519) ∧ z.1.1.2.1.1 = nI (4 * 523) ∧ z.1.1.2.1.2 = nI (4 * 530) ∧ z.1.1.2.2.1 = nI (4 * (532 + 5 * nrw g))
variable {T : TX} {N : Nat} {g : List DD} {z : WSX0} {u L : Nat} {m ti ba : Nat → Int32} {a h q : Nat} {post : WSX0 → Prop}
theorem KZ.nw (hz : KZ T g z u L) : NW0 (KS z m ti ba a h q).1.2 u L := hz.1
theorem c_store {σ : SX2} {p : Nat} {v : Int32} {po : Int32 → SX2 → Prop} (hp : p < 4096) (h : po 1 (((upd σ.1.1.1 p v, σ.1.1.2), σ.1.2), σ.2)) : wp_X2_store σ (nI (4 * p)) v po := by
  refine isP_c (fun _ => ⟨fun _ => ?_, fun c => absurd c (by decide)⟩) (fun c => absurd ⟨p, hp, rfl⟩ c)
  rw [ix_c hp, nI_clamp (by omega)]
  exact ⟨in_k hp (by omega), fun y ey => by rw [ey]; exact h⟩
theorem c_emit {w : Int32} (ha : a < 4096) (hp : post (KS z (upd m a w) ti ba (a + 1) h q)) : wp_X0_emit (KS z m ti ba a h q) w post := by
  unfold wp_X0_emit
  show wp_X2_store _ (nI (4 * a)) w _
  refine c_store ha ⟨fun c => absurd c (by decide), fun _ y ey => ?_⟩
  have ey : y = nI (4 * (a + 1)) := ey.trans (p4 a)
  rw [ey]
  exact hp
theorem c_closeJump {f : Nat} (hf : f < 4096) (hp : post (KS z (upd m f (wJ 0 (nI (4 * a) - nI (4 * f)))) ti ba a h q)) : wp_X0_closeJump (KS z m ti ba a h q) (nI (4 * f)) post := by
  unfold wp_X0_closeJump
  refine w_jump (c_store hf ?_)
  exact hp
theorem k_keepTie (hz : KZ T g z u L) {i : Nat} {v : Int32} {po : SX4 → Prop} (hi : i < u) (hp : po (KS z m (upd ti i v) ba a h q).1.2) : wp_X4_keepTie (KS z m ti ba a h q).1.2 (nI i) v po := by
  have nw := hz.nw (m := m) (ti := ti) (ba := ba) (a := a) (h := h) (q := q)
  have hL := nw.2.2.1
  have hL2 := nw.2.2.2
  refine c_has nw (by omega) (fun _ => ⟨fun c => absurd c (by decide), fun _ => ⟨?_, fun y ey => ?_⟩⟩) (fun q => absurd hi (by omega))
  · rw [nw.2.1]
    exact in_k (by omega) hL2
  · rw [nI_clamp (by omega)] at ey
    rw [ey]
    exact hp
theorem k_keepBack (hz : KZ T g z u L) {i : Nat} {v : Int32} {po : SX4 → Prop} (hi : i < u) (hp : po (KS z m ti (upd ba i v) a h q).1.2) : wp_X4_keepBack (KS z m ti ba a h q).1.2 (nI i) v po := by
  have nw := hz.nw (m := m) (ti := ti) (ba := ba) (a := a) (h := h) (q := q)
  have hL := nw.2.2.1
  have hL2 := nw.2.2.2
  refine c_has nw (by omega) (fun _ => ⟨fun c => absurd c (by decide), fun _ => ⟨?_, fun y ey => ?_⟩⟩) (fun q => absurd hi (by omega))
  · rw [nw.2.1]
    exact in_k (by omega) hL2
  · rw [nI_clamp (by omega)] at ey
    rw [ey]
    exact hp
theorem k_ntie (hz : KZ T g z u L) {i : Nat} {po : Int32 → SX4 → Prop} (hi : i < u) (hp : po (ti i) (KS z m ti ba a h q).1.2) : wp_X4_tie (KS z m ti ba a h q).1.2 (nI i) po := by
  have nw := hz.nw (m := m) (ti := ti) (ba := ba) (a := a) (h := h) (q := q)
  have hL := nw.2.2.1
  have hL2 := nw.2.2.2
  refine c_has nw (by omega) (fun _ => ⟨fun c => absurd c (by decide), fun _ => ⟨?_, ?_⟩⟩) (fun q => absurd hi (by omega))
  · rw [nw.2.1]
    exact in_k (by omega) hL2
  · rw [nI_clamp (by omega)]
    exact hp
theorem k_nback (hz : KZ T g z u L) {i : Nat} {po : Int32 → SX4 → Prop} (hi : i < u) (hp : po (ba i) (KS z m ti ba a h q).1.2) : wp_X4_back (KS z m ti ba a h q).1.2 (nI i) po := by
  have nw := hz.nw (m := m) (ti := ti) (ba := ba) (a := a) (h := h) (q := q)
  have hL := nw.2.2.1
  have hL2 := nw.2.2.2
  refine c_has nw (by omega) (fun _ => ⟨fun c => absurd c (by decide), fun _ => ⟨?_, ?_⟩⟩) (fun q => absurd hi (by omega))
  · rw [nw.2.1]
    exact in_k (by omega) hL2
  · rw [nI_clamp (by omega)]
    exact hp
theorem c_nleft {σ : SX4} {i s : Nat} {po : Int32 → SX4 → Prop} (nw : NW0 σ u L) (hi : i < u) (h0 : s + 1 ≤ i) (hs : σ.1.2.2.2 (i - 1) = nI s) (hp : po (nI (i - 1 - s)) σ) : wp_X4_left σ (nI i) po := by
  have hL := nw.2.2.1
  have hL2 := nw.2.2.2
  unfold wp_X4_left
  rw [sub1 (by omega)]
  refine c_has nw (by omega) (fun _ => ⟨fun c => absurd c (by decide), fun _ => ⟨?_, ?_⟩⟩) (fun q => absurd hi (by omega))
  · rw [nw.2.1]
    exact in_k (by omega) hL2
  · rw [nI_clamp (by omega)]
    have e : σ.1.2.2.2 (i - 1) = nI s := hs
    rw [e, pk_sub (by omega)]
    exact hp
theorem c_callFor (hz : KZ T g z u L) {i t : Nat} {x : Int32} (hi : i < u) (ha : a < 4096) (hx : x = nI (4 * t)) (hp : post (KS z (upd m a (wJ 1 (nI (4 * t) - nI (4 * a)))) ti (upd ba i (nI (4 * (a + 1)))) (a + 1) h q)) : wp_X0_callFor (KS z m ti ba a h q) (nI i) x post := by
  rw [hx]
  unfold wp_X0_callFor
  exact w_jump (c_emit ha (k_keepBack hz hi hp))
theorem c_hold {rg : Nat} {x : Int32} (hr : rg < 32) (hx : x = nI rg) (ha : a < 4096) (hh : h < 212) (hp : post (KS z (upd m a (wS rg 0 (1200 + 4 * h))) ti ba (a + 1) (h + 1) q)) : wp_X0_hold (KS z m ti ba a h q) x post := by
  rw [hx]
  unfold wp_X0_hold
  have e : (1200 : Int32) + (KS z m ti ba a h q).1.1.2.2.2.1 * 4 = nI (1200 + 4 * h) := by
    show nI 1200 + nI h * nI 4 = _
    rw [pk_mul, nI_add, Nat.mul_comm h 4]
  rw [e]
  refine w_sto hr (base := 0) (by omega) (by omega) (c_emit ha (fun y ey => ?_))
  have ey : y = nI (h + 1) := ey.trans (nI_1 h)
  rw [ey]
  exact hp
theorem c_release {rg : Nat} {x : Int32} (hr : rg < 32) (hx : x = nI rg) (ha : a < 4096) (h0 : 0 < h) (hp : post (KS z (upd m a (wL rg 0 (nI (1200 + 4 * (h - 1))))) ti ba (a + 1) (h - 1) q)) : wp_X0_release (KS z m ti ba a h q) x post := by
  rw [hx]
  unfold wp_X0_release
  intro y ey
  have ey : y = nI (h - 1) := ey.trans (sub1 h0)
  have e : (1200 : Int32) + y * 4 = nI (1200 + 4 * (h - 1)) := by
    rw [ey]
    show nI 1200 + nI (h - 1) * nI 4 = _
    rw [pk_mul, nI_add, Nat.mul_comm (h - 1) 4]
  rw [e, ey]
  exact w_load hr (fr := 0) (by omega) (c_emit (z := z) (h := h - 1) ha hp)
theorem c_lookH {rg : Nat} {x : Int32} (hr : rg < 32) (hx : x = nI rg) (ha : a < 4096) (h0 : 0 < h) (hp : post (KS z (upd m a (wL rg 0 (nI (1200 + 4 * (h - 1))))) ti ba (a + 1) h q)) : wp_X0_lookAtHeld (KS z m ti ba a h q) x post := by
  rw [hx]
  unfold wp_X0_lookAtHeld
  have e : (1200 : Int32) + ((KS z m ti ba a h q).1.1.2.2.2.1 - 1) * 4 = nI (1200 + 4 * (h - 1)) := by
    show nI 1200 + (nI h - 1) * nI 4 = _
    rw [sub1 h0, pk_mul, nI_add, Nat.mul_comm (h - 1) 4]
  rw [e]
  exact w_load hr (fr := 0) (by omega) (c_emit ha hp)
theorem c_wordPlace (hz : KZ T g z u L) (hg : g.length ≤ 200) {k : Nat} {po : Int32 → WSX0 → Prop} (hk : k < g.length) (hp : po (nI (4 * fw T g k)) (KS z m ti ba a h q)) : wp_X0_wordPlace (KS z m ti ba a h q) (nI k) po := by
  unfold wp_X0_wordPlace
  refine c_nfirst (σ := (z.2.1, z.2.2.1)) hz.2.1 hg hk ?_
  have e : (0 : Int32) + nI (wds T (g.take k)) * 4 = nI (4 * fw T g k) := by
    show nI 0 + nI (wds T (g.take k)) * nI 4 = _
    rw [pk_mul, nI_add]
    unfold fw
    congr 1
    omega
  rw [e]
  exact hp
theorem c_rowCall (hz : KZ T g z u L) (hg : g.length ≤ 200) {k c : Nat} {x : Int32} {po : Int32 → WSX0 → Prop} (hx : x = nI (4 * c)) (hk : k < g.length) (hp : po (nI (4 * (c + 5 * nrw (g.take k)))) (KS z m ti ba a h q)) : wp_X0_rowCall (KS z m ti ba a h q) x (nI k) po := by
  unfold wp_X0_rowCall
  refine ⟨fun c => absurd c (nI_pos (by omega)), fun _ => ⟨fun _ => ⟨in_k (by omega) (by omega), ?_⟩, fun c => absurd (nI_lt (b := 200) (by omega) (by omega)) c⟩⟩
  rw [nI_clamp (by omega), hx]
  have e : (KS z m ti ba a h q).1.1.1.1.1 k = nI (nrw (g.take k)) := hz.2.2.1 k hk
  rw [e]
  have e2 : nI (4 * c) + nI (nrw (g.take k)) * 20 = nI (4 * (c + 5 * nrw (g.take k))) := by
    show nI (4 * c) + nI (nrw (g.take k)) * nI 20 = _
    rw [pk_mul, nI_add]
    congr 1
    omega
  rw [e2]
  exact hp
theorem c_reg {f : Nat} {x : Int32} {po : Int32 → Unit → Prop} (hx : x = nI f) (hf : f ≤ 25) (hp : po (nI (6 + f)) ()) : wp_X0_register x po := by
  rw [hx]
  unfold wp_X0_register
  have e : (6 : Int32) + nI f = nI (6 + f) := nI_add 6 f
  rw [e, if_neg]
  · exact hp
  · exact fun c => absurd ((nI_ltI (a := 31) (by omega) (by omega)).mp c) (by omega)
/-! words -/
theorem w_add {to fr : Nat} {x a1 a2 : Int32} {po : Int32 → Unit → Prop} (h1 : a1 = nI to) (h2 : a2 = nI fr) (ht : to < 32) (hf : fr < 32) (hp : po (wI 0 to fr x) ()) : wp_X5_add a1 a2 x po := by
  rw [h1, h2]
  exact w_num (k := 0) (by omega) ht hf hp
theorem w_below {to fr : Nat} {x a1 a2 : Int32} {po : Int32 → Unit → Prop} (h1 : a1 = nI to) (h2 : a2 = nI fr) (ht : to < 32) (hf : fr < 32) (hp : po (wI 3 to fr x) ()) : wp_X5_isBelow a1 a2 x po := by
  rw [h1, h2]
  exact w_num (k := 3) (by omega) ht hf hp
theorem w_turn {to fr : Nat} {x a1 a2 : Int32} {po : Int32 → Unit → Prop} (h1 : a1 = nI to) (h2 : a2 = nI fr) (ht : to < 32) (hf : fr < 32) (hp : po (wI 4 to fr x) ()) : wp_X5_turn a1 a2 x po := by
  rw [h1, h2]
  exact w_num (k := 4) (by omega) ht hf hp
theorem w_shl {to fr : Nat} {x a1 a2 : Int32} {po : Int32 → Unit → Prop} (h1 : a1 = nI to) (h2 : a2 = nI fr) (ht : to < 32) (hf : fr < 32) (hp : po (wI 1 to fr x) ()) : wp_X5_shiftLeft a1 a2 x po := by
  rw [h1, h2]
  exact w_num (k := 1) (by omega) ht hf hp
theorem w_join {k rd rl rr : Nat} {po : Int32 → Unit → Prop} (hk : lvl k < 7) (n1 : ¬ k = 128) (n2 : ¬ k = 129) (h1 : rd < 32) (h2 : rl < 32) (h3 : rr < 32) (hp : po (wR (uF k) (kF k) rd rl rr) ()) : wp_X5_join (nI k) (nI rd) (nI rl) (nI rr) po := by
  have n : ∀ (a b : Int32) (A B : Prop), ¬ a = b → B → (a = b → A) ∧ (¬ a = b → B) := fun a b A B h1 h2 => ⟨fun c => absurd c h1, fun _ => h2⟩
  have yy : ∀ (a : Int32) (A B : Prop), A → (a = a → A) ∧ (¬ a = a → B) := fun a A B h1 => ⟨fun _ => h1, fun c => absurd rfl c⟩
  have w : ∀ uu kk : Nat, uu < 128 → kk < 8 → po (wR uu kk rd rl rr) () → wp_X5_withRegisters (nI uu) (nI kk) (nI rd) (nI rl) (nI rr) (fun r _ => po r ()) := fun uu kk a b c => w_reg a b h1 h2 h3 c
  unfold wp_X5_join
  rcases lvl_k hk with rfl | rfl | rfl | rfl | rfl | rfl | rfl | rfl | rfl | rfl | rfl | rfl | rfl
  · exact n _ _ _ _ (by decide) (n _ _ _ _ (by decide) (n _ _ _ _ (by decide) (n _ _ _ _ (by decide) (n _ _ _ _ (by decide) (n _ _ _ _ (by decide) (n _ _ _ _ (by decide) (yy _ _ _ (w 0 6 (by omega) (by omega) hp))))))))
  · exact n _ _ _ _ (by decide) (n _ _ _ _ (by decide) (n _ _ _ _ (by decide) (n _ _ _ _ (by decide) (n _ _ _ _ (by decide) (n _ _ _ _ (by decide) (yy _ _ _ (w 0 4 (by omega) (by omega) hp)))))))
  · exact n _ _ _ _ (by decide) (yy _ _ _ (w 0 7 (by omega) (by omega) hp))
  · exact n _ _ _ _ (by decide) (n _ _ _ _ (by decide) (n _ _ _ _ (by decide) (n _ _ _ _ (by decide) (n _ _ _ _ (by decide) (yy _ _ _ (w 0 2 (by omega) (by omega) hp))))))
  · exact absurd rfl n1
  · exact absurd rfl n2
  · exact n _ _ _ _ (by decide) (n _ _ _ _ (by decide) (n _ _ _ _ (by decide) (n _ _ _ _ (by decide) (n _ _ _ _ (by decide) (n _ _ _ _ (by decide) (n _ _ _ _ (by decide) (n _ _ _ _ (by decide) (yy _ _ _ (w 0 1 (by omega) (by omega) hp)))))))))
  · exact n _ _ _ _ (by decide) (n _ _ _ _ (by decide) (n _ _ _ _ (by decide) (n _ _ _ _ (by decide) (n _ _ _ _ (by decide) (n _ _ _ _ (by decide) (n _ _ _ _ (by decide) (n _ _ _ _ (by decide) (n _ _ _ _ (by decide) (yy _ _ _ (w 32 5 (by omega) (by omega) hp))))))))))
  · exact n _ _ _ _ (by decide) (n _ _ _ _ (by decide) (n _ _ _ _ (by decide) (n _ _ _ _ (by decide) (n _ _ _ _ (by decide) (n _ _ _ _ (by decide) (n _ _ _ _ (by decide) (n _ _ _ _ (by decide) (n _ _ _ _ (by decide) (n _ _ _ _ (by decide) (w 0 0 (by omega) (by omega) hp))))))))))
  · exact n _ _ _ _ (by decide) (n _ _ _ _ (by decide) (n _ _ _ _ (by decide) (yy _ _ _ (w 32 0 (by omega) (by omega) hp))))
  · exact n _ _ _ _ (by decide) (n _ _ _ _ (by decide) (yy _ _ _ (w 1 0 (by omega) (by omega) hp)))
  · exact n _ _ _ _ (by decide) (n _ _ _ _ (by decide) (n _ _ _ _ (by decide) (n _ _ _ _ (by decide) (yy _ _ _ (w 1 4 (by omega) (by omega) hp)))))
  · exact yy _ _ _ (w 1 6 (by omega) (by omega) hp)
theorem w_up {to : Nat} {x : Int32} {po : Int32 → Unit → Prop} (ht : to < 32) (hp : po (wU to x) ()) : wp_X5_upper (nI to) x po := by
  unfold wp_X5_upper
  have hx : x.toBitVec.toNat < 4294967296 := x.toBitVec.isLt
  have e1 : x &&& (-4096) = nI (x.toBitVec.toNat / 4096 * 4096) := by
    apply i32_ext
    show (x.toBitVec &&& (-4096 : Int32).toBitVec).toNat = _
    rw [BitVec.toNat_and, show (-4096 : Int32).toBitVec.toNat = 4294963200 by decide]
    generalize x.toBitVec.toNat = W at hx
    rw [pk_tn (by omega)]
    apply Nat.eq_of_testBit_eq
    intro j
    rw [Nat.testBit_and, show W / 4096 * 4096 = (W / 2 ^ 12) * 2 ^ 12 by omega, Nat.testBit_mul_two_pow]
    by_cases hj : j < 12
    · have : Nat.testBit 4294963200 j = false := by
        have : ∀ j, j < 12 → Nat.testBit 4294963200 j = false := by decide
        exact this j hj
      rw [this, Bool.and_false]
      have : decide (12 ≤ j) = false := decide_eq_false (by omega)
      rw [this, Bool.false_and]
    · have h2 : decide (12 ≤ j) = true := decide_eq_true (by omega)
      rw [h2, Bool.true_and, Nat.testBit_div_two_pow, show j - 12 + 12 = j by omega]
      by_cases h3 : j < 32
      · have : Nat.testBit 4294963200 j = true := by
          have : ∀ j, j < 32 → 12 ≤ j → Nat.testBit 4294963200 j = true := by decide
          exact this j h3 (by omega)
        rw [this, Bool.and_true]
      · have : Nat.testBit W j = false := by
          apply Nat.testBit_lt_two_pow
          have : 2 ^ 32 ≤ 2 ^ j := Nat.pow_le_pow_right (by omega) (by omega)
          omega
        rw [this, Bool.false_and]
  have e2 : nI to <<< ((7 : Int32) &&& 31) = nI (to * 128) := shN (k := 7) _ (by decide) (by omega)
  rw [e1, e2]
  have e3 : nI (x.toBitVec.toNat / 4096 * 4096) ||| nI (to * 128) = nI (x.toBitVec.toNat / 4096 * 4096 + to * 128) := or_add (k := 12) (by omega) (by omega)
  rw [e3]
  have e4 : nI (x.toBitVec.toNat / 4096 * 4096 + to * 128) ||| nI 55 = nI (x.toBitVec.toNat / 4096 * 4096 + to * 128 + 55) := by
    have := or_add (k := 7) (x := x.toBitVec.toNat / 4096 * 32 + to) (y := 55) (by omega) (by omega)
    rw [show (x.toBitVec.toNat / 4096 * 32 + to) * 2 ^ 7 = x.toBitVec.toNat / 4096 * 4096 + to * 128 by omega] at this
    exact this
  show po (nI (x.toBitVec.toNat / 4096 * 4096 + to * 128) ||| nI 55) ()
  rw [e4]
  exact hp
end CPrim
