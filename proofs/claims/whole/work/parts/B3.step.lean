section StepM
/-- one order of the class's machine -/
def OD (σ : SX2) (r : Int32) (σ' : SX2) : Prop := ∀ P : Int32 → SX2 → Prop, P r σ' → wp_X2_doOrder σ P
def RN : Nat → SX2 → SX2 → Prop
  | 0, σ, σ' => σ = σ'
  | n + 1, σ, σ' => ∃ σ1, OD σ 0 σ1 ∧ RN n σ1 σ'
theorem RN.tr : ∀ (n m : Nat) (a b c : SX2), RN n a b → RN m b c → RN (n + m) a c := by
  intro n
  induction n with
  | zero =>
    intro m a b c h k
    rw [Nat.zero_add]
    have e : a = b := h
    rw [e]
    exact k
  | succ n ih =>
    intro m a b c h k
    rw [show n + 1 + m = n + m + 1 by omega]
    obtain ⟨x, h1, h2⟩ := h
    exact ⟨x, h1, ih m x b c h2 k⟩
def Wk (post : Int32 → SX2 → Prop) (σ : SX2) (k : Nat) : Prop := ∀ M, 100000000 - k < M → wp_X2_work_2 post M σ (nI 100000000) (nI k)
theorem wk_one {post : Int32 → SX2 → Prop} {σ σ' : SX2} {r : Int32} {k : Nat} (hk : k < 100000000) (h : OD σ r σ') (h0 : r = 0 → Wk post σ' (k + 1)) (h1 : ¬ r = 0 → post r σ') : Wk post σ k := by
  intro M hM
  obtain ⟨M', rfl⟩ : ∃ M', M = M' + 1 := ⟨M - 1, by omega⟩
  show wb_X2_work_2 post (fun a => wp_X2_work_2 post M' a.1 a.2.1 a.2.2) σ (nI 100000000) (nI k)
  refine ⟨fun c => absurd c (nI_ge hk (by omega)), fun _ => h _ ⟨fun c => ?_, fun c => h1 c⟩⟩
  have := h0 c M' (by omega)
  rw [← nI_1 k] at this
  exact this
theorem wk_run {post : Int32 → SX2 → Prop} : ∀ (n : Nat) (σ σ' : SX2) (k : Nat), RN n σ σ' → k + n < 100000000 → Wk post σ' (k + n) → Wk post σ k := by
  intro n
  induction n with
  | zero =>
    intro σ σ' k h hk w
    have e : σ = σ' := h
    rw [e]
    exact w
  | succ n ih =>
    intro σ σ' k h hk w
    obtain ⟨x, h1, h2⟩ := h
    refine wk_one (by omega) h1 (fun _ => ih x σ' (k + 1) h2 (by omega) ?_) (fun c => absurd rfl c)
    rw [show k + 1 + n = k + (n + 1) by omega]
    exact w
abbrev CY : Type := (Int32 × Int64) × (Int32 × Int64)
/-- the machine at order p -/
def ms (m r l : Nat → Int32) (p : Nat) (c : CY) : SX2 := (((m, r), (l, nI (4 * p))), c)
def wr (f : Nat → Int32) (to : Nat) (v : Int32) : Nat → Int32 := if to = 0 then f else upd f to v
theorem wrR_wr {f : Nat → Int32} {to : Nat} {v : Int32} (h : to < 32) : wrR f (nI to) v = wr f to v := by
  unfold wrR wr
  by_cases q : to = 0
  · rw [q]
    rfl
  · have hz : ¬ nI to = (0 : Int32) := fun c => q ((nI_eq (b := 0) (by omega) (by omega)).mp c)
    rw [if_neg hz, if_neg q, nI_clamp (by omega)]
theorem p4 (p : Nat) : nI (4 * p) + 4 = nI (4 * (p + 1)) := by
  have := nI_add (4 * p) 4
  rw [show 4 * p + 4 = 4 * (p + 1) by omega] at this
  exact this
/-- the lines and counts behind an order's beginning -/
noncomputable def bgc (l : Nat → Int32) (c : CY) (p : Nat) : CY := ((c.1.1 + 1, c.1.2 + 1 + Int64.ofNat (20 * acC l p)), (c.2.1 + nI (acC l p), evE c.2.2 (nI p).toInt64))
theorem cBeg_eq (m r l : Nat → Int32) (p : Nat) (c : CY) : cBeg (ms m r l p c) (4 * p) = (((m, r), (acF l (4 * p), nI (4 * p))), bgc l c (4 * p)) := rfl
theorem cPass_eq {m r l : Nat → Int32} {p to : Nat} {c : CY} {w v : Int32} (ht : to < 32) (hw : (w >>> ((7 : Int32) &&& 31)) &&& 31 = nI to) : cPass (((m, r), (l, nI (4 * p))), c) w v = ms m (wr r to v) l (p + 1) c := by
  unfold cPass
  rw [hw, wrR_wr ht]
  show (((m, wr r to v), (l, nI (4 * p) + 4)), c) = _
  rw [p4]
  rfl
theorem acF_hi {l : Nat → Int32} {p : Nat} : ∀ j, 32 ≤ j → acF l p j = l j := by
  intro j hj
  have := acS_lt p
  unfold acF
  split
  · rfl
  · rw [pk_un (by omega), pk_un (by omega)]
theorem acF_hi2 {l : Nat → Int32} {p q : Nat} : ∀ j, 32 ≤ j → acF (acF l p) q j = l j := fun j hj => (acF_hi j hj).trans (acF_hi j hj)
/-! many runs at once: the same place, lines and counts -/
variable {ι : Type}
def FX (n : Nat) (m r : ι → Nat → Int32) (p : Nat) (Q : (ι → Nat → Int32) → (ι → Nat → Int32) → Nat → Prop) : Prop :=
  ∀ l c, ∃ n' l' c' m' r' p', n' ≤ n ∧ (∀ j, 32 ≤ j → l' j = l j) ∧ (∀ i, RN n' (ms (m i) (r i) l p c) (ms (m' i) (r' i) l' p' c')) ∧ Q m' r' p'
theorem FX.nil {m r : ι → Nat → Int32} {p : Nat} {Q : (ι → Nat → Int32) → (ι → Nat → Int32) → Nat → Prop} (h : Q m r p) : FX 0 m r p Q := fun l c => ⟨0, l, c, m, r, p, Nat.le_refl _, fun _ _ => rfl, fun _ => rfl, h⟩
theorem FX.seq {a b n : Nat} {m r : ι → Nat → Int32} {p : Nat} {P Q : (ι → Nat → Int32) → (ι → Nat → Int32) → Nat → Prop} (h : FX a m r p P) (k : ∀ m' r' p', P m' r' p' → FX b m' r' p' Q) (hn : a + b ≤ n) : FX n m r p Q := by
  intro l c
  obtain ⟨n1, l1, c1, m1, r1, p1, h1, h0, h2, h3⟩ := h l c
  obtain ⟨n2, l2, c2, m2, r2, p2, k1, k0, k2, k3⟩ := k m1 r1 p1 h3 l1 c1
  exact ⟨n1 + n2, l2, c2, m2, r2, p2, by omega, fun j hj => (k0 j hj).trans (h0 j hj), fun i => RN.tr _ _ _ _ _ (h2 i) (k2 i), k3⟩
theorem FX.le {a n : Nat} {m r : ι → Nat → Int32} {p : Nat} {Q : (ι → Nat → Int32) → (ι → Nat → Int32) → Nat → Prop} (h : FX a m r p Q) (hn : a ≤ n) : FX n m r p Q := by
  intro l c
  obtain ⟨n1, l1, c1, m1, r1, p1, h1, h0, h2, h3⟩ := h l c
  exact ⟨n1, l1, c1, m1, r1, p1, by omega, h0, h2, h3⟩
theorem FX.mono {n : Nat} {m r : ι → Nat → Int32} {p : Nat} {P Q : (ι → Nat → Int32) → (ι → Nat → Int32) → Nat → Prop} (h : FX n m r p P) (k : ∀ m' r' p', P m' r' p' → Q m' r' p') : FX n m r p Q := by
  intro l c
  obtain ⟨n1, l1, c1, m1, r1, p1, h1, h0, h2, h3⟩ := h l c
  exact ⟨n1, l1, c1, m1, r1, p1, h1, h0, h2, k _ _ _ h3⟩
theorem FX.one {m r : ι → Nat → Int32} {p : Nat} {m' r' : ι → Nat → Int32} {p' : Nat} {Q : (ι → Nat → Int32) → (ι → Nat → Int32) → Nat → Prop} (h : ∀ l c, ∃ l' c', (∀ j, 32 ≤ j → l' j = l j) ∧ ∀ i, OD (ms (m i) (r i) l p c) 0 (ms (m' i) (r' i) l' p' c')) (hq : Q m' r' p') : FX 1 m r p Q := by
  intro l c
  obtain ⟨l', c', h0, h⟩ := h l c
  exact ⟨1, l', c', m', r', p', Nat.le_refl _, h0, fun i => ⟨_, h i, rfl⟩, hq⟩
/-- an order with a number -/
theorem fx_num {m r : ι → Nat → Int32} {p k to fr : Nat} {x : Int32} {Q : (ι → Nat → Int32) → (ι → Nat → Int32) → Nat → Prop} (hp : p < 4096) (hm : ∀ i, m i p = wI k to fr x) (hk : k = 0 ∨ k = 1 ∨ k = 3 ∨ k = 4) (ht : to < 32) (hf : fr < 32) (h1 : -2048 ≤ x.toInt) (h2 : x.toInt < 2048) (hk1 : k = 1 → x.toBitVec.toNat < 32)
    (hq : Q m (fun i => wr (r i) to (jv (nI k) (r i fr) x)) (p + 1)) : FX 1 m r p Q := by
  refine FX.one (m' := m) (r' := fun i => wr (r i) to (jv (nI k) (r i fr) x)) (p' := p + 1) (fun l c => ⟨acF l (4 * p), bgc l c (4 * p), acF_hi, fun i P hP => ?_⟩) hq
  obtain ⟨a1, a2, a3, a4, a5, a6, a7⟩ := dec5 (m := x.toBitVec.toNat % 4096) (f := fr) (k := k) (t := to) (c := 19) (by omega) hf (by omega) ht (by omega) (w := wI k to fr x) rfl
  have a8 := imm12 (f := fr) (k := k) (t := to) (c := 19) h1 h2 hf (by omega) ht (by omega) (w := wI k to fr x) rfl
  refine c_pre (σ := ms (m i) (r i) l p c) hp rfl ?_
  show cSw _ (m i p) P
  rw [hm i]
  unfold cSw
  rw [a1]
  simp (config := {decide := true}) only [show nI 19 = 19 from rfl, false_implies, true_implies, true_and, and_true, not_false_eq_true, not_true_eq_false]
  unfold wp_X2_doWithNumber wp_X2_third
  intro y3 e3 y4 e4
  rw [a7] at e3
  rw [a8] at e4
  rw [a3, e4]
  have last : wp_X2_doWithNumber_55 P (ms (m i) (r i) l p c) (wI k to fr x) (nI k) x 0 := by
    refine c_begin (p := 4 * p) (by omega) rfl ⟨fun _ => ⟨rx_in _ _, c_join (c_pass ?_)⟩, fun c => absurd rfl c⟩
    rw [a4, nI_clamp (by omega), cBeg_eq, cPass_eq ht a2]
    exact hP
  have l32 : wp_X2_doWithNumber_31 P (ms (m i) (r i) l p c) (wI k to fr x) (nI k) y3 x := by
    rcases hk with q | q | q | q
    · subst q
      exact ⟨fun c => absurd c (by decide), fun _ => ⟨fun _ => last, fun c => absurd c (by decide)⟩⟩
    · subst q
      have hy : y3 = 0 := by
        rw [e3, show x.toBitVec.toNat % 4096 / 32 = 0 by have := hk1 rfl; omega]
        rfl
      exact ⟨fun _ => ⟨fun _ => last, fun c => absurd hy c⟩, fun c => absurd rfl c⟩
    · subst q
      exact ⟨fun c => absurd c (by decide), fun _ => ⟨fun _ => last, fun c => absurd c (by decide)⟩⟩
    · subst q
      exact ⟨fun c => absurd c (by decide), fun _ => ⟨fun _ => last, fun c => absurd c (by decide)⟩⟩
  refine ⟨fun _ => l32, fun c => ?_⟩
  have := (nI_eq (b := 5) (by omega) (by omega)).mp c
  omega
end StepM
