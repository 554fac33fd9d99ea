section SimV
variable {ι : Type}
theorem rs_go {T : TX} {g : List DD} {p : Nat} {x y : Tr} {w : Bool} {S S1 : SR} (h0 : S.2.2.2 = none) (h1 : stepS w (p / 8) S = S1) (h2 : S1.2.2.2 = none) : rs T g (.branch p x y) 1 w S =
    (if p % 8 = 0 then (match ev T g S1.1 x with
      | .error z => failS S1 1 z
      | .ok v => (upd S1.1 (fw T g (nmk T g (p / 8))) v, S1.2))
    else if p % 8 = 1 then (match ev T g S1.1 x with
      | .error z => failS S1 1 z
      | .ok i => if i.toBitVec.toNat < dsz T (gx g (nmk T g (p / 8))) then (match ev T g S1.1 y with
        | .error z => failS S1 1 z
        | .ok v => (upd S1.1 (fw T g (nmk T g (p / 8)) + i.toBitVec.toNat) v, S1.2))
        else failS S1 1 (p / 8 + 1))
    else if p % 8 = 2 then (match ev T g S1.1 x with
      | .error z => failS S1 1 z
      | .ok v => if S1.2.2.1.length = 100 then failS S1 3 (p / 8) else (S1.1, S1.2.1, S1.2.2.1 ++ [v], none))
    else if p % 8 = 3 then wloop T g w (p / 8) x (rs T g y 0 w) (S1.2.1 + 1) S1
    else (match ev T g S1.1 x with
      | .error z => failS S1 1 z
      | .ok v => if p % 8 = 4 then (if v = 0 then S1 else rs T g y 0 (w || esc T g x) S1) else rs T g y (if v = 0 then 3 else 2) (w || esc T g x) S1)) := by
  rw [rs, if_neg (by omega), if_pos rfl, h0, h1]
  dsimp only
  rw [h2]
  rfl
theorem rs_stop {T : TX} {g : List DD} {p : Nat} {x y : Tr} {w : Bool} {S : SR} {z : Nat × Nat} (h0 : S.2.2.2 = none) (h2 : (stepS w (p / 8) S).2.2.2 = some z) : rs T g (.branch p x y) 1 w S = stepS w (p / 8) S := by
  rw [rs, if_neg (by omega), if_pos rfl, h0]
  dsimp only
  rw [h2]
/-- runs that can't be told apart from without -/
def LW (T : TX) (g : List DD) (Sf : ι → SR) (st n : Nat) : Prop := PE T g (fun i => (Sf i).1) ∧ (∀ i, (Sf i).2.1 = st) ∧ (∀ i, (Sf i).2.2.1.length = n) ∧ (∀ i, (Sf i).2.2.2 = none)
def MRw (M : Nat → Int32) (Sf : ι → SR) (m r : ι → Nat → Int32) : Prop := (∀ i j, 512 ≤ j → j < 4096 → m i j = M j) ∧ (∀ i k, k < 200 → m i k = (Sf i).1 k) ∧ (∀ i k, k < (Sf i).2.2.1.length → m i (200 + k) = ((Sf i).2.2.1[k]?).getD 0) ∧ (∀ i, r i 0 = 0) ∧ (∀ i, r i 2 = nI (Sf i).2.1) ∧ (∀ i, r i 4 = nI (4 * (Sf i).2.2.1.length))
theorem MRw.fr {M : Nat → Int32} {Sf : ι → SR} {m r m' r' : ι → Nat → Int32} (h : MRw M Sf m r) (hl : ∀ i, (Sf i).2.2.1.length ≤ 100) (h1 : ∀ i j, (j < 300 ∨ 512 ≤ j) → m' i j = m i j) (h2 : ∀ i j, (j = 0 ∨ j = 2 ∨ j = 4) → r' i j = r i j) : MRw M Sf m' r' := by
  obtain ⟨a1, a2, a3, a4, a5, a6⟩ := h
  exact ⟨fun i j k1 k2 => (h1 i j (by omega)).trans (a1 i j k1 k2), fun i k hk => (h1 i k (by omega)).trans (a2 i k hk), fun i k hk => (h1 i _ (by have := hl i; omega)).trans (a3 i k hk), fun i => (h2 i 0 (by omega)).trans (a4 i), fun i => (h2 i 2 (by omega)).trans (a5 i), fun i => (h2 i 4 (by omega)).trans (a6 i)⟩
/-- how a row of orders comes out -/
def VQ (T : TX) (g : List DD) (u : Nat) (pl B M : Nat → Int32) (b : Nat) (Sf : ι → SR) (m' r' : ι → Nat → Int32) (p : Nat) : Prop := MRw M Sf m' r' ∧ ((∃ st n, LW T g Sf st n ∧ st ≤ 2000 ∧ n ≤ 100 ∧ (∀ i, r' i 3 = -1) ∧ p = b) ∨ (∃ c t, (∀ i, (Sf i).2.2.2 = some (c, t)) ∧ (∀ i, (Sf i).2.2.1.length ≤ 100) ∧ ENQ T u pl B M c t r' p))
theorem VQ.end {T : TX} {g : List DD} {u : Nat} {pl B M : Nat → Int32} {b b' : Nat} {Sf Sf' : ι → SR} {m' r' : ι → Nat → Int32} {p c t : Nat} (hm : MRw M Sf m' r') (h1 : ∀ i, (Sf i).2.2.2 = some (c, t)) (h2 : ∀ i, (Sf i).2.2.1.length ≤ 100) (h3 : ENQ T u pl B M c t r' p) (he : ∀ i, Sf' i = Sf i) : VQ T g u pl B M b' Sf' m' r' p := by
  have e : Sf' = Sf := funext he
  rw [e]
  exact ⟨hm, Or.inr ⟨c, t, h1, h2, h3⟩⟩
/-- a step -/
theorem vis_step {T : TX} {g : List DD} {u : Nat} {pl B M : Nat → Int32} {Sf : ι → SR} {m r : ι → Nat → Int32} {a a1 s t st n : Nat} {Q : (ι → Nat → Int32) → (ι → Nat → Int32) → Nat → Prop} (hK : KStep M) (hs : STP M B false s a a1) (hpl : pl s = nI (PL T t)) (hsu : s < u) (hl : LW T g Sf st n) (hst : st ≤ 2000) (hn : n ≤ 100) (hm : MRw M Sf m r) (h3 : ∀ i, r i 3 = -1) (ha : 530 ≤ a) (ha2 : a < 4095)
    (h0 : st = 0 → ∀ r', (∀ i, (stepS false t (Sf i)).2.2.2 = some (2, t)) → MRw M (fun i => stepS false t (Sf i)) m r' → ENQ T u pl B M 2 t r' 518 → Q m r' 518)
    (h1 : 0 < st → ∀ r', LW T g (fun i => stepS false t (Sf i)) (st - 1) n → MRw M (fun i => stepS false t (Sf i)) m r' → (∀ i, (stepS false t (Sf i)).1 = (Sf i).1) → (∀ i, r' i 3 = -1) → Q m r' a1) : FX 4 m r a Q := by
  obtain ⟨l1, l2, l3, l4⟩ := hl
  obtain ⟨a1', a2, a3, a4, a5, a6⟩ := id hm
  unfold STP at hs
  rw [if_neg (by decide)] at hs
  obtain ⟨w1, w2, w3⟩ := hs
  have es0 : st = 0 → ∀ i, stepS false t (Sf i) = ((Sf i).1, 0, (Sf i).2.2.1, some (2, t)) := by
    intro e i
    unfold stepS
    rw [if_neg (by decide), if_pos (by rw [l2 i, e])]
  have es1 : 0 < st → ∀ i, stepS false t (Sf i) = ((Sf i).1, st - 1, (Sf i).2.2.1, none) := by
    intro e i
    unfold stepS
    rw [if_neg (by decide), if_neg (by rw [l2 i]; omega), l2 i]
  refine sim_step (s := st) hK a1' ha ha2 w1 a4 (fun i => by rw [a5 i, l2 i]) hst (fun e r' g1 g2 g3 => ?_) (fun e r' g1 g2 => ?_)
  · refine h0 e r' (fun i => by rw [es0 e i]) ⟨a1', fun i k hk => ?_, fun i k hk => ?_, fun i => ?_, fun i => ?_, fun i => ?_⟩ ⟨hK.2.2.2.2, by omega, by omega, g1, s, a1, hsu, hpl, w3, by omega, by omega, fun i => by rw [g2 i, w2]⟩
    · show m i k = (stepS false t (Sf i)).1 k
      rw [es0 e i]
      exact a2 i k hk
    · have hk : k < (stepS false t (Sf i)).2.2.1.length := hk
      show m i (200 + k) = ((stepS false t (Sf i)).2.2.1[k]?).getD 0
      rw [es0 e i] at hk ⊢
      exact a3 i k hk
    · rw [g3 i 0 (by omega) (by omega)]
      exact a4 i
    · show r' i 2 = nI (stepS false t (Sf i)).2.1
      rw [es0 e i, g3 i 2 (by omega) (by omega), a5 i, l2 i, e]
    · show r' i 4 = nI (4 * (stepS false t (Sf i)).2.2.1.length)
      rw [es0 e i, g3 i 4 (by omega) (by omega), a6 i]
  · rw [← w2]
    have eE : ∀ i, (stepS false t (Sf i)).1 = (Sf i).1 := fun i => by rw [es1 e i]
    refine h1 e r' ⟨?_, fun i => by show (stepS false t (Sf i)).2.1 = _; rw [es1 e i], fun i => by show (stepS false t (Sf i)).2.2.1.length = _; rw [es1 e i]; exact l3 i, fun i => by show (stepS false t (Sf i)).2.2.2 = _; rw [es1 e i]⟩ ⟨a1', fun i k hk => ?_, fun i k hk => ?_, fun i => ?_, fun i => ?_, fun i => ?_⟩ eE (fun i => ?_)
    · have : (fun i => (stepS false t (Sf i)).1) = (fun i => (Sf i).1) := funext eE
      rw [this]
      exact l1
    · show m i k = (stepS false t (Sf i)).1 k
      rw [es1 e i]
      exact a2 i k hk
    · have hk : k < (stepS false t (Sf i)).2.2.1.length := hk
      show m i (200 + k) = ((stepS false t (Sf i)).2.2.1[k]?).getD 0
      rw [es1 e i] at hk ⊢
      exact a3 i k hk
    · rw [g2 i 0 (by omega) (by omega)]
      exact a4 i
    · show r' i 2 = nI (stepS false t (Sf i)).2.1
      rw [es1 e i, g1 i]
    · show r' i 4 = nI (4 * (stepS false t (Sf i)).2.2.1.length)
      rw [es1 e i, g2 i 4 (by omega) (by omega), a6 i]
    · rw [g2 i 3 (by omega) (by omega), h3 i]
theorem MRw.fail {M : Nat → Int32} {Sf : ι → SR} {m r : ι → Nat → Int32} {c t : Nat} (h : MRw M Sf m r) : MRw M (fun i => failS (Sf i) c t) m r := h
/-- an EXPR of a statement -/
theorem vis_ex {T : TX} {N u : Nat} {g : List DD} {M B : Nat → Int32} {σ4 : SX4} {Sf : ι → SR} (hv : GV T N g) (hK : KOK T g M) (hu3 : u ≤ 3000) {x : Tr} {sx : Bool} {i h a b st n nb : Nat} {m r : ι → Nat → Int32} {Q : (ι → Nat → Int32) → (ι → Nat → Int32) → Nat → Prop} (hwf : WF T N x) (hj : je T g false x = .ok sx) (hcx : CX T g M B x i 0 h a b) (hcs : CS T σ4 x i) (hi : i < u) (hrh : rh x ≤ 112) (hh : h ≤ 40) (hl : LW T g Sf st n) (hm : MRw M Sf m r) (hn : n ≤ 100) (ha : 532 + 10 * nrw g ≤ a) (hb : b ≤ 4095)
    (hE : ∀ (t : Nat) (m' r' : ι → Nat → Int32) (p' : Nat), (∀ i, ev T g (Sf i).1 x = .error t) → MRw M (fun i => failS (Sf i) 1 t) m' r' → (∀ i, (failS (Sf i) 1 t).2.2.1.length ≤ 100) → ENQ T u σ4.1.2.1 B M 1 t r' p' → Q m' r' p')
    (hY : ∀ (v : ι → Int32) (m' r' : ι → Nat → Int32), (∀ i, ev T g (Sf i).1 x = .ok (v i)) → (∀ i, r' i 6 = v i) → MRw M Sf m' r' → (∀ i j, (j < 300 + h ∨ 512 ≤ j) → m' i j = m i j) → (∀ i, r' i 3 = r i 3) → FX nb m' r' b Q) : FX (6 * (b - a) + nb) m r a Q := by
  obtain ⟨l1, l2, l3, l4⟩ := hl
  have hd4 := hcs.hd.2.2.2
  refine FX.seq (b := nb) (sim_ex (u := u) (w := false) (E := fun i => (Sf i).1) hv l1 hK x sx i 0 h a b m r hwf hj hcx hcs hi hm.1 hm.2.1 hm.2.2.2.1 ha hb (fun _ => rfl) (fun _ => by have := nd_11 (T := T) (e := x) (by omega); omega) (nd_11 (by omega)) (by omega)) (fun m1 r1 p1 hQ => ?_) (Nat.le_refl _)
  obtain ⟨fr1, ok | er⟩ := hQ
  · obtain ⟨v, e1, e2, e3⟩ := ok
    rw [e3]
    refine hY v m1 r1 e1 e2 (hm.fr (fun i => by rw [l3 i]; exact hn) (fun i j hj => fr1.1 i j (by omega)) (fun i j hj => fr1.2 i j (by omega))) fr1.1 (fun i => fr1.2 i 3 (by omega))
  · obtain ⟨t, e1, e2⟩ := er
    refine FX.le (a := 0) (FX.nil (hE t m1 r1 p1 e1 ?_ (fun i => ?_) e2)) (Nat.zero_le _)
    · exact (hm.fr (fun i => by rw [l3 i]; exact hn) (fun i j hj => fr1.1 i j (by omega)) (fun i j hj => fr1.2 i j (by omega))).fail
    · show (Sf i).2.2.1.length ≤ 100
      rw [l3 i]
      exact hn
end SimV
