section WorkM
/-- how the machine stands when a run has ended -/
def FINM (T : TX) (u : Nat) (pl B M : Nat → Int32) (S : SR) (l : Nat → Int32) (σ : SX2) : Prop :=
  (∀ j, 512 ≤ j → j < 4096 → σ.1.1.1 j = M j) ∧ (∀ k, k < 200 → σ.1.1.1 k = S.1 k) ∧ S.2.2.1.length ≤ 100 ∧ (∀ k, k < S.2.2.1.length → σ.1.1.1 (200 + k) = (S.2.2.1[k]?).getD 0) ∧ σ.1.1.2 2 = nI S.2.1 ∧ σ.1.1.2 4 = nI (4 * S.2.2.1.length) ∧ (∀ j, 32 ≤ j → σ.1.2.1 j = l j) ∧
  ((S.2.2.2 = none ∧ σ.1.1.2 5 = 0) ∨ (∃ c t, S.2.2.2 = some (c, t) ∧ σ.1.1.2 5 = nI c ∧ ∃ j q, j < u ∧ pl j = nI (PL T t) ∧ B j = nI (4 * q) ∧ 512 < q ∧ q < 4096 ∧ σ.1.1.2 1 = nI (4 * q)))
def WST (T : TX) (g : List DD) (M PB : Nat → Int32) (st : Nat) (E m r : Nat → Int32) : Prop := (∀ j, 512 ≤ j → j < 4096 → m j = M j) ∧ (∀ k, k < 200 → m k = E k) ∧ r 0 = 0 ∧ r 2 = nI st ∧ r 4 = 0 ∧ ∀ w, pw T g w → E w = PB w
def c00 : CY := ((0, 0), (0, 0))
/-- a run of the machine: what can be seen from without is the same for all runs with the same public words -/
theorem w_run {T : TX} {N u s t t' st : Nat} {g : List DD} {e : Tr} {M B : Nat → Int32} {σ4 : SX4} (hv : GV T N g) (hp : PRG T g e s M B) (hu3 : u ≤ 3000) (hwf : WFS T N e 0) (hxs : XS T e 0 t t' 31) (hcb : CB T σ4 e 0 s) (hjs : js T g e 0 false = .ok ()) (hu : s + szS T e 0 = u) (hst : st ≤ 2000) (PB l : Nat → Int32) :
    ∃ cy : CY, ∀ E m r, WST T g M PB st E m r → ∃ σ' : SX2, σ'.2 = cy ∧ FINM T u σ4.1.2.1 B M (rs T g e 0 false (E, st, [], none)) l σ' ∧ ∀ post : Int32 → SX2 → Prop, post 1 σ' → wp_X2_work (ms m r l 512 c00) (nI 100000000) post := by
  by_cases hne : ∃ x : (Nat → Int32) × (Nat → Int32) × (Nat → Int32), WST T g M PB st x.1 x.2.1 x.2.2
  · obtain ⟨x0, hx0⟩ := hne
    obtain ⟨b, b1, b2, hK, b4, b5, b6, b7⟩ := hp
    have ln := CSX.le _ _ _ _ _ _ _ b4
    let ι := {x : (Nat → Int32) × (Nat → Int32) × (Nat → Int32) // WST T g M PB st x.1 x.2.1 x.2.2}
    let i0 : ι := ⟨x0, hx0⟩
    let m : ι → Nat → Int32 := fun i => i.1.2.1
    let r : ι → Nat → Int32 := fun i => i.1.2.2
    let Sf : ι → SR := fun i => (i.1.1, st, [], none)
    have hM : ∀ (i : ι) j, 512 ≤ j → j < 4096 → m i j = M j := fun i => i.2.1
    have hz : ∀ i : ι, r i 0 = 0 := fun i => i.2.2.2.1
    have fx : FX (6 * 4096 + 21600 * 2000 + 3) m r 512 (fun m' r' p => M p = 115 ∧ 512 ≤ p ∧ p < 4096 ∧ MRw M (fun i => rs T g e 0 false (Sf i)) m' r' ∧ (∀ i, (rs T g e 0 false (Sf i)).2.2.1.length ≤ 100) ∧ (((∀ i, (rs T g e 0 false (Sf i)).2.2.2 = none) ∧ ∀ i, r' i 5 = 0) ∨ ∃ c t, (∀ i, (rs T g e 0 false (Sf i)).2.2.2 = some (c, t)) ∧ ENQ T u σ4.1.2.1 B M c t r' p)) := by
      refine FX.cons (n := 6 * 4096 + 21600 * 2000 + 2) (m1 := m) (r1 := fun i => wr (r i) 3 (jv (nI 0) (r i 0) (-1))) (p1 := 513) (fx_num (k := 0) (to := 3) (fr := 0) (x := -1) (by omega) (fun i => (hM i 512 (by omega) (by omega)).trans b1) (by omega) (by omega) (by omega) (by decide) (by decide) (fun c => absurd c (by omega)) ⟨rfl, rfl, rfl⟩) ?_ (by omega)
      refine FX.cons (n := 6 * 4096 + 21600 * 2000 + 1) (m1 := m) (r1 := fun i => wr (r i) 3 (jv (nI 0) (r i 0) (-1))) (p1 := 532 + 10 * nrw g) (sim_jmp b2 hM (by omega) (by omega) (by omega) (by omega) ⟨rfl, rfl, rfl⟩) ?_ (by omega)
      have r3 : ∀ i : ι, (fun i => wr (r i) 3 (jv (nI 0) (r i 0) (-1))) i 3 = -1 := by
        intro i
        show wr (r i) 3 (jv (nI 0) (r i 0) (-1)) 3 = -1
        rw [wr_s (by omega), hz i]
        rfl
      have rn : ∀ (i : ι) j, ¬ j = 3 → (fun i => wr (r i) 3 (jv (nI 0) (r i 0) (-1))) i j = r i j := by
        intro i j hj
        show wr (r i) 3 (jv (nI 0) (r i 0) (-1)) j = r i j
        exact wr_n hj
      have lw : LW T g Sf st 0 := ⟨fun w hw i j => (i.2.2.2.2.2.2 w hw).trans (j.2.2.2.2.2.2 w hw).symm, fun _ => rfl, fun _ => rfl, fun _ => rfl⟩
      have mw : MRw M Sf m (fun i => wr (r i) 3 (jv (nI 0) (r i 0) (-1))) := by
        refine ⟨hM, fun i => i.2.2.1, fun i k hk => absurd hk (Nat.not_lt_zero k), fun i => ?_, fun i => ?_, fun i => ?_⟩
        · exact (rn i 0 (by omega)).trans (hz i)
        · exact (rn i 2 (by omega)).trans i.2.2.2.2.1
        · exact (rn i 4 (by omega)).trans i.2.2.2.2.2.1
      refine FX.seq (b := 1) (sim_vis i0 hv hK hu3 (tsz e + 1) e 0 s (532 + 10 * nrw g) b t t' 31 m _ Sf st 0 (by omega) (by omega) hwf hxs (by omega) hcb hjs b4 (by omega) lw hst (by omega) mw r3 (by omega) (by omega)) (fun m' r' p hq => ?_) (by omega)
      obtain ⟨w1, hq⟩ := hq
      rcases hq with ⟨st', n', q1, q2, q3, q4, q5⟩ | ⟨c, t, q1, q2, q3⟩
      · rw [q5]
        refine fx_num (k := 0) (to := 5) (fr := 0) (x := nI 0) (by omega) (fun i => (w1.1 i b (by omega) (by omega)).trans b5) (by omega) (by omega) (by omega) (by decide) (by decide) (fun c => absurd c (by omega)) ?_
        refine ⟨b6, by omega, by omega, w1.fr (fun i => by rw [q1.2.2.1 i]; exact q3) (fun _ _ _ => rfl) (fun i j hj => ?_), fun i => by rw [q1.2.2.1 i]; exact q3, Or.inl ⟨q1.2.2.2, fun i => ?_⟩⟩
        · show wr (r' i) 5 _ j = r' i j
          exact wr_n (by omega)
        · show wr (r' i) 5 (jv (nI 0) (r' i 0) (nI 0)) 5 = 0
          rw [wr_s (by omega), w1.2.2.2.1 i]
          rfl
      · exact FX.le (a := 0) (FX.nil ⟨q3.1, q3.2.1, q3.2.2.1, w1, q2, Or.inr ⟨c, t, q1, q3⟩⟩) (Nat.zero_le _)
    obtain ⟨n', l', c', m', r', p', h1, h2, h3, k1, k2, k3, k4, k5, k6⟩ := fx l c00
    refine ⟨c', fun E me re hw => ?_⟩
    let i : ι := ⟨(E, me, re), hw⟩
    refine ⟨ms (m' i) (r' i) l' p' c', rfl, ⟨k4.1 i, k4.2.1 i, k5 i, k4.2.2.1 i, k4.2.2.2.2.1 i, k4.2.2.2.2.2 i, h2, ?_⟩, fun post hpost => ?_⟩
    · rcases k6 with ⟨z1, z2⟩ | ⟨c, t, z1, z2⟩
      · exact Or.inl ⟨z1 i, z2 i⟩
      · obtain ⟨_, _, _, y1, j, q, y2, y3, y4, y5, y6, y7⟩ := z2
        exact Or.inr ⟨c, t, z1 i, y1 i, j, q, y2, y3, y4, y5, y6, y7 i⟩
    · refine ⟨100000001, ?_⟩
      have od := od_call (m := m' i) (r := r' i) (l := l') (p := p') (c := c') k3 ((k4.1 i p' k2 k3).trans k1)
      have wk : Wk post (ms (m' i) (r' i) l' p' c') (0 + n') := wk_one (by omega) od (fun c => absurd c (by decide)) (fun _ => hpost)
      have wk0 := wk_run n' (ms (m i) (r i) l 512 c00) _ 0 (h3 i) (by omega) wk
      exact wk0 100000001 (by omega)
  · refine ⟨c00, fun E m r hw => absurd ⟨(E, m, r), hw⟩ hne⟩
end WorkM
