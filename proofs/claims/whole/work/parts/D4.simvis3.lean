section SimV3
variable {ι : Type}
theorem wl_end {T : TX} {g : List DD} {w : Bool} {t : Nat} {x : Tr} {f : SR → SR} {n : Nat} {S : SR} {z : Nat × Nat} (h : S.2.2.2 = some z) : wloop T g w t x f n S = S := by
  cases n with
  | zero => rfl
  | succ n => rw [wloop, h]
theorem wl_stop {T : TX} {g : List DD} {w : Bool} {t : Nat} {x : Tr} {f : SR → SR} {n : Nat} {S : SR} {z : Nat × Nat} (h : S.2.2.2 = none) (h2 : (stepS w t S).2.2.2 = some z) : wloop T g w t x f (n + 1) S = stepS w t S := by
  rw [wloop, h]
  dsimp only
  rw [h2]
theorem wl_go {T : TX} {g : List DD} {w : Bool} {t : Nat} {x : Tr} {f : SR → SR} {n : Nat} {S : SR} (h : S.2.2.2 = none) (h2 : (stepS w t S).2.2.2 = none) : wloop T g w t x f (n + 1) S = (match ev T g (stepS w t S).1 x with
    | .error z => failS (stepS w t S) 1 z
    | .ok v => if v = 0 then stepS w t S else wloop T g w t x f n (f (stepS w t S))) := by
  rw [wloop, h]
  dsimp only
  rw [h2]
  rfl
theorem vis_while {T : TX} {N u n : Nat} {g : List DD} {M B : Nat → Int32} {σ4 : SX4} (i0 : ι) (hv : GV T N g) (hK : KOK T g M) (hu3 : u ≤ 3000) (ih : SVIS ι i0 T N u g M B σ4 n) {p s a b st nn t t' bh : Nat} {x y : Tr} {m r : ι → Nat → Int32} {Sf : ι → SR} (c3 : p % 8 = 3) (hty : tsz y < n) (hwx : WF T N x) (hwy : WFS T N y 0) (hrx : rh x ≤ 112) (hxy : XS T y 0 t t' bh) (hbh : bh ≤ 31) (b1 : nk σ4 s 21 (PL T (p / 8))) (b2 : nk σ4 (s + 1) 22 (PL T (p / 8))) (b3 : CS T σ4 x (s + 1 + sz T x)) (b4 : CB T σ4 y 0 (s + sz T x + 3)) (hj : js T g (.branch p x y) 1 false = .ok ())
    (hcx : ∃ a1 a2 c d, STP M B false s a a1 ∧ STP M B false (s + 1) a1 a2 ∧ CX T g M B x (s + 1 + sz T x) 0 0 a2 c ∧ M c = wB (nI 1) (nI 6) (nI 0) 8 ∧ M (c + 1) = wJ 0 (nI (4 * b) - nI (4 * (c + 1))) ∧ CSX T g M B y 0 (s + sz T x + 3) false 0 (c + 2) d ∧ M d = wJ 0 (nI (4 * a1) - nI (4 * d)) ∧ b = d + 1) (hu : s + (sz T x + szS T y 0 + 4) ≤ u)
    (hl : LW T g Sf st nn) (hst : st ≤ 2000) (hn : nn ≤ 100) (hm : MRw M Sf m r) (h3 : ∀ i, r i 3 = -1) (ha : 532 + 10 * nrw g ≤ a) (hb : b ≤ 4090) : FX (6 * (b - a) + 21600 * (st - (rs T g (.branch p x y) 1 false (Sf i0)).2.1)) m r a (VQ T g u σ4.1.2.1 B M b (fun i => rs T g (.branch p x y) 1 false (Sf i))) := by
  obtain ⟨a1, a2, c, d, g1, g2, g3, w1, w2, g4, w3, eb⟩ := hcx
  have l1 := g1.le
  have l2 := g2.le
  have l3 := CX.le _ _ _ _ _ _ g3
  have l4 := CSX.le _ _ _ _ _ _ _ g4
  have px := sz_pos T x
  obtain ⟨_, k1, k2⟩ := js_while c3 hj
  have a1e : a1 = a + 1 := by unfold STP at g1; rw [if_neg (by decide)] at g1; exact g1.2.1
  have a2e : a2 = a1 + 1 := by unfold STP at g2; rw [if_neg (by decide)] at g2; exact g2.2.1
  have lp : ∀ (n2 : Nat) (S : ι → SR) (st nn : Nat) (m r : ι → Nat → Int32), st < n2 → LW T g S st nn → st ≤ 2000 → nn ≤ 100 → MRw M S m r → (∀ i, r i 3 = -1) → FX (6 * (b - a1) + 21600 * (st - (wloop T g false (p / 8) x (rs T g y 0 false) n2 (S i0)).2.1)) m r a1 (VQ T g u σ4.1.2.1 B M b (fun i => wloop T g false (p / 8) x (rs T g y 0 false) n2 (S i))) := by
    intro n2
    induction n2 with
    | zero => intro S st nn m r h; exact absurd h (by omega)
    | succ n2 ih2 =>
      intro S st nn m r hn2 hl hst hn hm h3
      have stle := wloop_st (T := T) (g := g) (w := false) (t := p / 8) (x := x) (f := rs T g y 0 false) (fun S => rs_st y 0 false S) (n2 + 1) (S i0)
      rw [hl.2.1 i0] at stle
      have go : ∀ i, (stepS false (p / 8) (S i)).2.2.2 = none → wloop T g false (p / 8) x (rs T g y 0 false) (n2 + 1) (S i) = (match ev T g (stepS false (p / 8) (S i)).1 x with
        | .error z => failS (stepS false (p / 8) (S i)) 1 z
        | .ok v => if v = 0 then stepS false (p / 8) (S i) else wloop T g false (p / 8) x (rs T g y 0 false) n2 (rs T g y 0 false (stepS false (p / 8) (S i)))) := fun i h => wl_go (hl.2.2.2 i) h
      by_cases e0 : st = 0
      · refine FX.le (vis_stepF (u := u) (nb := 0) hK.1 g2 b2.2 (by omega) hl hst hn hm h3 (by omega) (by omega) (fun e r' q1 q0 q2 q3 => ?_) (fun e => absurd e (by omega))) (by omega)
        exact VQ.end (b := b) q2 q1 q0 q3 (fun i => wl_stop (hl.2.2.2 i) (q1 i))
      · -- how much is left behind the BLOCK
        refine FX.le (vis_stepF (u := u) (nb := 6 * (c - a2) + (1 + (1 + (6 * (d - (c + 2)) + 1 + 6 * (b - a1) + 21600 * (st - 1 - (wloop T g false (p / 8) x (rs T g y 0 false) (n2 + 1) (S i0)).2.1))))) hK.1 g2 b2.2 (by omega) hl hst hn hm h3 (by omega) (by omega) (fun e r' q1 q0 q2 q3 => absurd e e0) (fun e r' q1 q2 q3 q4 => ?_)) ?_
        · refine vis_ex hv hK hu3 hwx k1 g3 b3 (by omega) hrx (by omega) q1 q2 hn (by omega) (by omega) (fun tt m' r'' p' z1 z2 z4 z3 => ?_) (fun v m' r'' z1 z2 z3 z4 z5 => ?_)
          · exact VQ.end (b := b) z2 (fun i => rfl) z4 z3 (fun i => by rw [go i (q1.2.2.2 i), z1 i])
          · obtain ⟨vz, hvz⟩ := ev_com hv q1.1 k1 z1
            refine FX.seq (a := 1) (sim_way (v := vz) (Q := fun mm rr pp => mm = m' ∧ rr = r'' ∧ pp = if vz = 0 then c + 1 else c + 2) w1 z3.1 (by omega) (by omega) z3.2.2.2.1 (fun i => by rw [z2 i, hvz i]) ⟨rfl, rfl, rfl⟩) (fun mm rr pp hQ => ?_) (Nat.le_refl _)
            obtain ⟨f1, f2, f3⟩ := hQ
            rw [f1, f2, f3]
            by_cases v0 : vz = 0
            · rw [if_pos v0]
              refine FX.le (a := 1) (sim_jmp (a := b) w2 z3.1 (by omega) (by omega) (by omega) (by omega) ?_) (by omega)
              have eS : (fun i => wloop T g false (p / 8) x (rs T g y 0 false) (n2 + 1) (S i)) = (fun i => stepS false (p / 8) (S i)) := by
                funext i
                rw [go i (q1.2.2.2 i), z1 i]
                dsimp only
                rw [hvz i, if_pos v0]
              rw [eS]
              exact ⟨z3, Or.inl ⟨st - 1, nn, q1, by omega, hn, fun i => by rw [z5 i, q4 i], rfl⟩⟩
            · rw [if_neg v0]
              have eS : ∀ i, wloop T g false (p / 8) x (rs T g y 0 false) (n2 + 1) (S i) = wloop T g false (p / 8) x (rs T g y 0 false) n2 (rs T g y 0 false (stepS false (p / 8) (S i))) := by
                intro i
                rw [go i (q1.2.2.2 i), z1 i]
                dsimp only
                rw [hvz i, if_neg v0]
              have s2le := rs_st (T := T) (g := g) y 0 false (stepS false (p / 8) (S i0))
              have s1e : (stepS false (p / 8) (S i0)).2.1 = st - 1 := q1.2.1 i0
              rw [s1e] at s2le
              have s3le := wloop_st (T := T) (g := g) (w := false) (t := p / 8) (x := x) (f := rs T g y 0 false) (fun S => rs_st y 0 false S) n2 (rs T g y 0 false (stepS false (p / 8) (S i0)))
              have cnt : 6 * (d - (c + 2)) + 21600 * (st - 1 - (rs T g y 0 false (stepS false (p / 8) (S i0))).2.1) + (1 + (6 * (b - a1) + 21600 * ((rs T g y 0 false (stepS false (p / 8) (S i0))).2.1 - (wloop T g false (p / 8) x (rs T g y 0 false) n2 (rs T g y 0 false (stepS false (p / 8) (S i0)))).2.1))) ≤ 1 + (6 * (d - (c + 2)) + 1 + 6 * (b - a1) + 21600 * (st - 1 - (wloop T g false (p / 8) x (rs T g y 0 false) (n2 + 1) (S i0)).2.1)) := by
                rw [eS i0]
                omega
              refine FX.seq (b := 1 + (6 * (b - a1) + 21600 * ((rs T g y 0 false (stepS false (p / 8) (S i0))).2.1 - (wloop T g false (p / 8) x (rs T g y 0 false) n2 (rs T g y 0 false (stepS false (p / 8) (S i0)))).2.1))) (ih y 0 (s + sz T x + 3) (c + 2) d t t' bh m' r'' (fun i => stepS false (p / 8) (S i)) (st - 1) nn hty (by omega) hwy hxy hbh b4 k2 g4 (by omega) q1 (by omega) hn z3 (fun i => by rw [z5 i, q4 i]) (by omega) (by omega)) (fun m5 r5 p5 hQ => ?_) cnt
              obtain ⟨mw, ok | en⟩ := hQ
              · obtain ⟨st2, n2', lw2, hst2, hn2', r53, ep⟩ := ok
                rw [ep]
                have est2 : st2 = (rs T g y 0 false (stepS false (p / 8) (S i0))).2.1 := (lw2.2.1 i0).symm
                refine FX.seq (a := 1) (sim_jmp (a := a1) (Q := fun mm rr pp => mm = m5 ∧ rr = r5 ∧ pp = a1) w3 mw.1 (by omega) (by omega) (by omega) (by omega) ⟨rfl, rfl, rfl⟩) (fun mm rr pp hQ => ?_) (Nat.le_refl _)
                obtain ⟨f1, f2, f3⟩ := hQ
                rw [f1, f2, f3]
                have := ih2 (fun i => rs T g y 0 false (stepS false (p / 8) (S i))) st2 n2' m5 r5 (by omega) lw2 hst2 hn2' mw r53
                rw [est2] at this
                have eSf : (fun i => wloop T g false (p / 8) x (rs T g y 0 false) (n2 + 1) (S i)) = (fun i => wloop T g false (p / 8) x (rs T g y 0 false) n2 (rs T g y 0 false (stepS false (p / 8) (S i)))) := funext eS
                rw [eSf]
                exact this
              · obtain ⟨cc, tt, e1, e2, e3⟩ := en
                refine FX.le (a := 0) (FX.nil (VQ.end (b := b) mw e1 e2 e3 (fun i => ?_))) (Nat.zero_le _)
                rw [eS i]
                exact wl_end (e1 i)
        · have : (wloop T g false (p / 8) x (rs T g y 0 false) (n2 + 1) (S i0)).2.1 ≤ st - 1 := by
            have h5 : (stepS false (p / 8) (S i0)).2.1 = st - 1 := by
              unfold stepS
              rw [if_neg (by decide), if_neg (by rw [hl.2.1 i0]; omega), hl.2.1 i0]
            have h6 : (stepS false (p / 8) (S i0)).2.2.2 = none := by
              unfold stepS
              rw [if_neg (by decide), if_neg (by rw [hl.2.1 i0]; omega)]
            rw [go i0 h6]
            split
            · show (stepS false (p / 8) (S i0)).2.1 ≤ _
              omega
            · split
              · omega
              · have q1 := wloop_st (T := T) (g := g) (w := false) (t := p / 8) (x := x) (f := rs T g y 0 false) (fun S => rs_st y 0 false S) n2 (rs T g y 0 false (stepS false (p / 8) (S i0)))
                have q2 := rs_st (T := T) (g := g) y 0 false (stepS false (p / 8) (S i0))
                omega
          omega
  have rsle := rs_st (T := T) (g := g) (.branch p x y) 1 false (Sf i0)
  rw [hl.2.1 i0] at rsle
  refine FX.le (vis_stepF (u := u) (nb := 6 * (b - a1) + 21600 * (st - (rs T g (.branch p x y) 1 false (Sf i0)).2.1)) hK.1 g1 b1.2 (by omega) hl hst hn hm h3 (by omega) (by omega) (fun e r' q1 q0 q2 q3 => ?_) (fun e r' q1 q2 q3 q4 => ?_)) (by omega)
  · exact VQ.end (b := b) q2 q1 q0 q3 (fun i => rs_stop (hl.2.2.2 i) (q1 i))
  · have go : ∀ i, rs T g (.branch p x y) 1 false (Sf i) = wloop T g false (p / 8) x (rs T g y 0 false) (st - 1 + 1) (stepS false (p / 8) (Sf i)) := by
      intro i
      have e1 : (stepS false (p / 8) (Sf i)).2.1 = st - 1 := q1.2.1 i
      rw [rs_go (hl.2.2.2 i) rfl (q1.2.2.2 i), if_neg (by omega), if_neg (by omega), if_neg (by omega), if_pos c3, e1]
    have eS : (fun i => rs T g (.branch p x y) 1 false (Sf i)) = (fun i => wloop T g false (p / 8) x (rs T g y 0 false) (st - 1 + 1) (stepS false (p / 8) (Sf i))) := funext go
    have := lp (st - 1 + 1) (fun i => stepS false (p / 8) (Sf i)) (st - 1) nn m r' (by omega) q1 (by omega) hn q2 q4
    rw [eS, go i0]
    exact FX.le this (by omega)
end SimV3
