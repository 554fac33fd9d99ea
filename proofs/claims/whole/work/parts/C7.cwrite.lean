section CWrite
variable {T : TX} {N : Nat} {g : List DD} {u L : Nat}
/-- a program's code -/
def PRG (T : TX) (g : List DD) (e : Tr) (s : Nat) (M B : Nat → Int32) : Prop := ∃ b, M 512 = wI 0 3 0 (-1) ∧ M 513 = wJ 0 (nI (4 * (532 + 10 * nrw g)) - nI (4 * 513)) ∧ KOK T g M ∧ CSX T g M B e 0 s false 0 (532 + 10 * nrw g) b ∧ M b = wI 0 5 0 (nI 0) ∧ M (b + 1) = 115 ∧ b ≤ 4090
theorem KOK.fr {M M' : Nat → Int32} (h : KOK T g M) (hm : ∀ j, 514 ≤ j → j < 532 + 10 * nrw g → M' j = M j) : KOK T g M' := by
  obtain ⟨⟨a1, a2, a3, a4, a5⟩, ⟨b1, b2, b3, b4⟩, ⟨c1, c2, c3, c4, c5, c6, c7⟩, ⟨d1, d2⟩, e1⟩ := h
  refine ⟨⟨?_, ?_, ?_, ?_, ?_⟩, ⟨?_, ?_, ?_, ?_⟩, ⟨?_, ?_, ?_, ?_, ?_, ?_, ?_⟩, ⟨?_, ?_⟩, fun k hk hr => ?_⟩
  · rw [hm _ (by omega) (by omega)]; exact a1
  · rw [hm _ (by omega) (by omega)]; exact a2
  · rw [hm _ (by omega) (by omega)]; exact a3
  · rw [hm _ (by omega) (by omega)]; exact a4
  · rw [hm _ (by omega) (by omega)]; exact a5
  · rw [hm _ (by omega) (by omega)]; exact b1
  · rw [hm _ (by omega) (by omega)]; exact b2
  · rw [hm _ (by omega) (by omega)]; exact b3
  · rw [hm _ (by omega) (by omega)]; exact b4
  · rw [hm _ (by omega) (by omega)]; exact c1
  · rw [hm _ (by omega) (by omega)]; exact c2
  · rw [hm _ (by omega) (by omega)]; exact c3
  · rw [hm _ (by omega) (by omega)]; exact c4
  · rw [hm _ (by omega) (by omega)]; exact c5
  · rw [hm _ (by omega) (by omega)]; exact c6
  · rw [hm _ (by omega) (by omega)]; exact c7
  · rw [hm _ (by omega) (by omega)]; exact d1
  · rw [hm _ (by omega) (by omega)]; exact d2
  · have h3 := nrw_take hk hr
    obtain ⟨k1, k2⟩ := e1 k hk hr
    exact ⟨k1.fr (fun j j1 j2 => hm j (by omega) (by omega)), k2.fr (fun j j1 j2 => hm j (by omega) (by omega))⟩
theorem k_skipD {z : WSX0} (hz : KZ T g z u L) {m ti ba : Nat → Int32} {a h q : Nat} {post : WSX0 → Prop} {s : Nat} (hs : s ≤ u) (hk : ∀ j, j < s → z.1.2.1.1.2 j = 11 ∨ z.1.2.1.1.2 j = 12) (hp : ∀ F, u - s < F → wp_X0_write_62 post F (KS z m ti ba a h q) (nI s)) : ∀ (n j F : Nat), j + n = s → u - j < F → wp_X0_write_62 post F (KS z m ti ba a h q) (nI j) := by
  intro n
  induction n with
  | zero =>
    intro j F hj hF
    have e : j = s := by omega
    rw [e] at hF ⊢
    exact hp F hF
  | succ n ih =>
    intro j F hj hF
    refine wn_go hz (by omega) (by omega) ?_
    rcases hk j (by omega) with e | e
    · exact wn_0 hz (k := 11) (by omega) e (by omega) (by omega) (ih (j + 1) _ (by omega) (by omega))
    · exact wn_0 hz (k := 12) (by omega) e (by omega) (by omega) (ih (j + 1) _ (by omega) (by omega))
theorem c_write {σ : WSX0} {e : Tr} {s t t' : Nat} {post : WSX0 → Prop} (hv : GV T N g) (hN : ∀ s, s + 1 < N → ¬ tfin T s) (hu3 : u ≤ 3000) (hnw : NW0 σ.1.2 u L) (hnc : NC T g σ.2.1) (hkd : ∀ j, j < s → σ.1.2.1.1.2 j = 11 ∨ σ.1.2.1.1.2 j = 12) (hwf : WFS T N e 0) (hxs : XS T e 0 t t' 31) (hcb : CB T σ.1.2 e 0 s) (hcj : CJS T g σ.1.2 e 0 s) (hu : s + szS T e 0 = u) (hjs : js T g e 0 false = .ok ()) (hb : 532 + 10 * nrw g + wS' T e 0 ≤ 4090) (hbk : ∀ j, j < u → σ.1.2.2.1.2.2 j = -1)
    (hY : ∀ σ' ti ba, σ'.1.2 = (σ.1.2.1, ((σ.1.2.2.1.1, (ti, ba)), σ.1.2.2.2)) → σ'.2.1 = σ.2.1 → σ'.2.2.1 = σ.2.2.1 → σ'.2.2.2.1.2 = σ.2.2.2.1.2 → PRG T g e s σ'.2.2.2.1.1.1 ba → BI u ba 4096 → post σ') : wp_X0_write σ post := by
  unfold wp_X0_write
  refine c_wipe (B := 4096) (by omega) (fun m0 hm0 _ => ?_)
  refine w_add (to := 3) (fr := 0) (x := -1) rfl rfl (by omega) (by omega) ?_
  generalize hz0 : (σ.1, (σ.2.1, (σ.2.2.1, (((m0, aw_fill 32 0 σ.2.2.2.1.1.2), σ.2.2.2.1.2), σ.2.2.2.2)))) = z0
  have nz1 : NW0 z0.1.2 u L := by rw [← hz0]; exact hnw
  have nz2 : NC T g z0.2.1 := by rw [← hz0]; exact hnc
  have nz3 : z0.1.2 = σ.1.2 := by rw [← hz0]
  have nz4 : z0.2.1 = σ.2.1 := by rw [← hz0]
  have nz5 : z0.2.2.1 = σ.2.2.1 := by rw [← hz0]
  have nz6 : z0.2.2.2.1.2 = σ.2.2.2.1.2 := by rw [← hz0]
  have e0 : (((((σ.1.1.1.1.1, (2048 : Int32)), σ.1.1.1.2), (σ.1.1.2.1, (σ.1.1.2.2.1, ((0 : Int32), (0 : Int32))))), σ.1.2), (σ.2.1, (σ.2.2.1, (((m0, aw_fill 32 0 σ.2.2.2.1.1.2), σ.2.2.2.1.2), σ.2.2.2.2)))) = KS (zz z0 z0.1.1.1.1.1 z0.1.1.1.2.1 z0.1.1.1.2.2 z0.1.1.2.1.1 z0.1.1.2.1.2 z0.1.1.2.2.1) m0 z0.1.2.2.1.2.1 z0.1.2.2.1.2.2 512 0 0 := by
    rw [← hz0]
    rfl
  rw [e0]
  refine c_emit (by omega) (c_emit (by omega) ?_)
  refine c_calls (fun m1 k1 k2 k3 k4 => ?_)
  unfold wp_X0_writeRowCalls
  refine ⟨g.length + 1, ?_⟩
  have r1 := c_rows1 (z := z0) (m := m1) (ti := z0.1.2.2.1.2.1) (ba := z0.1.2.2.1.2.2) (h := 0) (q := 0) (st := nI (4 * 514)) (kp := nI (4 * 519)) (tl := nI (4 * 523)) (i0 := z0.1.1.2.1.2) (p0 := z0.1.1.2.2.1) (post := fun τ12 => wp_X0_closeJump τ12 (nI (4 * 513)) (fun τ14 => ∃ n22, wp_X0_write_62 post n22 τ14 0)) hv nz2 (R := nrw g) rfl (g.length + 1) 0 z0.1.1.1.1.1 (by omega) (by omega) (fun k' h1 => absurd h1 (by omega)) (fun ro m2 q1 q2 q3 q4 => ?_)
  · exact r1
  · refine c_closeJump (by omega) ?_
    have hz : KZ T g (zz z0 ro (nI (4 * 514)) (nI (4 * 519)) (nI (4 * 523)) (nI (4 * 530)) (nI (4 * (532 + 5 * nrw g)))) u L := ⟨nz1, nz2, q1, rfl, rfl, rfl, rfl, rfl⟩
    have f1 : (zz z0 ro (nI (4 * 514)) (nI (4 * 519)) (nI (4 * 523)) (nI (4 * 530)) (nI (4 * (532 + 5 * nrw g)))).1.2 = σ.1.2 := nz3
    have f2 : (zz z0 ro (nI (4 * 514)) (nI (4 * 519)) (nI (4 * 523)) (nI (4 * 530)) (nI (4 * (532 + 5 * nrw g)))).2.1 = σ.2.1 := nz4
    have f3 : (zz z0 ro (nI (4 * 514)) (nI (4 * 519)) (nI (4 * 523)) (nI (4 * 530)) (nI (4 * (532 + 5 * nrw g)))).2.2.1 = σ.2.2.1 := nz5
    have f4 : (zz z0 ro (nI (4 * 514)) (nI (4 * 519)) (nI (4 * 523)) (nI (4 * 530)) (nI (4 * (532 + 5 * nrw g)))).2.2.2.1.2 = σ.2.2.2.1.2 := nz6
    generalize zz z0 ro (nI (4 * 514)) (nI (4 * 519)) (nI (4 * 523)) (nI (4 * 530)) (nI (4 * (532 + 5 * nrw g))) = zf at hz f1 f2 f3 f4 ⊢
    have kok : KOK T g m2 := by
      obtain ⟨a1, a2, a3, a4, a5⟩ := k1
      obtain ⟨b1, b2, b3, b4⟩ := k2
      obtain ⟨c1, c2, c3, c4, c5, c6, c7⟩ := k3
      refine ⟨⟨?_, ?_, ?_, ?_, ?_⟩, ⟨?_, ?_, ?_, ?_⟩, ⟨?_, ?_, ?_, ?_, ?_, ?_, ?_⟩, q2, q3⟩
      · rw [q4 _ (by omega)]; exact a1
      · rw [q4 _ (by omega)]; exact a2
      · rw [q4 _ (by omega)]; exact a3
      · rw [q4 _ (by omega)]; exact a4
      · rw [q4 _ (by omega)]; exact a5
      · rw [q4 _ (by omega)]; exact b1
      · rw [q4 _ (by omega)]; exact b2
      · rw [q4 _ (by omega)]; exact b3
      · rw [q4 _ (by omega)]; exact b4
      · rw [q4 _ (by omega)]; exact c1
      · rw [q4 _ (by omega)]; exact c2
      · rw [q4 _ (by omega)]; exact c3
      · rw [q4 _ (by omega)]; exact c4
      · rw [q4 _ (by omega)]; exact c5
      · rw [q4 _ (by omega)]; exact c6
      · rw [q4 _ (by omega)]; exact c7
    have hw512 : m2 512 = wI 0 3 0 (-1) := by
      rw [q4 _ (by omega), k4 _ (by omega)]
      exact (pk_un (by omega)).trans pk_us
    have hbi : BI u z0.1.2.2.1.2.2 (532 + 10 * nrw g) := by
      rw [nz3]
      exact ⟨fun j hj => Or.inl (hbk j hj), fun j k hj hk _ _ => hbk j hj⟩
    generalize z0.1.2.2.1.2.2 = ba0 at hbi ⊢
    generalize z0.1.2.2.1.2.1 = ti0
    refine ⟨u + 1, ?_⟩
    refine k_skipD hz (s := s) (by omega) (by rw [f1]; exact hkd) (fun F hF => ?_) s 0 (u + 1) (by omega) (by omega)
    refine k_st hz hv hN hu3 (tsz e + 1) e 0 s 0 (532 + 10 * nrw g) 0 t t' 31 F _ ti0 ba0 post (by omega) (by omega) hwf hxs (by rw [f1]; exact hcb) (by rw [f1]; exact hcj) (by omega) (by omega) (by omega) hjs (by omega) hb hbi hF (fun M' ti' ba' b sg F' hF' => ?_)
    obtain ⟨g1, g2, g3, g4, g5, g6⟩ := sg
    have lb := CSX.le _ _ _ _ _ _ _ g1
    rw [hu] at hF' ⊢
    obtain ⟨F2, rfl⟩ : ∃ F2, F' = F2 + 1 := ⟨F' - 1, by omega⟩
    show wb_X0_write_62 post _ (KS zf M' ti' ba' b 0 0) (nI u)
    have nw := hz.nw (m := M') (ti := ti') (ba := ba') (a := b) (h := 0) (q := 0)
    unfold wb_X0_write_62
    show ((KS zf M' ti' ba' b 0 0).1.2.2.2.2.2 ≤ nI u → _) ∧ (¬ (KS zf M' ti' ba' b 0 0).1.2.2.2.2.2 ≤ nI u → _)
    have eu : (KS zf M' ti' ba' b 0 0).1.2.2.2.2.2 = nI u := nw.1
    rw [eu]
    refine ⟨fun _ => ?_, fun c => absurd (nI_le (Nat.le_refl _) (by omega)) c⟩
    refine c_end (z := zf) (m := M') (ti := ti') (ba := ba') (a := b) (h := 0) (q := 0) (n := 0) rfl (by omega) ?_
    have fr : ∀ j, j < b → (upd (upd M' b (wI 0 5 0 (nI 0))) (b + 1) 115) j = M' j := fun j hj => (pk_un (by omega)).trans (pk_un (by omega))
    have frm : ∀ j, j < 532 + 10 * nrw g → ¬ j = 513 → (upd (upd M' b (wI 0 5 0 (nI 0))) (b + 1) 115) j = m2 j := fun j hj hj2 => (fr j (by omega)).trans ((g2 j hj).trans (pk_un hj2))
    refine hY _ ti' ba' ?_ f2 f3 f4 ⟨b, ?_, ?_, ?_, ?_, ?_, ?_, by omega⟩ (g6.mono (by omega))
    · rw [← f1]
      rfl
    · show (upd (upd M' b (wI 0 5 0 (nI 0))) (b + 1) 115) 512 = _
      rw [frm 512 (by omega) (by omega)]
      exact hw512
    · show (upd (upd M' b (wI 0 5 0 (nI 0))) (b + 1) 115) 513 = _
      rw [fr 513 (by omega), g2 513 (by omega)]
      exact pk_us
    · exact kok.fr (fun j j1 j2 => frm j j2 (by omega))
    · exact CSX.fr _ 0 _ _ _ _ _ (by omega) g1 (fun j j1 j2 => fr j (by omega)) (fun c => absurd c (by omega)) (fun j j1 j2 => rfl)
    · exact (pk_un (by omega)).trans pk_us
    · exact pk_us
end CWrite
