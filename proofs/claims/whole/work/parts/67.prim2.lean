section Prim2
abbrev nMk (σ : SX4) (u : Nat) (k p v s n c : Int32) : SX4 := (((σ.1.1.1, (upd σ.1.1.2 u k)), ((upd σ.1.2.1 u p), ((upd σ.1.2.2.1 u v), (upd σ.1.2.2.2 u s)))), (((upd σ.2.1.1 u n), ((upd σ.2.1.2.1 u (-1)), (upd σ.2.1.2.2 u (-1)))), ((upd σ.2.2.1 u 0), ((upd σ.2.2.2.1 u c), (nI (u + 1))))))
theorem nAdd_mk (σ : SX4) (u : Nat) (k p v : Int32) : nAdd σ u k p v = nMk σ u k p v 1 1 0 := rfl
theorem NW.mk {σ : SX4} {u L : Nat} (h : NW σ u L) (hu : u < L) (k p v s n c : Int32) : NW (nMk σ u k p v s n c) (u + 1) L := ⟨rfl, h.2.1, by omega, h.2.2.2.1, Z4.up h.2.2.2.2⟩
theorem sub1 {u : Nat} (h : 0 < u) : nI u - 1 = nI (u - 1) := pk_sub (b := 1) h
theorem nb1 : vp_nar .boolean (1 : Int32) = 1 := rfl
theorem nb0 : vp_nar .boolean (0 : Int32) = 0 := rfl
theorem c_addAround {σ : SX4} {u L s : Nat} {k p v n : Int32} {b : Bool} {post : SX4 → Prop} (h : NW σ u L) (hu : u < L) (h0 : 0 < u) (hs : σ.1.2.2.2 (u - 1) = nI s) (hn : σ.2.1.1 (u - 1) = n) (hb : σ.2.2.2.1 (u - 1) = bi b)
    (hp : post (nMk σ u k p v (nI (s + (if k = 28 then 2 else 1))) n (bi (if k = 28 then true else b)))) : wp_X4_addAround σ k p v post := by
  have hL2 := h.2.2.2.1
  have h' : NW (nAdd σ u k p v) (u + 1) L := h.mk hu k p v 1 1 0
  have ne : u - 1 ≠ u := by omega
  have hin : vp_in (nI u) L := in_k hu hL2
  have hin1 : vp_in (nI (u - 1)) L := in_k (by omega) hL2
  unfold wp_X4_addAround
  refine c_nadd h hu (c_has h'.w (by omega) (fun _ => ⟨fun c => absurd c (by decide), fun _ => ?_⟩) (fun q => absurd q (by omega)))
  rw [sub1 h0]
  refine c_has h'.w (by omega) (fun _ => ⟨fun c => absurd c (by decide), fun _ => ?_⟩) (fun q => absurd q (by omega))
  rw [nI_clamp (show u - 1 < 2 ^ 31 by omega)]
  show vp_in (nI (u - 1)) σ.1.1.1 ∧ _
  rw [h.2.1]
  have es : (nAdd σ u k p v).1.2.2.2 (u - 1) = nI s := by
    show upd σ.1.2.2.2 u 1 (u - 1) = _
    rw [pk_un ne, hs]
  have en : (nAdd σ u k p v).2.1.1 (u - 1) = n := by
    show upd σ.2.1.1 u 1 (u - 1) = _
    rw [pk_un ne, hn]
  have ec : (nAdd σ u k p v).2.2.2.1 (u - 1) = bi b := by
    show upd σ.2.2.2.1 u 0 (u - 1) = _
    rw [pk_un ne, hb]
  rw [es]
  have go : ∀ d : Nat, d = (if k = 28 then 2 else 1) → wp_X4_addAround_55 post (nAdd σ u k p v) k (nI u) (nI d) (nI s) (nI u) := by
    intro d hd
    rw [← hd] at hp
    unfold wp_X4_addAround_55
    rw [sub1 h0, nI_clamp (show u - 1 < 2 ^ 31 by omega), nI_clamp (show u < 2 ^ 31 by omega), en, ec, nI_add]
    show vp_in (nI u) σ.1.1.1 ∧ _
    rw [h.2.1]
    refine ⟨hin, fun y7 e7 => ⟨hin1, ⟨hin, fun y8 e8 => ?_⟩⟩⟩
    have e7 : y7 = upd σ.1.2.2.2 u (nI (s + d)) := e7.trans (upd_upd _ _ _ _)
    have e8 : y8 = upd σ.2.1.1 u n := e8.trans (upd_upd _ _ _ _)
    have fin : ∀ z : Bool, z = (if k = 28 then true else b) → ∀ y : Nat → Int32, y = upd (nAdd σ u k p v).2.2.2.1 u (bi z) → post (((nAdd σ u k p v).1.1, ((nAdd σ u k p v).1.2.1, ((nAdd σ u k p v).1.2.2.1, y7))), ((y8, (nAdd σ u k p v).2.1.2), ((nAdd σ u k p v).2.2.1, (y, (nAdd σ u k p v).2.2.2.2)))) := by
      intro z hz y ey
      have ey : y = upd σ.2.2.2.1 u (bi z) := ey.trans (upd_upd _ _ _ _)
      rw [← hz] at hp
      rw [e7, e8, ey]
      exact hp
    have f97 : (if k = 28 then true else b) = true → wp_X4_addAround_97 post (((nAdd σ u k p v).1.1, ((nAdd σ u k p v).1.2.1, ((nAdd σ u k p v).1.2.2.1, y7))), ((y8, (nAdd σ u k p v).2.1.2), (nAdd σ u k p v).2.2)) (nI u) := by
      intro q
      unfold wp_X4_addAround_97
      refine ⟨?_, fun y ey => ?_⟩
      · show vp_in (nI u) σ.1.1.1
        rw [h.2.1]
        exact hin
      · rw [nI_clamp (show u < 2 ^ 31 by omega)] at ey
        exact fin true q.symm y ey
    refine ⟨fun c => f97 (if_pos c), fun c => ⟨hin1, fun c2 => ⟨hin, fun y ey => fin false ?_ y ey⟩, fun c2 => f97 ?_⟩⟩
    · rw [if_neg c, eq0_f c2]
    · rw [if_neg c, ne0_t c2]
  refine ⟨hin1, fun c => ?_, fun c => ?_⟩
  · exact go 1 (by rw [if_neg c])
  · exact go 2 (by rw [if_pos c])
theorem c_addAroundG {σ : SX4} {u L : Nat} {k p v : Int32} {post : SX4 → Prop} (h : NW σ u L) (hp : ∀ σ' u', NW σ' u' L → post σ') : wp_X4_addAround σ k p v post := by
  unfold wp_X4_addAround
  refine c_naddG h (fun r σ1 u1 h1 _ => c_hasG h1.w (fun j hj e => ⟨fun c => absurd c (by decide), fun _ => c_hasG h1.w (fun j2 hj2 e2 => ⟨fun c => absurd c (by decide), fun _ => ?_⟩) ⟨fun _ => hp _ _ h1, fun c => absurd rfl c⟩⟩) ⟨fun _ => hp _ _ h1, fun c => absurd rfl c⟩)
  have hL := h1.2.2.1
  have hL2 := h1.2.2.2.1
  have hin : vp_in (nI j) L := in_k (by omega) hL2
  have hin2 : vp_in (nI j2) L := in_k (by omega) hL2
  have go : ∀ d s : Int32, wp_X4_addAround_55 post σ1 k r d s r := by
    intro d s
    unfold wp_X4_addAround_55
    rw [e2, e, h1.2.1]
    have f97 : ∀ σ' : SX4, NW σ' u1 L → wp_X4_addAround_97 post σ' (nI j) := by
      intro σ' hw
      unfold wp_X4_addAround_97
      rw [hw.2.1]
      exact ⟨hin, fun y ey => hp _ u1 hw⟩
    exact ⟨hin, fun y7 e7 => ⟨hin2, hin, fun y8 e8 => ⟨fun _ => f97 _ ⟨h1.1, h1.2.1, h1.2.2⟩, fun _ => ⟨hin2, fun _ => ⟨hin, fun y ey => hp _ u1 ⟨h1.1, h1.2.1, h1.2.2⟩⟩, fun _ => f97 _ ⟨h1.1, h1.2.1, h1.2.2⟩⟩⟩⟩⟩
  rw [e2, h1.2.1]
  exact ⟨hin2, fun _ => go _ _, fun _ => go _ _⟩
def ndP (a b : Nat) : Nat := if a = b then a + 1 else max a b
theorem c_addPair {σ : SX4} {u L sa sb na nb : Nat} {k p : Int32} {ca cb : Bool} {post : SX4 → Prop} (h : NW σ u L) (hu : u < L) (h0 : sb + 1 ≤ u) (hb0 : 0 < sb)
    (hsb : σ.1.2.2.2 (u - 1) = nI sb) (hsa : σ.1.2.2.2 (u - 1 - sb) = nI sa) (hnb : σ.2.1.1 (u - 1) = nI nb) (hna : σ.2.1.1 (u - 1 - sb) = nI na) (hcb : σ.2.2.2.1 (u - 1) = bi cb) (hca : σ.2.2.2.1 (u - 1 - sb) = bi ca) (ha : na < 2 ^ 30) (hb : nb < 2 ^ 30)
    (hp : post (nMk σ u k p (-1) (nI (sb + sa + 1)) (nI (ndP na nb)) (bi (ca || cb)))) : wp_X4_addPair σ k p post := by
  have hL2 := h.2.2.2.1
  have h' : NW (nAdd σ u k p (-1)) (u + 1) L := h.mk hu k p (-1) 1 1 0
  have ne : u - 1 ≠ u := by omega
  have ne2 : u - 1 - sb ≠ u := by omega
  have hin : vp_in (nI u) L := in_k hu hL2
  have hin1 : vp_in (nI (u - 1)) L := in_k (by omega) hL2
  have hin2 : vp_in (nI (u - 1 - sb)) L := in_k (by omega) hL2
  have es : (nAdd σ u k p (-1)).1.2.2.2 (u - 1) = nI sb := by
    show upd σ.1.2.2.2 u 1 (u - 1) = _
    rw [pk_un ne, hsb]
  have es2 : (nAdd σ u k p (-1)).1.2.2.2 (u - 1 - sb) = nI sa := by
    show upd σ.1.2.2.2 u 1 (u - 1 - sb) = _
    rw [pk_un ne2, hsa]
  have en : (nAdd σ u k p (-1)).2.1.1 (u - 1) = nI nb := by
    show upd σ.2.1.1 u 1 (u - 1) = _
    rw [pk_un ne, hnb]
  have en2 : (nAdd σ u k p (-1)).2.1.1 (u - 1 - sb) = nI na := by
    show upd σ.2.1.1 u 1 (u - 1 - sb) = _
    rw [pk_un ne2, hna]
  have ec : (nAdd σ u k p (-1)).2.2.2.1 (u - 1) = bi cb := by
    show upd σ.2.2.2.1 u 0 (u - 1) = _
    rw [pk_un ne, hcb]
  have ec2 : (nAdd σ u k p (-1)).2.2.2.1 (u - 1 - sb) = bi ca := by
    show upd σ.2.2.2.1 u 0 (u - 1 - sb) = _
    rw [pk_un ne2, hca]
  have eL : (nAdd σ u k p (-1)).1.1.1 = L := h.2.1
  unfold wp_X4_addPair wp_X4_left
  refine c_nadd h hu ?_
  rw [sub1 (by omega)]
  refine c_has h'.w (by omega) (fun _ => ⟨fun c => absurd c (by decide), fun _ => ?_⟩) (fun q => absurd q (by omega))
  rw [nI_clamp (show u - 1 < 2 ^ 31 by omega), es, pk_sub (show sb ≤ u - 1 by omega), eL]
  refine ⟨hin1, c_has h'.w (by omega) (fun _ => ⟨fun c => absurd c (by decide), fun _ => c_has h'.w (by omega) (fun _ => ⟨fun c => absurd c (by decide), fun _ => c_has h'.w (by omega) (fun _ => ⟨fun c => absurd c (by decide), fun _ => ?_⟩) (fun q => absurd q (by omega))⟩) (fun q => absurd q (by omega))⟩) (fun q => absurd q (by omega))⟩
  rw [nI_clamp (show u - 1 - sb < 2 ^ 31 by omega), nI_clamp (show u < 2 ^ 31 by omega), es, es2, en, en2, eL, nI_add]
  refine ⟨hin1, hin2, hin, fun y11 e11 => ⟨hin2, hin1, ?_⟩⟩
  have e11 : y11 = upd σ.1.2.2.2 u (nI (sb + sa + 1)) := by
    rw [e11]
    have : nI (sb + sa) + 1 = nI (sb + sa + 1) := nI_1 _
    rw [this]
    exact upd_upd _ _ _ _
  have go : ∀ x : Nat, x = ndP na nb → wp_X4_addPair_119 post (((nAdd σ u k p (-1)).1.1, ((nAdd σ u k p (-1)).1.2.1, ((nAdd σ u k p (-1)).1.2.2.1, y11))), (nAdd σ u k p (-1)).2) (nI u) (nI (u - 1 - sb)) (nI x) (nI u) := by
    intro x hx
    rw [← hx] at hp
    unfold wp_X4_addPair_119
    rw [sub1 (by omega), nI_clamp (show u - 1 < 2 ^ 31 by omega), nI_clamp (show u - 1 - sb < 2 ^ 31 by omega), nI_clamp (show u < 2 ^ 31 by omega), ec, ec2, eL]
    refine ⟨hin, fun y12 e12 => ⟨hin2, ?_⟩⟩
    have e12 : y12 = upd σ.2.1.1 u (nI x) := e12.trans (upd_upd _ _ _ _)
    have fin : ∀ z : Bool, z = (ca || cb) → ∀ y : Nat → Int32, y = upd (nAdd σ u k p (-1)).2.2.2.1 u (bi z) → post (((nAdd σ u k p (-1)).1.1, ((nAdd σ u k p (-1)).1.2.1, ((nAdd σ u k p (-1)).1.2.2.1, y11))), ((y12, (nAdd σ u k p (-1)).2.1.2), ((nAdd σ u k p (-1)).2.2.1, (y, (nAdd σ u k p (-1)).2.2.2.2)))) := by
      intro z hz y ey
      have ey : y = upd σ.2.2.2.1 u (bi z) := ey.trans (upd_upd _ _ _ _)
      rw [← hz] at hp
      rw [e11, e12, ey]
      exact hp
    have f146 : (ca || cb) = true → wp_X4_addPair_146 post (((nAdd σ u k p (-1)).1.1, ((nAdd σ u k p (-1)).1.2.1, ((nAdd σ u k p (-1)).1.2.2.1, y11))), ((y12, (nAdd σ u k p (-1)).2.1.2), (nAdd σ u k p (-1)).2.2)) (nI u) := by
      intro q
      unfold wp_X4_addPair_146
      rw [eL]
      refine ⟨hin, fun y ey => ?_⟩
      rw [nI_clamp (show u < 2 ^ 31 by omega)] at ey
      exact fin true q.symm y ey
    refine ⟨fun c => f146 (by rw [ne0_t c]; rfl), fun c => ⟨hin1, fun c2 => ⟨hin, fun y ey => fin false (by rw [eq0_f c, eq0_f c2]; rfl) y ey⟩, fun c2 => f146 (by rw [ne0_t c2, Bool.or_true])⟩⟩
  refine ⟨fun c => ⟨hin2, hin1, ?_⟩, fun c => ⟨hin2, ?_⟩⟩
  · have c : ¬ na = nb := fun q => c (by rw [q])
    by_cases q : na < nb
    · rw [if_pos (nI_lt q (by omega))]
      exact go nb (by unfold ndP; rw [if_neg c]; omega)
    · rw [if_neg (nI_nlt (by omega) (by omega))]
      exact go na (by unfold ndP; rw [if_neg c]; omega)
  · have c := (nI_eq (by omega) (by omega)).mp c
    have := go (na + 1) (by unfold ndP; rw [if_pos c])
    rw [← nI_1] at this
    exact this
theorem c_addPairG {σ : SX4} {u L : Nat} {k p : Int32} {post : SX4 → Prop} (h : NW σ u L) (hp : ∀ σ' u', NW σ' u' L → post σ') : wp_X4_addPair σ k p post := by
  unfold wp_X4_addPair wp_X4_left
  refine c_naddG h (fun r σ1 u1 h1 _ => ?_)
  have hL := h1.2.2.1
  have hL2 := h1.2.2.2.1
  have inn : ∀ j : Nat, j < u1 → vp_in (nI j) L := fun j hj => in_k (by omega) hL2
  have eL := h1.2.1
  have rest : ∀ x : Int32, wp_X4_has σ1 r (fun r5 τ6 => ((r5 = 0 → post τ6) ∧ (¬ r5 = 0 → wp_X4_has τ6 (r - (1 : Int32)) (fun r7 τ8 => ((r7 = 0 → post τ8) ∧ (¬ r7 = 0 → wp_X4_has τ8 x (fun r9 τ10 => ((r9 = 0 → post τ10) ∧ (¬ r9 = 0 → (vp_in (r - (1 : Int32)) τ10.1.1.1 ∧ (vp_in x τ10.1.1.1 ∧ (vp_in r τ10.1.1.1 ∧ ∀ y11 : Nat → Int32, y11 = upd τ10.1.2.2.2 (r).toNatClampNeg (((τ10.1.2.2.2 ((r - (1 : Int32))).toNatClampNeg) + (τ10.1.2.2.2 (x).toNatClampNeg)) + (1 : Int32)) → (vp_in x τ10.1.1.1 ∧ (vp_in (r - (1 : Int32)) τ10.1.1.1 ∧ ((¬ (τ10.2.1.1 (x).toNatClampNeg) = (τ10.2.1.1 ((r - (1 : Int32))).toNatClampNeg) → (vp_in x τ10.1.1.1 ∧ (vp_in (r - (1 : Int32)) τ10.1.1.1 ∧ wp_X4_addPair_119 post ((τ10.1.1, (τ10.1.2.1, (τ10.1.2.2.1, y11))), τ10.2) r x (if (τ10.2.1.1 (x).toNatClampNeg) < (τ10.2.1.1 ((r - (1 : Int32))).toNatClampNeg) then (τ10.2.1.1 ((r - (1 : Int32))).toNatClampNeg) else (τ10.2.1.1 (x).toNatClampNeg)) r))) ∧ ((τ10.2.1.1 (x).toNatClampNeg) = (τ10.2.1.1 ((r - (1 : Int32))).toNatClampNeg) → (vp_in x τ10.1.1.1 ∧ wp_X4_addPair_119 post ((τ10.1.1, (τ10.1.2.1, (τ10.1.2.2.1, y11))), τ10.2) r x ((τ10.2.1.1 (x).toNatClampNeg) + (1 : Int32)) r))))))))))))))))) := by
    intro x
    refine c_hasG h1.w (fun j hj e => ⟨fun c => absurd c (by decide), fun _ => c_hasG h1.w (fun j2 hj2 e2 => ⟨fun c => absurd c (by decide), fun _ => c_hasG h1.w (fun j3 hj3 e3 => ⟨fun c => absurd c (by decide), fun _ => ?_⟩) ⟨fun _ => hp _ _ h1, fun c => absurd rfl c⟩⟩) ⟨fun _ => hp _ _ h1, fun c => absurd rfl c⟩⟩) ⟨fun _ => hp _ _ h1, fun c => absurd rfl c⟩
    have go : ∀ (y11 : Nat → Int32) (z : Int32), wp_X4_addPair_119 post ((σ1.1.1, (σ1.1.2.1, (σ1.1.2.2.1, y11))), σ1.2) r x z r := by
      intro y11 z
      unfold wp_X4_addPair_119
      rw [e2, e3, e, eL]
      have f146 : ∀ σ' : SX4, NW σ' u1 L → wp_X4_addPair_146 post σ' (nI j) := by
        intro σ' hw
        unfold wp_X4_addPair_146
        rw [hw.2.1]
        exact ⟨inn j hj, fun y ey => hp _ u1 hw⟩
      exact ⟨inn j hj, fun y12 e12 => ⟨inn j3 hj3, fun _ => f146 _ ⟨h1.1, h1.2.1, h1.2.2⟩, fun _ => ⟨inn j2 hj2, fun _ => ⟨inn j hj, fun y ey => hp _ u1 ⟨h1.1, h1.2.1, h1.2.2⟩⟩, fun _ => f146 _ ⟨h1.1, h1.2.1, h1.2.2⟩⟩⟩⟩
    have i1 : vp_in (r - (1 : Int32)) σ1.1.1.1 := by rw [e2, eL]; exact inn j2 hj2
    have i2 : vp_in x σ1.1.1.1 := by rw [e3, eL]; exact inn j3 hj3
    have i3 : vp_in r σ1.1.1.1 := by rw [e, eL]; exact inn j hj
    exact ⟨i1, i2, i3, fun y11 _ => ⟨i2, i1, fun _ => ⟨i2, i1, go _ _⟩, fun _ => ⟨i2, go _ _⟩⟩⟩
  refine c_hasG h1.w (fun j hj e => ⟨fun c => absurd c (by decide), fun _ => ⟨?_, rest _⟩⟩) ⟨fun _ => rest _, fun c => absurd rfl c⟩
  rw [e, eL]
  exact inn j hj
end Prim2
