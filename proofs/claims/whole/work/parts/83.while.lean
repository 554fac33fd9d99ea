section While
theorem if_p {c : Prop} [Decidable c] {P Q : Prop} (h : c) (p : P) : (if c then P else Q) := by rw [if_pos h]; exact p
theorem if_n {c : Prop} [Decidable c] {P Q : Prop} (h : ¬ c) (q : Q) : (if c then P else Q) := by rw [if_neg h]; exact q
theorem szS_3 (T : TX) (t : Nat) (a b : Tr) : szS T (.branch (8 * t + 3) a b) 1 = sz T a + szS T b 0 + 4 := by
  rw [szS]
  rw [if_neg (by omega), if_pos rfl, if_neg (by omega), if_neg (by omega), if_neg (by omega), if_pos (by omega)]
theorem szS_4 (T : TX) (t : Nat) (a b : Tr) : szS T (.branch (8 * t + 4) a b) 1 = sz T a + szS T b 0 + 3 := by
  rw [szS]
  rw [if_neg (by omega), if_pos rfl, if_neg (by omega), if_neg (by omega), if_neg (by omega), if_neg (by omega), if_pos (by omega)]
theorem szS_5 (T : TX) (t : Nat) (a b : Tr) : szS T (.branch (8 * t + 5) a b) 1 = sz T a + szS T b 2 + 3 := by
  rw [szS]
  rw [if_neg (by omega), if_pos rfl, if_neg (by omega), if_neg (by omega), if_neg (by omega), if_neg (by omega), if_neg (by omega)]
theorem szS_p (T : TX) (t : Nat) (a b : Tr) : szS T (.branch t a b) 2 = szS T a 0 + szS T b 0 + 1 := by
  rw [szS]
  rw [if_neg (by omega), if_neg (by omega)]
theorem while_stmt {T : TX} {N L : Nat} {t8 : SX8} {d f g : Nat} (hg : GL T N L) (hd : d ≤ 32) (hB : BB T N L t8 d f g) {t : Nat} (ht : t < N) (K : TK T t = 10) : ∃ o, GoodS T N t o 1 (31 - d) ∧ (∀ n, 210 ≤ n → f ≤ n → CSt T N L t8 1 4 [nI d] t o (n + 1)) ∧ (∀ n, 210 ≤ n → g ≤ n → MSt T N [nI d] t o (n + 1)) := by
  have hn := hg.2.1
  have hN : N ≤ 3001 := by have := hg.1.2.1; omega
  have hL := hg.2.2.1
  have hnf := not_fin hg.1 ht K (by omega) (by omega)
  have hW := LN_word (T := T) (t := t) (by omega) (by omega)
  have hPn := PL_le T (t + 1)
  obtain ⟨o, ⟨h1, h2, h3⟩, h4, h5⟩ := head hg hd hB (t + 1) hnf.2
  have hPo := PL_le T o.1
  have d8 : (8 * t + 3) / 8 = t := by omega
  refine ⟨(o.1, o.2.map (fun p => .branch (8 * t + 3) p.1 p.2)), ⟨fun e' he => ?_, by show t ≤ o.1; omega, h3⟩, fun n hn2 hn3 σ u post h hY hF => ?_, fun n hn2 hn3 τ q post h hY hF => ?_⟩
  · cases ho : o.2 with
    | none =>
      rw [ho] at he
      cases he
    | some p =>
      obtain ⟨e, b⟩ := p
      rw [ho] at he
      cases he
      obtain ⟨⟨w1, w2, t1, w3, w4, w5⟩, z2, z3⟩ := h1 e b ho
      refine ⟨⟨?_, ?_⟩, by show t < o.1; omega, ?_⟩
      · unfold WFS
        rw [if_neg (by omega), if_pos rfl, if_neg (by omega), if_neg (by omega), if_neg (by omega), if_pos (by omega), d8]
        exact ⟨hnf.2, K, w1, w2⟩
      · unfold XS
        rw [if_neg (by omega), if_pos rfl, if_neg (by omega), if_neg (by omega), if_neg (by omega), if_pos (by omega), d8]
        refine ⟨Nat.le_refl _, t1, w3, by omega, ?_⟩
        rw [show 31 - d - 1 = 30 - d by omega]
        exact w4
      · rw [szS_3]
        show PL T t + (sz T e + szS T b 0 + 4) ≤ PL T o.1
        omega
  · obtain ⟨a1, a2, a3, a4, a5, a6, a7⟩ := id h
    have nw1 := a5.mk (by omega : u < L) 21 (nI (PL T t)) (-1) 1 1 0
    have nw2 := nw1.mk (by omega : u + 1 < L) 22 (nI (PL T t)) (-1) 1 1 0
    show wp_X7_whileStatement (wg_rd n) σ (nI d) (post 0)
    unfold wp_X7_whileStatement
    refine c_place a2 a3 a4 (c_nadd a5 (by omega) (c_nadd nw1 (by omega) (c_next a2 a3 a4 ?_)))
    refine h4 n hn2 hn3 ((σ.1.1, (σ.1.2.1, ((σ.1.2.2.1.1, (nI (t + 1))), σ.1.2.2.2))), (σ.2.1, nMk (nMk σ.2.2 u 21 (nI (PL T t)) (-1) 1 1 0) (u + 1) 22 (nI (PL T t)) (-1) 1 1 0)) (u + 2) (PL T t) 23 (nI (u + 1)) (fun r13 τ18 => wp_X4_add τ18.2.2 (24 : Int32) (nI (PL T t)) r13 (fun r19 τ20 => post 0 (τ18.1, (τ18.2.1, τ20)))) (post 0) ⟨a1, a2, rfl, hnf.2, nw2, by omega, a7⟩ (fun e b he σ' c1 c2 c3 c4 c5 c6 c7 c8 => ?_) (fun he r σ' c1 => ?_) (fun he σ' c1 => hF (by rw [he]; rfl) σ' c1)
    · obtain ⟨_, z2, z3⟩ := h1 e b he
      have hse := sz_pos T e
      refine c_nadd c1.2.2.2.2.1 (by omega) ?_
      have ag0 := AG.mk σ.2.2 (u := u) (Nat.le_refl _) 21 (nI (PL T t)) (-1) 1 1 0
      have av0 := AV.mk σ.2.2 (u := u) (Nat.le_refl _) 21 (nI (PL T t)) (-1) 1 1 0
      have ag1 := AG.mk (nMk σ.2.2 u 21 (nI (PL T t)) (-1) 1 1 0) (u := u + 1) (Nat.le_refl _) 22 (nI (PL T t)) (-1) 1 1 0
      have av1 := AV.mk (nMk σ.2.2 u 21 (nI (PL T t)) (-1) 1 1 0) (u := u + 1) (Nat.le_refl _) 22 (nI (PL T t)) (-1) 1 1 0
      have agm := AG.mk σ'.2.2 (u := u + 2 + sz T e + 1 + szS T b 0) (Nat.le_refl _) 24 (nI (PL T t)) (nI (u + 2 + sz T e)) 1 1 0
      have avm := AV.mk σ'.2.2 (u := u + 2 + sz T e + 1 + szS T b 0) (Nat.le_refl _) 24 (nI (PL T t)) (nI (u + 2 + sz T e)) 1 1 0
      have ag2 := ag1.tr c2 (l := 0) (m := u + 1) (Nat.le_refl _) (Nat.le_refl _) (Nat.le_refl _) (by omega)
      have av2 := av1.tr c3 (l := 0) (m := u + 1) (Nat.le_refl _) (Nat.le_refl _) (Nat.le_refl _) (by omega)
      obtain ⟨x1, x2, _⟩ := ag2 u (by omega) (by omega)
      obtain ⟨y1, y2, _⟩ := c2 (u + 1) (by omega) (by omega)
      obtain ⟨r1, r2, _⟩ := agm u (by omega) (by omega)
      obtain ⟨s1, s2, _⟩ := agm (u + 1) (by omega) (by omega)
      refine hY (.branch (8 * t + 3) e b) (by rw [he]; rfl) _ ?_ ((ag0.tr ag2 (l := 0) (m := u) (Nat.le_refl _) (Nat.le_refl _) (Nat.le_refl _) (by omega)).tr agm (Nat.le_refl _) (Nat.le_refl _) (Nat.le_refl _) (by omega)) ((av0.tr av2 (l := 0) (m := u) (Nat.le_refl _) (Nat.le_refl _) (Nat.le_refl _) (by omega)).tr avm (Nat.le_refl _) (Nat.le_refl _) (Nat.le_refl _) (by omega)) ?_ ?_
      · rw [szS_3, show u + (sz T e + szS T b 0 + 4) = u + 2 + sz T e + 1 + szS T b 0 + 1 by omega]
        exact ⟨c1.1, c1.2.1, c1.2.2.1, c1.2.2.2.1, c1.2.2.2.2.1.mk (by omega) _ _ _ _ _ _, by show _ ≤ PL T o.1; omega, c1.2.2.2.2.2.2⟩
      · unfold CB
        rw [if_neg (by omega), if_pos rfl, if_neg (by omega), if_neg (by omega), if_neg (by omega), if_pos (by omega), d8]
        refine ⟨⟨r1.trans (x1.trans pk_us), r2.trans (x2.trans pk_us)⟩, ⟨s1.trans (y1.trans pk_us), s2.trans (y2.trans pk_us)⟩, ?_, ?_, ?_, ?_⟩
        · rw [show u + 1 + sz T e = u + 2 + sz T e - 1 by omega]
          exact CS.fr agm e _ c4 (by omega) (by omega)
        · rw [show u + sz T e + 2 = u + 2 + sz T e by omega]
          exact c6.fr agm avm (by omega) (by omega)
        · rw [show u + sz T e + 3 = u + 2 + sz T e + 1 by omega]
          exact CB.fr agm avm b 0 _ (by omega) c7 (by rw [if_neg (by omega)]; omega) (by omega)
        · rw [show u + sz T e + 3 + szS T b 0 = u + 2 + sz T e + 1 + szS T b 0 by omega, show u + sz T e + 2 = u + 2 + sz T e by omega]
          exact ⟨pk_us, pk_us, pk_us⟩
      · unfold CW
        rw [if_neg (by omega), if_pos rfl, if_neg (by omega), if_neg (by omega), if_neg (by omega), if_pos (by omega)]
        refine ⟨?_, ?_⟩
        · rw [show u + 1 + sz T e = u + 2 + sz T e - 1 by omega]
          exact CV.fr avm e _ c5 (by omega) (by omega)
        · rw [show u + sz T e + 3 = u + 2 + sz T e + 1 by omega]
          exact CW.fr avm b 0 _ (by omega) c8 (by omega) (by omega)
    · obtain ⟨u', hu'⟩ := c1.2.1
      refine c_naddG hu' (fun r2 σ4 u4 h4 _ => ?_)
      have cf : CF T N L t8 (σ'.1, (σ'.2.1, σ4)) o.1 := ⟨c1.1, ⟨u4, h4⟩, c1.2.2⟩
      exact hF (by rw [he]; rfl) _ cf
  · obtain ⟨a1, a2, a3, a4, a5, a6⟩ := id h
    refine m_st hN h 10 K (by omega) _ rfl (fun c => absurd c (by omega)) (fun _ => ?_) (fun _ _ c => absurd rfl c)
    intro y ey
    have ey : y = nI (t + 1) := by
      rw [ey]
      show τ.1.1.2.1.1 + 1 = _
      rw [a2, nI_1]
    rw [ey]
    have low : ∀ (τ' : SX12), SP (((((mNd τ q (nI (kM 10)) τ.1.1.2.1.1).1.1.1, (((nI (t + 1)), (mNd τ q (nI (kM 10)) τ.1.1.2.1.1).1.1.2.1.2), (mNd τ q (nI (kM 10)) τ.1.1.2.1.1).1.1.2.2)), (mNd τ q (nI (kM 10)) τ.1.1.2.1.1).1.2), (mNd τ q (nI (kM 10)) τ.1.1.2.1.1).2)) τ' (q + 1) q none → HP τ τ' q ∧ τ'.1.2.1.1.1 q = -1 ∧ τ'.1.1.2.2.1 q = 9 ∧ τ'.1.1.2.2.2.1 q = nI t := by
      intro τ' b4
      obtain ⟨p1, p2, p3, p4⟩ := b4 q (by omega)
      refine ⟨fun j hj => ?_, (p4 (by simp)).trans pk_us, p1.trans pk_us, ?_⟩
      · have n2 : j ≠ q := by omega
        obtain ⟨c1, c2, c3, c4⟩ := b4 j (by omega)
        exact ⟨c1.trans (pk_un n2), c2.trans (pk_un n2), (c3 (fun z => n2 z.2)).trans (pk_un n2), (c4 (by simp)).trans (pk_un n2)⟩
      · rw [p2]
        show upd τ.1.1.2.2.2.1 q τ.1.1.2.1.1 q = _
        rw [pk_us, a2]
    refine h5 n hn2 hn3 ((((mNd τ q (nI (kM 10)) τ.1.1.2.1.1).1.1.1, (((nI (t + 1)), (mNd τ q (nI (kM 10)) τ.1.1.2.1.1).1.1.2.1.2), (mNd τ q (nI (kM 10)) τ.1.1.2.1.1).1.1.2.2)), (mNd τ q (nI (kM 10)) τ.1.1.2.1.1).1.2), (mNd τ q (nI (kM 10)) τ.1.1.2.1.1).2) (q + 1) q _ ⟨a1, rfl, hnf.2, a4, a5.nd 0 0, by omega⟩ (by omega) pk_us (fun e b he τ' q' y' hh z b1 b2 b3 b4 b5 b6 b7 b8 b9 b10 => ?_) (fun he τ' q' b1 b2 b3 b4 => ?_)
    · obtain ⟨l1, l2, l3, l4⟩ := low τ' b3
      have bi := b5.bd
      refine ⟨fun _ => ?_, fun c => absurd c (by decide)⟩
      refine hY (.branch (8 * t + 3) e b) (by rw [he]; rfl) τ' q' q b1 (Nat.le_refl _) (by omega) ⟨b2.1, b2.2.1, b2.2.2.1, b2.2.2.2.1, b2.2.2.2.2⟩ l1 l2 ?_
      unfold MS
      rw [if_neg (by omega), if_pos rfl]
      refine ⟨q, q + 1, hh, y', rfl, Nat.le_refl _, by omega, by omega, by rw [d8]; exact l4, ?_⟩
      rw [if_neg (by omega), if_neg (by omega), if_neg (by omega), if_pos (by omega)]
      exact ⟨b4, b5, l3, z, z + 1, q', b7, by omega, Nat.le_refl _, b8, b6, b9, b10⟩
    · obtain ⟨l1, l2, l3, l4⟩ := low τ' b4
      refine ⟨fun _ => ?_, fun c => absurd c (by decide)⟩
      exact hF (by rw [he]; rfl) τ' q' q b1 ⟨b3.1, b3.2.1, b3.2.2.1, b3.2.2.2.1, b3.2.2.2.2⟩ l1 (Nat.le_refl _) (by omega) l2
end While
