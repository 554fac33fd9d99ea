section IfS
def Kif (n d p : Nat) (post : WSX7 → Prop) (r11 : Int32) (τ16 : WSX7) : Prop := ((¬ τ16.1.1 = ((-1) : Int32) → wp_X7_ifStatement_126 (wg_rd n)  post τ16 (nI p) r11) ∧ (τ16.1.1 = ((-1) : Int32) → wp_X9_kind (τ16.1.2, τ16.2.1)  (fun r19 τ20 => ((¬ r19 = (9 : Int32) → wp_X7_ifStatement_126 (wg_rd n)  post ((τ16.1.1, τ20.1), (τ20.2, τ16.2.2)) (nI p) r11) ∧ (r19 = (9 : Int32) → wp_X9_place τ20  (fun r21 τ22 => wp_X4_add τ16.2.2 (19 : Int32) r21 r11 (fun r23 τ24 => wp_X4_keepValue τ24 r11 r23 (fun τ26 => wp_X9_next τ22  (fun τ28 => wg_rd n 6 ((τ16.1.1, τ28.1), (τ28.2, τ26)) [nI d] (fun _ τ30 => wp_X7_ifStatement_126 (wg_rd n)  post τ30 (nI p) r11))))))))))
theorem if_126F {T : TX} {N L : Nat} {t8 : SX8} {n p t : Nat} {r : Int32} {σ : WSX7} {post : WSX7 → Prop} (h : CF T N L t8 σ t) (hp : ∀ σ', CF T N L t8 σ' t → post σ') : wp_X7_ifStatement_126 (wg_rd n) post σ (nI p) r := by
  obtain ⟨u', hu'⟩ := h.2.1
  exact c_naddG hu' (fun r2 σ4 u4 h4 _ => hp _ ⟨h.1, ⟨u4, h4⟩, h.2.2⟩)
theorem if_stmt {T : TX} {N L : Nat} {t8 : SX8} {d f g : Nat} (hg : GL T N L) (hd : d ≤ 32) (hB : BB T N L t8 d f g) {t : Nat} (ht : t < N) (K : TK T t = 8) : ∃ o, GoodS T N t o 1 (31 - d) ∧ (∀ n, 210 ≤ n → f ≤ n → CSt T N L t8 1 3 [nI d] t o (n + 1)) ∧ (∀ n, 210 ≤ n → g ≤ n → MSt T N [nI d] t o (n + 1)) := by
  have hn := hg.2.1
  have hN : N ≤ 3001 := by have := hg.1.2.1; omega
  have hL := hg.2.2.1
  have hnf := not_fin hg.1 ht K (by omega) (by omega)
  have hPL := PL_succ hnf.1
  have hPn := PL_le T (t + 1)
  obtain ⟨o, ⟨h1, h2, h3⟩, h4, h5⟩ := head hg hd hB (t + 1) hnf.2
  have hPo := PL_le T o.1
  have cgo : ∀ n, 210 ≤ n → f ≤ n → ∀ (σ : WSX7) (u : Nat) (post : Int32 → WSX7 → Prop), CI T N L t8 σ t u →
      (∀ e b, o.2 = some (e, b) → ∀ σ', CI T N L t8 σ' o.1 (u + 1 + sz T e + 1 + szS T b 0) → AG σ.2.2 σ'.2.2 0 u → AV σ.2.2 σ'.2.2 0 u → nk σ'.2.2 u 17 (PL T t) → CS T σ'.2.2 e (u + 1 + sz T e - 1) → CV T σ'.2.2 e (u + 1 + sz T e - 1) → nv σ'.2.2 (u + 1 + sz T e) 18 (PL T t) (-1) → CB T σ'.2.2 b 0 (u + 1 + sz T e + 1) → CW T σ'.2.2 b 0 (u + 1 + sz T e + 1) → Kif n d (PL T t) (post 0) (nI (u + 1 + sz T e)) σ') →
      (o.2 = none → ∀ σ', CF T N L t8 σ' o.1 → post 0 σ') → wg_rd (n + 1) 3 σ [nI d] post := by
    intro n hn2 hn3 σ u post h hY hF
    obtain ⟨a1, a2, a3, a4, a5, a6, a7⟩ := id h
    have nw1 := a5.mk (by omega : u < L) 17 (nI (PL T t)) (-1) 1 1 0
    show wp_X7_ifStatement (wg_rd n) σ (nI d) (post 0)
    unfold wp_X7_ifStatement
    refine c_place a2 a3 a4 (c_nadd a5 (by omega) (c_next a2 a3 a4 ?_))
    refine h4 n hn2 hn3 ((σ.1.1, (σ.1.2.1, ((σ.1.2.2.1.1, (nI (t + 1))), σ.1.2.2.2))), (σ.2.1, nMk σ.2.2 u 17 (nI (PL T t)) (-1) 1 1 0)) (u + 1) (PL T t) 18 (-1) (Kif n d (PL T t) (post 0)) (post 0) ⟨a1, a2, rfl, hnf.2, nw1, by omega, a7⟩ (fun e b he σ' c1 c2 c3 c4 c5 c6 c7 c8 => ?_) (fun he r σ' c1 => ?_) (fun he σ' c1 => hF he σ' c1)
    · have ag0 := AG.mk σ.2.2 (u := u) (Nat.le_refl _) 17 (nI (PL T t)) (-1) 1 1 0
      have av0 := AV.mk σ.2.2 (u := u) (Nat.le_refl _) 17 (nI (PL T t)) (-1) 1 1 0
      obtain ⟨x1, x2, _⟩ := c2 u (by omega) (by omega)
      exact hY e b he σ' c1 (ag0.tr c2 (Nat.le_refl _) (Nat.le_refl _) (Nat.le_refl _) (by omega)) (av0.tr c3 (Nat.le_refl _) (Nat.le_refl _) (Nat.le_refl _) (by omega)) ⟨x1.trans pk_us, x2.trans pk_us⟩ c4 c5 c6 c7 c8
    · exact ⟨fun _ => if_126F c1 (fun σ3 c => hF he σ3 c), fun c => absurd c (c1.ne hn)⟩
  have mgo : ∀ n, 210 ≤ n → g ≤ n → ∀ (τ : SX12) (q : Nat) (post : Int32 → SX12 → Prop), MI T N τ t q →
      (∀ e b, o.2 = some (e, b) → ∀ τ' q' y h z, MI T N τ' o.1 q' → MOF τ τ' → HP τ τ' q → τ'.1.2.1.1.1 q = -1 → τ'.1.1.2.2.1 q = 7 → τ'.1.1.2.2.2.1 q = nI t → τ'.1.1.2.2.2.2 q = nI y → ME T τ' e (q + 1) h y → τ'.1.2.1.1.1 y = nI z → h ≤ z → z < q' → MS T τ' b 0 (z + 1) q' (τ'.1.1.2.2.2.2 z) → τ'.1.2.1.1.1 z = -1 →
        (¬ TK T o.1 = 9 → post (nI q) τ') ∧ (TK T o.1 = 9 → wg_st n 1 (((τ'.1.1.1, (((nI (o.1 + 1)), τ'.1.1.2.1.2), τ'.1.1.2.2)), τ'.1.2), τ'.2) [nI d] (fun r18 τ19 => wp_X12_add τ19 (nI q) r18 (fun τ21 => post (nI q) τ21)))) →
      (o.2 = none → ∀ τ' q', MB T N 3 τ' o.1 q' → MOF τ τ' → HP τ τ' q → q < q' → τ'.1.2.1.1.1 q = -1 → post (nI q) τ') → wg_st (n + 1) 0 τ [nI d] post := by
    intro n hn2 hn3 τ q post h hY hF
    obtain ⟨a1, a2, a3, a4, a5, a6⟩ := id h
    refine m_st hN h 8 K (by omega) _ rfl (fun c => absurd c (by omega)) (fun _ => ?_) (fun _ c => absurd rfl c)
    intro y ey
    have ey : y = nI (t + 1) := by
      rw [ey]
      show τ.1.1.2.1.1 + 1 = _
      rw [a2, nI_1]
    rw [ey]
    have low : ∀ (τ' : SX12), SP (((((mNd τ q (nI (kM 8)) τ.1.1.2.1.1).1.1.1, (((nI (t + 1)), (mNd τ q (nI (kM 8)) τ.1.1.2.1.1).1.1.2.1.2), (mNd τ q (nI (kM 8)) τ.1.1.2.1.1).1.1.2.2)), (mNd τ q (nI (kM 8)) τ.1.1.2.1.1).1.2), (mNd τ q (nI (kM 8)) τ.1.1.2.1.1).2)) τ' (q + 1) q none → HP τ τ' q ∧ τ'.1.2.1.1.1 q = -1 ∧ τ'.1.1.2.2.1 q = 7 ∧ τ'.1.1.2.2.2.1 q = nI t := by
      intro τ' b4
      obtain ⟨p1, p2, p3, p4⟩ := b4 q (by omega)
      refine ⟨fun j hj => ?_, (p4 (by simp)).trans pk_us, p1.trans pk_us, ?_⟩
      · have n2 : j ≠ q := by omega
        obtain ⟨c1, c2, c3, c4⟩ := b4 j (by omega)
        exact ⟨c1.trans (pk_un n2), c2.trans (pk_un n2), (c3 (fun z => n2 z.2)).trans (pk_un n2), (c4 (by simp)).trans (pk_un n2)⟩
      · rw [p2]
        show upd τ.1.1.2.2.2.1 q τ.1.1.2.1.1 q = _
        rw [pk_us, a2]
    refine h5 n hn2 hn3 ((((mNd τ q (nI (kM 8)) τ.1.1.2.1.1).1.1.1, (((nI (t + 1)), (mNd τ q (nI (kM 8)) τ.1.1.2.1.1).1.1.2.1.2), (mNd τ q (nI (kM 8)) τ.1.1.2.1.1).1.1.2.2)), (mNd τ q (nI (kM 8)) τ.1.1.2.1.1).1.2), (mNd τ q (nI (kM 8)) τ.1.1.2.1.1).2) (q + 1) q _ ⟨a1, rfl, hnf.2, a4, a5.nd 0 0, by omega⟩ (by omega) pk_us (fun e b he τ' q' y' hh z b1 b2 b3 b4 b5 b6 b7 b8 b9 b10 => ?_) (fun he τ' q' b1 b2 b3 b4 => ?_)
    · obtain ⟨l1, l2, l3, l4⟩ := low τ' b3
      obtain ⟨g1, g2⟩ := hY e b he τ' q' y' hh z b1 ⟨b2.1, b2.2.1, b2.2.2.1, b2.2.2.2.1, b2.2.2.2.2⟩ l1 l2 l3 l4 b4 b5 b6 b7 b8 b9 b10
      have n1 := b1.2.1
      refine ⟨fun c => absurd rfl c, fun _ => ⟨fun c => absurd b1.1 c, fun _ => ?_⟩⟩
      show vp_in τ'.1.1.2.1.1 3002 ∧ ((¬ τ'.1.1.1.2.1 (τ'.1.1.2.1.1).toNatClampNeg = 8 → _) ∧ (τ'.1.1.1.2.1 (τ'.1.1.2.1.1).toNatClampNeg = 8 → _))
      rw [n1, nI_clamp (by omega), m_tok b1.2.2.2.1 b1.2.2.1]
      refine ⟨in_k (by omega) (by omega), fun c => g1 (fun z => c (by rw [z]; rfl)), fun c y2 ey2 => ?_⟩
      rw [ey2, nI_1]
      exact g2 (kM_inj (b := 9) (TK_r T o.1).1 (TK_r T o.1).2 (by omega) (by omega) c)
    · obtain ⟨l1, l2, l3, l4⟩ := low τ' b4
      refine ⟨fun c => absurd rfl c, fun _ => ⟨fun _ => ?_, fun c => absurd (b1.1.symm.trans c) (by decide)⟩⟩
      exact hF he τ' q' b1 ⟨b3.1, b3.2.1, b3.2.2.1, b3.2.2.2.1, b3.2.2.2.2⟩ l1 (by omega) l2
  cases ho : o.2 with
  | none =>
    exact ⟨(o.1, none), ⟨fun e he => (by cases he), by show t ≤ o.1; omega, h3⟩, fun n hn2 hn3 σ u post h hY hF => cgo n hn2 hn3 σ u post h (fun e b he => by rw [ho] at he; cases he) (fun _ σ' c => hF rfl σ' c), fun n hn2 hn3 τ q post h hY hF => mgo n hn2 hn3 τ q post h (fun e b he => by rw [ho] at he; cases he) (fun _ τ' q' b1 b2 b3 b4 b5 => hF rfl τ' q' q b1 b2 b3 (Nat.le_refl _) b4 b5)⟩
  | some p =>
    obtain ⟨e, b⟩ := p
    obtain ⟨⟨w1, w2, t1, w3, w4, w5⟩, z2, z3⟩ := h1 e b ho
    have hse := sz_pos T e
    have inj : ∀ e' b', o.2 = some (e', b') → e' = e ∧ b' = b := by
      intro e' b' he
      rw [ho] at he
      cases he
      exact ⟨rfl, rfl⟩
    by_cases E : TK T o.1 = 9
    · have hnf2 := not_fin hg.1 h3 E (by omega) (by omega)
      have hPL2 := PL_succ hnf2.1
      have hPn2 := PL_le T (o.1 + 1)
      obtain ⟨o2, ⟨r1, r2, r3⟩, r4, r5⟩ := hB (o.1 + 1) hnf2.2
      have hPo2 := PL_le T o2.1
      have d8 : (8 * t + 5) / 8 = t := by omega
      refine ⟨(o2.1, o2.2.map (fun b2 => .branch (8 * t + 5) e (.branch 0 b b2))), ⟨fun e' he => ?_, by show t ≤ o2.1; omega, r3⟩, fun n hn2 hn3 σ u post h hY hF => cgo n hn2 hn3 σ u post h (fun e' b' he σ' c1 c2 c3 c4 c5 c6 c7 c8 c9 => ?_) (fun he => by rw [ho] at he; cases he), fun n hn2 hn3 τ q post h hY hF => mgo n hn2 hn3 τ q post h (fun e' b' he τ' q' y hh z m1 m2 m3 m4 m5 m6 m7 m8 m9 m10 m11 m12 m13 => ?_) (fun he => by rw [ho] at he; cases he)⟩
      · cases h2 : o2.2 with
        | none =>
          rw [h2] at he
          cases he
        | some b2 =>
          rw [h2] at he
          cases he
          obtain ⟨⟨y1, y2, y3⟩, y4, y5⟩ := r1 b2 h2
          refine ⟨⟨?_, ?_⟩, by show t < o2.1; omega, ?_⟩
          · rw [WFS, if_neg (by omega), if_pos rfl, if_neg (by omega), if_neg (by omega), if_neg (by omega), if_neg (by omega), if_neg (by omega), d8]
            refine ⟨hnf.2, by omega, K, w1, ?_⟩
            rw [WFS, if_neg (by omega), if_neg (by omega)]
            exact ⟨w2, y1⟩
          · rw [XS, if_neg (by omega), if_pos rfl, if_neg (by omega), if_neg (by omega), if_neg (by omega), if_neg (by omega), if_neg (by omega), d8]
            refine ⟨Nat.le_refl _, t1, w3, by omega, ?_⟩
            rw [XS, if_neg (by omega), if_neg (by omega)]
            refine ⟨o.1 - 1, ?_, ?_⟩
            · rw [show 31 - d - 1 = 30 - d by omega]
              exact w4
            · rw [show 31 - d - 1 = 30 - d by omega, show o.1 - 1 + 3 = o.1 + 1 + 1 by omega]
              exact y2
          · rw [szS_5, szS_p]
            show PL T t + (sz T e + (szS T b 0 + szS T b2 0 + 1) + 3) ≤ PL T o2.1
            omega
      · obtain ⟨rfl, rfl⟩ := inj e' b' he
        obtain ⟨a1, a2, a3, a4, a5, a6, a7⟩ := id c1
        refine ⟨fun c => absurd a1 c, fun _ => c_kind a2 a3 a4 ⟨fun c => absurd (by rw [E]; rfl) c, fun _ => c_place a2 a3 a4 (c_nadd a5 (by omega) ?_)⟩⟩
        have nw1 := a5.mk (by omega : u + 1 + sz T e' + 1 + szS T b' 0 < L) 19 (nI (PL T o.1)) (nI (u + 1 + sz T e')) 1 1 0
        refine c_keepValue (u := u + 1 + sz T e' + 1 + szS T b' 0 + 1) nw1.w (by omega) (c_next a2 a3 a4 ?_)
        have hu := h.2.2.2.2.2.1
        refine r4 n hn3 _ (u + 1 + sz T e' + 1 + szS T b' 0 + 1) _ ⟨a1, a2, rfl, hnf2.2, nw1, by omega, a7⟩ (fun b2 hb σ3 d1 d2 d3 d4 d5 => ?_) (fun hb σ3 d1 => if_126F d1 (fun σ4 c => hF (by rw [hb]; rfl) σ4 c))
        obtain ⟨_, y4, y5⟩ := r1 b2 hb
        refine c_nadd d1.2.2.2.2.1 (by omega) ?_
        -- what lay before the ELSE lies there still
        have agm := AG.mk σ'.2.2 (u := u + 1 + sz T e' + 1 + szS T b' 0) (Nat.le_refl _) 19 (nI (PL T o.1)) (nI (u + 1 + sz T e')) 1 1 0
        have agk : AG σ'.2.2 σ3.2.2 0 (u + 1 + sz T e' + 1 + szS T b' 0) := fun j j1 j2 => by
          obtain ⟨x1, x2, x3, x4, x5⟩ := agm j j1 j2
          obtain ⟨y1, y2, y3, y4, y5⟩ := d2 j j1 (by omega)
          exact ⟨y1.trans x1, y2.trans x2, y3.trans x3, y4.trans x4, y5.trans x5⟩
        have avk : ∀ j, j < u + 1 + sz T e' + 1 + szS T b' 0 → ¬ j = u + 1 + sz T e' → σ3.2.2.1.2.2.1 j = σ'.2.2.1.2.2.1 j := by
          intro j j1 j2
          exact (d3 j (by omega) (by omega)).trans ((pk_un (k := u + 1 + sz T e') j2).trans (pk_un (k := u + 1 + sz T e' + 1 + szS T b' 0) (by omega)))
        have av0 : AV σ'.2.2 σ3.2.2 0 (u + 1 + sz T e') := fun j j1 j2 => avk j (by omega) (by omega)
        have av1 : AV σ'.2.2 σ3.2.2 (u + 1 + sz T e' + 1) (u + 1 + sz T e' + 1 + szS T b' 0) := fun j j1 j2 => avk j (by omega) (by omega)
        have vth : σ3.2.2.1.2.2.1 (u + 1 + sz T e') = nI (u + 1 + sz T e' + 1 + szS T b' 0) := (d3 (u + 1 + sz T e') (by omega) (by omega)).trans pk_us
        have vel : σ3.2.2.1.2.2.1 (u + 1 + sz T e' + 1 + szS T b' 0) = nI (u + 1 + sz T e') := (d3 (u + 1 + sz T e' + 1 + szS T b' 0) (by omega) (by omega)).trans ((pk_un (k := u + 1 + sz T e') (by omega)).trans pk_us)
        have kel : σ3.2.2.1.1.2 (u + 1 + sz T e' + 1 + szS T b' 0) = 19 := (d2 (u + 1 + sz T e' + 1 + szS T b' 0) (by omega) (by omega)).1.trans pk_us
        have age := AG.mk σ3.2.2 (u := u + 1 + sz T e' + 1 + szS T b' 0 + 1 + szS T b2 0) (Nat.le_refl _) 20 (nI (PL T t)) (nI (u + 1 + sz T e')) 1 1 0
        have ave := AV.mk σ3.2.2 (u := u + 1 + sz T e' + 1 + szS T b' 0 + 1 + szS T b2 0) (Nat.le_refl _) 20 (nI (PL T t)) (nI (u + 1 + sz T e')) 1 1 0
        have ags := agk.tr age (l := 0) (m := u + 1 + sz T e' + 1 + szS T b' 0) (Nat.le_refl _) (Nat.le_refl _) (Nat.le_refl _) (by omega)
        have ags1 := agk.tr age (l := u + 1 + sz T e' + 1) (m := u + 1 + sz T e' + 1 + szS T b' 0) (Nat.zero_le _) (Nat.zero_le _) (Nat.le_refl _) (by omega)
        have avs0 := av0.tr ave (l := 0) (m := u + 1 + sz T e') (Nat.le_refl _) (Nat.le_refl _) (Nat.le_refl _) (by omega)
        have avs1 := av1.tr ave (l := u + 1 + sz T e' + 1) (m := u + 1 + sz T e' + 1 + szS T b' 0) (Nat.le_refl _) (Nat.zero_le _) (Nat.le_refl _) (by omega)
        obtain ⟨k1, k2, _⟩ := ags (u + 1 + sz T e') (by omega) (by omega)
        refine hY (.branch (8 * t + 5) e' (.branch 0 b' b2)) (by rw [hb]; rfl) _ ?_ (c2.tr ags (l := 0) (m := u) (Nat.le_refl _) (Nat.le_refl _) (Nat.le_refl _) (by omega)) (c3.tr avs0 (l := 0) (m := u) (Nat.le_refl _) (Nat.le_refl _) (Nat.le_refl _) (by omega)) ?_ ?_
        · rw [szS_5, szS_p, show u + (sz T e' + (szS T b' 0 + szS T b2 0 + 1) + 3) = u + 1 + sz T e' + 1 + szS T b' 0 + 1 + szS T b2 0 + 1 by omega]
          exact ⟨d1.1, d1.2.1, d1.2.2.1, d1.2.2.2.1, d1.2.2.2.2.1.mk (by omega) _ _ _ _ _ _, by show _ ≤ PL T o2.1; omega, d1.2.2.2.2.2.2⟩
        · rw [CB, if_neg (by omega), if_pos rfl, if_neg (by omega), if_neg (by omega), if_neg (by omega), if_neg (by omega), if_neg (by omega), d8]
          refine ⟨c4.fr ags (by omega) (by omega), ?_, ?_, ?_, ?_⟩
          · rw [show u + sz T e' = u + 1 + sz T e' - 1 by omega]
            exact CS.fr ags e' _ c5 (by omega) (by omega)
          · rw [show u + sz T e' + 1 = u + 1 + sz T e' by omega]
            exact ⟨k1.trans c7.1, k2.trans c7.2.1⟩
          · rw [CB, if_neg (by omega), if_neg (by omega), show u + sz T e' + 2 = u + 1 + sz T e' + 1 by omega, show u + 1 + sz T e' + 1 - 1 = u + 1 + sz T e' by omega]
            refine ⟨by omega, CB.fr ags1 avs1 b' 0 _ (by omega) c8 (by rw [if_neg (by omega)]; omega) (by omega), ?_, ?_, ?_, ?_⟩
            · exact (age _ (by omega) (by omega)).1.trans kel
            · exact (ave _ (by omega) (by omega)).trans vel
            · exact (ave _ (by omega) (by omega)).trans vth
            · exact CB.fr age ave b2 0 _ (by omega) d4 (by rw [if_neg (by omega)]; omega) (by omega)
          · rw [szS_p, show u + sz T e' + 2 + (szS T b' 0 + szS T b2 0 + 1) = u + 1 + sz T e' + 1 + szS T b' 0 + 1 + szS T b2 0 by omega, show u + sz T e' + 1 = u + 1 + sz T e' by omega]
            exact ⟨pk_us, pk_us, pk_us⟩
        · rw [CW, if_neg (by omega), if_pos rfl, if_neg (by omega), if_neg (by omega), if_neg (by omega), if_neg (by omega), if_neg (by omega)]
          refine ⟨?_, ?_⟩
          · rw [show u + sz T e' = u + 1 + sz T e' - 1 by omega]
            exact CV.fr avs0 e' _ c6 (by omega) (by omega)
          · rw [CW, if_neg (by omega), if_neg (by omega), show u + sz T e' + 2 = u + 1 + sz T e' + 1 by omega]
            exact ⟨CW.fr avs1 b' 0 _ (by omega) c9 (by omega) (by omega), CW.fr ave b2 0 _ (by omega) d5 (by omega) (by omega)⟩
      · obtain ⟨rfl, rfl⟩ := inj e' b' he
        refine ⟨fun c => absurd E c, fun _ => ?_⟩
        have bi := m8.bd
        have hq7 := m1.2.2.2.2.2
        refine r5 n hn3 _ q' _ ⟨m1.1, rfl, hnf2.2, m1.2.2.2.1, m1.2.2.2.2.1, by omega⟩ (fun b2 hb τ3 q3 d1 d2 d3 d4 d5 d6 => ?_) (fun hb τ3 q3 d1 d2 d3 d4 d5 => ?_)
        · have hq8 := d1.2.2.2.2.2
          have fs : τ3.1.1.2.2.2.2 q = nI y := (d4 q (by omega)).2.2.1.trans m7
          have ny : τ3.1.2.1.1.1 y = nI z := (d4 y (by omega)).2.2.2.trans m9
          have nz : τ3.1.2.1.1.1 z = -1 := (d4 z (by omega)).2.2.2.trans m13
          refine m_addC (c := y) (l := [z]) (by omega) fs (by omega) ⟨ny, by omega, nz⟩ ?_
          refine hY (.branch (8 * t + 5) e' (.branch 0 b' b2)) (by rw [hb]; rfl) _ q3 q ⟨d1.1, d1.2.1, d1.2.2.1, d1.2.2.2.1, d1.2.2.2.2.1, d1.2.2.2.2.2⟩ (Nat.le_refl _) (by omega) (m2.tr ⟨d3.1, d3.2.1, d3.2.2.1, d3.2.2.2.1, d3.2.2.2.2⟩) (fun j hj => ?_) ?_ ?_
          · obtain ⟨x1, x2, x3, x4⟩ := m3 j hj
            obtain ⟨y1, y2, y3, y4⟩ := d4 j (by omega)
            exact ⟨y1.trans x1, y2.trans x2, y3.trans x3, (pk_un (k := z) (by omega)).trans (y4.trans x4)⟩
          · exact (pk_un (k := z) (by omega)).trans ((d4 q (by omega)).2.2.2.trans m4)
          · rw [MS, if_neg (by omega), if_pos rfl]
            refine ⟨q, q + 1, hh, y, rfl, Nat.le_refl _, by omega, by omega, by rw [d8]; exact (d4 q (by omega)).2.1.trans m6, ?_⟩
            rw [if_neg (by omega), if_neg (by omega), if_neg (by omega), if_neg (by omega), if_neg (by omega)]
            refine ⟨fs, ?_, (d4 q (by omega)).1.trans m5, z, m10, ?_⟩
            · refine ME.fr (τ := τ') e' (q + 1) hh y (fun j j1 j2 => ?_) (fun j j1 j2 j3 => ?_) m8
              · obtain ⟨y1, y2, y3, y4⟩ := d4 j (by omega)
                exact ⟨y1, y2, y3⟩
              · exact (pk_un (k := z) (by omega)).trans (d4 j (by omega)).2.2.2
            · rw [MS, if_neg (by omega), if_neg (by omega)]
              refine ⟨z, z + 1, q', q', q' + 1, q3, (pk_un (k := z) (by omega)).trans ny, Nat.le_refl _, by omega, by omega, Nat.le_refl _, by omega, Nat.le_refl _, by omega, ?_, pk_us, ?_, (pk_un (k := z) (by omega)).trans d5⟩
              · have fz : τ3.1.1.2.2.2.2 z = τ'.1.1.2.2.2.2 z := (d4 z (by omega)).2.2.1
                show MS T _ b' 0 (z + 1) q' (τ3.1.1.2.2.2.2 z)
                rw [fz]
                refine MS.fr (τ := τ') b' 0 _ _ _ (by omega) (fun j j1 j2 => ?_) (fun j j1 j2 _ => ?_) m12
                · obtain ⟨y1, y2, y3, y4⟩ := d4 j (by omega)
                  exact ⟨y1, y2, y3⟩
                · exact (pk_un (k := z) (by omega)).trans (d4 j (by omega)).2.2.2
              · exact MS.fr (τ := τ3) b2 0 _ _ _ (by omega) (fun _ _ _ => ⟨rfl, rfl, rfl⟩) (fun j j1 j2 _ => pk_un (k := z) (by omega)) d6
        · have hq8 := d1.2.2.2.2.2
          have fs : τ3.1.1.2.2.2.2 q = nI y := (d3 q (by omega)).2.2.1.trans m7
          have ny : τ3.1.2.1.1.1 y = nI z := (d3 y (by omega)).2.2.2.trans m9
          have nz : τ3.1.2.1.1.1 z = -1 := (d3 z (by omega)).2.2.2.trans m13
          refine m_addC (c := y) (l := [z]) (by omega) fs (by omega) ⟨ny, by omega, nz⟩ ?_
          refine hF (by rw [hb]; rfl) _ q3 q ⟨d1.1, d1.2.1, d1.2.2.1, d1.2.2.2.1, d1.2.2.2.2.1, d1.2.2.2.2.2⟩ (m2.tr ⟨d2.1, d2.2.1, d2.2.2.1, d2.2.2.2.1, d2.2.2.2.2⟩) (fun j hj => ?_) (Nat.le_refl _) (by omega) ?_
          · obtain ⟨x1, x2, x3, x4⟩ := m3 j hj
            obtain ⟨y1, y2, y3, y4⟩ := d3 j (by omega)
            exact ⟨y1.trans x1, y2.trans x2, y3.trans x3, (pk_un (k := z) (by omega)).trans (y4.trans x4)⟩
          · exact (pk_un (k := z) (by omega)).trans ((d3 q (by omega)).2.2.2.trans m4)
    · have d8 : (8 * t + 4) / 8 = t := by omega
      refine ⟨(o.1, some (.branch (8 * t + 4) e b)), ⟨fun e' he => ?_, by show t ≤ o.1; omega, h3⟩, fun n hn2 hn3 σ u post h hY hF => cgo n hn2 hn3 σ u post h (fun e' b' he σ' c1 c2 c3 c4 c5 c6 c7 c8 c9 => ?_) (fun he => by rw [ho] at he; cases he), fun n hn2 hn3 τ q post h hY hF => mgo n hn2 hn3 τ q post h (fun e' b' he τ' q' y hh z m1 m2 m3 m4 m5 m6 m7 m8 m9 m10 m11 m12 m13 => ?_) (fun he => by rw [ho] at he; cases he)⟩
      · cases he
        refine ⟨⟨?_, ?_⟩, by show t < o.1; omega, ?_⟩
        · rw [WFS, if_neg (by omega), if_pos rfl, if_neg (by omega), if_neg (by omega), if_neg (by omega), if_neg (by omega), if_pos (by omega), d8]
          exact ⟨hnf.2, K, w1, w2⟩
        · rw [XS, if_neg (by omega), if_pos rfl, if_neg (by omega), if_neg (by omega), if_neg (by omega), if_neg (by omega), if_pos (by omega), d8]
          refine ⟨Nat.le_refl _, t1, w3, by omega, ?_⟩
          rw [show 31 - d - 1 = 30 - d by omega]
          exact w4
        · rw [szS_4]
          show PL T t + (sz T e + szS T b 0 + 3) ≤ PL T o.1
          omega
      · obtain ⟨rfl, rfl⟩ := inj e' b' he
        obtain ⟨a1, a2, a3, a4, a5, a6, a7⟩ := id c1
        have hu := h.2.2.2.2.2.1
        have hkr := TK_r T o.1
        refine ⟨fun c => absurd a1 c, fun _ => c_kind a2 a3 a4 ⟨fun _ => c_nadd a5 (by omega) ?_, fun c => absurd ((nI_eq (b := 9) (by omega) (by omega)).mp c) E⟩⟩
        have age := AG.mk σ'.2.2 (u := u + 1 + sz T e' + 1 + szS T b' 0) (Nat.le_refl _) 20 (nI (PL T t)) (nI (u + 1 + sz T e')) 1 1 0
        have ave := AV.mk σ'.2.2 (u := u + 1 + sz T e' + 1 + szS T b' 0) (Nat.le_refl _) 20 (nI (PL T t)) (nI (u + 1 + sz T e')) 1 1 0
        refine hY (.branch (8 * t + 4) e' b') rfl _ ?_ (c2.tr age (l := 0) (m := u) (Nat.le_refl _) (Nat.le_refl _) (Nat.le_refl _) (by omega)) (c3.tr ave (l := 0) (m := u) (Nat.le_refl _) (Nat.le_refl _) (Nat.le_refl _) (by omega)) ?_ ?_
        · rw [szS_4, show u + (sz T e' + szS T b' 0 + 3) = u + 1 + sz T e' + 1 + szS T b' 0 + 1 by omega]
          exact ⟨a1, a2, a3, a4, a5.mk (by omega) _ _ _ _ _ _, by show _ ≤ PL T o.1; omega, a7⟩
        · rw [CB, if_neg (by omega), if_pos rfl, if_neg (by omega), if_neg (by omega), if_neg (by omega), if_neg (by omega), if_pos (by omega), d8]
          refine ⟨c4.fr age (by omega) (by omega), ?_, ?_, ?_, ?_⟩
          · rw [show u + sz T e' = u + 1 + sz T e' - 1 by omega]
            exact CS.fr age e' _ c5 (by omega) (by omega)
          · rw [show u + sz T e' + 1 = u + 1 + sz T e' by omega]
            exact c7.fr age ave (by omega) (by omega)
          · rw [show u + sz T e' + 2 = u + 1 + sz T e' + 1 by omega]
            exact CB.fr age ave b' 0 _ (by omega) c8 (by rw [if_neg (by omega)]; omega) (by omega)
          · rw [show u + sz T e' + 2 + szS T b' 0 = u + 1 + sz T e' + 1 + szS T b' 0 by omega, show u + sz T e' + 1 = u + 1 + sz T e' by omega]
            exact ⟨pk_us, pk_us, pk_us⟩
        · rw [CW, if_neg (by omega), if_pos rfl, if_neg (by omega), if_neg (by omega), if_neg (by omega), if_neg (by omega), if_pos (by omega)]
          refine ⟨?_, ?_⟩
          · rw [show u + sz T e' = u + 1 + sz T e' - 1 by omega]
            exact CV.fr ave e' _ c6 (by omega) (by omega)
          · rw [show u + sz T e' + 2 = u + 1 + sz T e' + 1 by omega]
            exact CW.fr ave b' 0 _ (by omega) c9 (by omega) (by omega)
      · obtain ⟨rfl, rfl⟩ := inj e' b' he
        refine ⟨fun _ => ?_, fun c => absurd c E⟩
        have bi := m8.bd
        refine hY (.branch (8 * t + 4) e' b') rfl τ' q' q m1 (Nat.le_refl _) (by omega) m2 m3 m4 ?_
        rw [MS, if_neg (by omega), if_pos rfl]
        refine ⟨q, q + 1, hh, y, rfl, Nat.le_refl _, by omega, by omega, by rw [d8]; exact m6, ?_⟩
        rw [if_neg (by omega), if_neg (by omega), if_neg (by omega), if_neg (by omega), if_pos (by omega)]
        exact ⟨m7, m8, m5, z, z + 1, q', m10, by omega, Nat.le_refl _, m11, m9, m12, m13⟩
end IfS
