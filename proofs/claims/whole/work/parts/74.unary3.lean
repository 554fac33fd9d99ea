section Unary3
theorem MB.of {T : TX} {N t q : Nat} {τ : SX12} {s : Nat} (h : MI T N τ t q) (hs : 1 ≤ s) : MB T N s (((τ.1.1.1, ((τ.1.1.2.1.1, (1, τ.1.1.2.1.2.2)), τ.1.1.2.2)), τ.1.2), τ.2) t q := ⟨rfl, h.2.1, h.2.2.1, h.2.2.2.1, h.2.2.2.2.1, by have := h.2.2.2.2.2; omega⟩
theorem uu_of {T : TX} {N L : Nat} {t8 : SX8} {d f g f1 g1 f2 g2 : Nat} (hg : GL T N L) (hd : d ≤ 30) (hU : UU T N L t8 (d + 1) f1 g1) (hQ : QQ T N L t8 (d + 1) f2 g2) (hf1 : f1 + 1 ≤ f) (hf2 : f2 + 2 ≤ f) (hg1 : g1 + 1 ≤ g) (hg2 : g2 + 1 ≤ g) : UU T N L t8 d f g := by
  have hn := hg.2.1
  have hN : N ≤ 3001 := by have := hg.1.2.1; omega
  have hL := hg.2.2.1
  have hL2 := hg.2.2.2
  intro t ht
  have hkr := TK_r T t
  have hPt := PL_le T t
  by_cases K3 : TK T t = 3
  · have hnf := not_fin hg.1 ht K3 (by omega) (by omega)
    have hPL := PL_succ hnf.1
    have hPn := PL_le T (t + 1)
    refine ⟨(t + 1, some (.leaf t)), ⟨fun e he => ?_, by show t ≤ t + 1; omega, hnf.2⟩, fun n hn2 σ u post h hY hF => ?_, fun n hn2 τ q post h hY hF => ?_⟩
    · cases he
      exact ⟨⟨⟨hnf.2, Or.inr K3⟩, ⟨Nat.le_refl _, by show t < t + 1; omega⟩, Nat.zero_le _, by show 2 ≤ 5 * (32 - d) + 2; omega⟩, by show t < t + 1; omega, hPL⟩
    · obtain ⟨n', rfl⟩ : ∃ n', n = n' + 1 := ⟨n - 1, by omega⟩
      obtain ⟨a1, a2, a3, a4, a5, a6, a7⟩ := id h
      refine c_un h hd 3 K3 (fun c => absurd c (by decide)) (fun _ => ?_) (fun c => absurd c (by unfold isU; omega)) (fun c => absurd c (by decide)) (fun _ c => absurd rfl c)
      refine c_number a2 a3 a4 (c_nadd a5 (by omega) (c_next a2 a3 a4 ?_))
      refine hY (.leaf t) rfl _ ⟨a1, a2, rfl, hnf.2, a5.mk (by omega) _ _ _ _ _ _, ?_, a7⟩ (AG.mk _ (Nat.le_refl u) _ _ _ _ _ _) (AV.mk _ (Nat.le_refl u) _ _ _ _ _ _) ?_ ?_
      · show u + 1 ≤ PL T (t + 1)
        omega
      · show CS T _ (.leaf t) (u + 1 - 1)
        rw [show u + 1 - 1 = u by omega]
        refine ⟨⟨pk_us, pk_us, pk_us, by show 1 ≤ u + 1; omega⟩, ?_, pk_us⟩
        rw [K3]
        exact pk_us
      · show CV T _ (.leaf t) (u + 1 - 1)
        rw [show u + 1 - 1 = u by omega]
        intro _
        exact pk_us
    · obtain ⟨n', rfl⟩ : ∃ n', n = n' + 1 := ⟨n - 1, by omega⟩
      obtain ⟨a1, a2, a3, a4, a5, a6⟩ := id h
      refine m_un hN h hd 3 K3 _ rfl _ rfl (fun c => absurd c (by decide)) (fun _ => ?_) (fun c => absurd c (by unfold isU; omega)) (fun c => absurd c (by decide)) (fun _ c => absurd rfl c) (fun c => absurd c (by decide))
      refine hY (.leaf t) rfl _ (q + 1) q ⟨rfl, rfl, hnf.2, a4, a5.nd 0 0, by show q + 1 ≤ t + 1 + 1; omega⟩ (by omega) ⟨rfl, rfl, rfl, rfl, rfl⟩ (mNd_hp _ (Nat.le_refl q) _ _) pk_us ⟨Nat.le_refl _, by omega, ?_, ?_, pk_us⟩
      · rw [K3]
        exact pk_us
      · show upd τ.1.1.2.2.2.1 q τ.1.1.2.1.1 q = nI t
        rw [pk_us, a2]
  · by_cases K2 : TK T t = 2
    · have hnf := not_fin hg.1 ht K2 (by omega) (by omega)
      have hPL := PL_succ hnf.1
      have hPn := PL_le T (t + 1)
      have hkr1 := TK_r T (t + 1)
      have nU : ¬ isU 2 := by unfold isU; omega
      have km : kM (TK T (t + 1)) = 91 ↔ TK T (t + 1) = 91 := by
        constructor
        · intro z
          exact kM_inj hkr1.1 hkr1.2 (by omega) (by omega) (by rw [z]; rfl)
        · intro z
          rw [z]
          rfl
      by_cases B : TK T (t + 1) = 91
      · have hnf1 := not_fin hg.1 hnf.2 B (by omega) (by omega)
        have hPL1 := PL_succ hnf1.1
        obtain ⟨o2, ⟨q1, q2, q3⟩, q4, q5⟩ := hQ (t + 1 + 1) hnf1.2
        have hPo := PL_le T o2.1
        -- what comes behind the EXPR
        have cgo : ∀ n, f ≤ n → ∀ (σ : WSX7) (u : Nat) (post : Int32 → WSX7 → Prop), CI T N L t8 σ t u →
            (∀ e, o2.2 = some e → ∀ σ', CI T N L t8 σ' o2.1 (u + 1 + sz T e) → AG (nAdd σ.2.2 u 27 (nI (PL T t)) (nI (PL T (t + 1)))) σ'.2.2 0 (u + 1) → AV (nAdd σ.2.2 u 27 (nI (PL T t)) (nI (PL T (t + 1)))) σ'.2.2 0 (u + 1) → CS T σ'.2.2 e (u + 1 + sz T e - 1) → CV T σ'.2.2 e (u + 1 + sz T e - 1) → wp_X4_addAround σ'.2.2 28 (nI (PL T (t + 1))) (nI u) (fun τ12 => wp_X7_take (σ'.1, (σ'.2.1, τ12)) (nI 93) (fun r13 τ14 => post 0 τ14))) →
            (o2.2 = none → ∀ σ', CF T N L t8 σ' o2.1 → post 0 σ') → wg_rd n 9 σ [nI d] post := by
          intro n hn2 σ u post h hY hF
          obtain ⟨n', rfl⟩ : ∃ n', n = n' + 1 + 1 := ⟨n - 2, by omega⟩
          obtain ⟨a1, a2, a3, a4, a5, a6, a7⟩ := id h
          refine c_un h hd 2 K2 (fun _ => ?_) (fun c => absurd c (by decide)) (fun c => absurd c nU) (fun c => absurd c (by decide)) (fun c => absurd rfl c)
          refine c_next a2 a3 a4 ?_
          obtain ⟨h', hb⟩ := h.nx hnf
          obtain ⟨b1, b2, b3, b4, b5, b6, b7⟩ := id h'
          show wp_X7_nameOrItem (wg_rd n') ((σ.1.1, (σ.1.2.1, ((σ.1.2.2.1.1, (nI (t + 1))), σ.1.2.2.2))), (σ.2.1, σ.2.2)) (nI (PL T t)) (nI d) (fun τ9 => post 0 τ9)
          unfold wp_X7_nameOrItem
          refine c_kind b2 b3 b4 ⟨fun _ => ?_, fun c => absurd (by rw [B]; rfl) c⟩
          refine c_place b2 b3 b4 (c_nadd a5 (by omega) (c_next b2 b3 b4 ?_))
          show wg_rd n' 7 _ [nI d + 1] _
          rw [nI_1]
          refine q4 n' (by omega) _ (u + 1) _ ⟨a1, a2, rfl, hnf1.2, a5.mk (by omega) _ _ _ _ _ _, by omega, a7⟩ (fun e he σ' c1 c2 c3 c4 c5 => hY e he σ' c1 c2 c3 c4 c5) (fun he σ' c1 => ?_)
          obtain ⟨u', hu'⟩ := c1.2.1
          refine c_addAroundG hu' (fun σ4 u4 h4 => ?_)
          have cf : CF T N L t8 (σ'.1, (σ'.2.1, σ4)) o2.1 := ⟨c1.1, ⟨u4, h4⟩, c1.2.2⟩
          exact c_takeF cf hn (hF he _ cf)
        have mgo : ∀ n, g ≤ n → ∀ (τ : SX12) (q : Nat) (post : Int32 → SX12 → Prop), MI T N τ t q →
            (∀ e, o2.2 = some e → ∀ τ' q', MI T N τ' o2.1 q' → q < q' → MOF τ τ' → HP τ τ' q → τ'.1.2.1.1.1 q = -1 → ME T τ' (.branch (2 * t) e (.leaf 0)) q q' q → wp_X12_take τ' (nI (kM 93)) (fun r26 τ27 => post (nI q) τ27)) →
            (o2.2 = none → ∀ τ' q', MB T N 2 τ' o2.1 q' → MOF τ τ' → HP τ τ' q → q < q' → τ'.1.2.1.1.1 q = -1 → post (nI q) τ') → wg_st n 4 τ [nI d] post := by
          intro n hn2 τ q post h hY hF
          obtain ⟨n', rfl⟩ : ∃ n', n = n' + 1 := ⟨n - 1, by omega⟩
          obtain ⟨a1, a2, a3, a4, a5, a6⟩ := id h
          refine m_un hN h hd 2 K2 _ rfl _ rfl (fun _ => ⟨fun c => absurd (km.mpr B) c, fun _ => ?_⟩) (fun c => absurd c (by decide)) (fun c => absurd c nU) (fun c => absurd c (by decide)) (fun c => absurd rfl c) (fun _ => hnf.2)
          refine m_node (q := q + 1) (a5.nd 0 0) (by omega) (m_add0 (by omega) ?_ (fun y ey => ?_))
          · show upd (upd τ.1.1.2.2.2.2 q (-1)) (q + 1) (-1) q = -1
            rw [pk_un (by omega), pk_us]
          · have ey : y = nI (t + 1 + 1) := by
              rw [ey]
              show nI (t + 1) + 1 = _
              rw [nI_1]
            rw [ey]
            show wg_st n' 2 _ [nI d + 1] _
            rw [nI_1]
            refine q5 n' (by omega) _ (q + 1 + 1) _ ⟨rfl, rfl, hnf1.2, a4, (a5.nd 0 0).nd 0 0, by omega⟩ (fun e he τ' q' i b1 b2 b3 b4 b5 b6 => ?_) (fun he τ' q' i b1 b2 b3 b4 b5 b6 => ?_)
            · have bi := b6.bd
              obtain ⟨p1, p2, p3, p4⟩ := b4 q (by omega)
              obtain ⟨r1, r2, r3, r4⟩ := b4 (q + 1) (by omega)
              have ne : q ≠ q + 1 := by omega
              have fq : τ'.1.1.2.2.2.2 q = nI (q + 1) := p3.trans pk_us
              have n1 : τ'.1.2.1.1.1 (q + 1) = -1 := r4.trans pk_us
              have nq : τ'.1.2.1.1.1 q = -1 := by
                rw [p4]
                show upd (upd τ.1.2.1.1.1 q (-1)) (q + 1) (-1) q = -1
                rw [pk_un ne, pk_us]
              have kq : τ'.1.1.2.2.1 q = 303 := by
                rw [p1]
                show upd (upd (upd τ.1.1.2.2.1 q _) q 303) (q + 1) 91 q = 303
                rw [pk_un ne, pk_us]
              have aq : τ'.1.1.2.2.2.1 q = nI t := by
                rw [p2]
                show upd (upd τ.1.1.2.2.2.1 q τ.1.1.2.1.1) (q + 1) _ q = nI t
                rw [pk_un ne, pk_us, a2]
              have a1' : τ'.1.1.2.2.2.1 (q + 1) = nI (t + 1) := r2.trans pk_us
              refine m_addC (c := q + 1) (l := []) (by omega) fq (by omega) n1 ?_
              refine hY e he _ q' ⟨b1.1, b1.2.1, b1.2.2.1, b1.2.2.2.1, b1.2.2.2.2.1, b1.2.2.2.2.2⟩ (by omega) ?_ ?_ ?_ ?_
              · obtain ⟨c1, c2, c3, c4, c5⟩ := b3
                exact ⟨c1, c2, c3, c4, c5⟩
              · intro j hj
                have n2 : j ≠ q := by omega
                have n3 : j ≠ q + 1 := by omega
                obtain ⟨c1, c2, c3, c4⟩ := b4 j (by omega)
                refine ⟨c1.trans ?_, c2.trans ?_, c3.trans ?_, (pk_un (k := q + 1) n3).trans (c4.trans ?_)⟩
                · show upd (upd (upd τ.1.1.2.2.1 q _) q 303) (q + 1) 91 j = _
                  rw [pk_un n3, pk_un n2, pk_un n2]
                · show upd (upd τ.1.1.2.2.2.1 q τ.1.1.2.1.1) (q + 1) _ j = _
                  rw [pk_un n3, pk_un n2]
                · show upd (upd (upd τ.1.1.2.2.2.2 q (-1)) (q + 1) (-1)) q (nI (q + 1)) j = _
                  rw [pk_un n2, pk_un n3, pk_un n2]
                · show upd (upd τ.1.2.1.1.1 q (-1)) (q + 1) (-1) j = _
                  rw [pk_un n3, pk_un n2]
              · exact (pk_un (k := q + 1) ne).trans nq
              · refine ⟨Nat.le_refl _, by omega, ?_⟩
                rw [if_neg (by omega), show 2 * t / 2 = t by omega, if_pos K2]
                refine ⟨kq, aq, q + 1, q + 1 + 1, q', i, by omega, by omega, Nat.le_refl _, fq, a1', pk_us, ?_, ?_⟩
                · exact ME.fr (τ := τ') e _ _ _ (fun j j1 j2 => ⟨rfl, rfl, rfl⟩) (fun j j1 j2 j3 => pk_un (k := q + 1) (by omega)) b6
                · exact (pk_un (k := q + 1) (by omega)).trans b5
            · obtain ⟨p1, p2, p3, p4⟩ := b3 q (by omega)
              obtain ⟨r1, r2, r3, r4⟩ := b3 (q + 1) (by omega)
              have ne : q ≠ q + 1 := by omega
              have fq : τ'.1.1.2.2.2.2 q = nI (q + 1) := p3.trans pk_us
              have n1 : τ'.1.2.1.1.1 (q + 1) = -1 := r4.trans pk_us
              have nq : τ'.1.2.1.1.1 q = -1 := by
                rw [p4]
                show upd (upd τ.1.2.1.1.1 q (-1)) (q + 1) (-1) q = -1
                rw [pk_un ne, pk_us]
              refine m_addC (c := q + 1) (l := []) (by omega) fq (by omega) n1 ?_
              have hb : MB T N 2 ((τ'.1.1, ((((upd τ'.1.2.1.1.1 (q + 1) (nI i)), τ'.1.2.1.1.2), τ'.1.2.1.2), τ'.1.2.2)), τ'.2) o2.1 q' := ⟨b1.1, b1.2.1, b1.2.2.1, b1.2.2.2.1, b1.2.2.2.2.1, b1.2.2.2.2.2⟩
              refine m_takeB hb (hF he _ q' hb ?_ ?_ (by omega) ((pk_un (k := q + 1) ne).trans nq))
              · obtain ⟨c1, c2, c3, c4, c5⟩ := b2
                exact ⟨c1, c2, c3, c4, c5⟩
              · intro j hj
                have n2 : j ≠ q := by omega
                have n3 : j ≠ q + 1 := by omega
                obtain ⟨c1, c2, c3, c4⟩ := b3 j (by omega)
                refine ⟨c1.trans ?_, c2.trans ?_, c3.trans ?_, (pk_un (k := q + 1) n3).trans (c4.trans ?_)⟩
                · show upd (upd (upd τ.1.1.2.2.1 q _) q 303) (q + 1) 91 j = _
                  rw [pk_un n3, pk_un n2, pk_un n2]
                · show upd (upd τ.1.1.2.2.2.1 q τ.1.1.2.1.1) (q + 1) _ j = _
                  rw [pk_un n3, pk_un n2]
                · show upd (upd (upd τ.1.1.2.2.2.2 q (-1)) (q + 1) (-1)) q (nI (q + 1)) j = _
                  rw [pk_un n2, pk_un n3, pk_un n2]
                · show upd (upd τ.1.2.1.1.1 q (-1)) (q + 1) (-1) j = _
                  rw [pk_un n3, pk_un n2]
        cases ho : o2.2 with
        | none =>
          refine ⟨(o2.1, none), ⟨fun e he => (by cases he), by show t ≤ o2.1; omega, q3⟩, fun n hn2 σ u post h hY hF => cgo n hn2 σ u post h (fun e he => by rw [ho] at he; cases he) (fun _ σ' c => hF rfl σ' c), fun n hn2 τ q post h hY hF => mgo n hn2 τ q post h (fun e he => by rw [ho] at he; cases he) (fun _ τ' q' b1 b2 b3 b4 b5 => hF rfl τ' q' q b1 b2 b3 (Nat.le_refl _) b4 b5)⟩
        | some a =>
          obtain ⟨w2, t2, pl2⟩ := q1 a ho
          have hsa := sz_pos T a
          have es : sz T (.branch (2 * t) a (.leaf 0)) = sz T a + 2 := by
            show (if (2 * t) % 2 = 1 then _ else if TK T (2 * t / 2) = 2 then _ else _) = _
            rw [if_neg (by omega), show 2 * t / 2 = t by omega, if_pos K2]
          have en : nd T (.branch (2 * t) a (.leaf 0)) = nd T a := by
            show (if (2 * t) % 2 = 1 then _ else _) = _
            rw [if_neg (by omega)]
          have ec : cl T (.branch (2 * t) a (.leaf 0)) = true := by
            show (if (2 * t) % 2 = 1 then _ else if TK T (2 * t / 2) = 2 then _ else _) = _
            rw [if_neg (by omega), show 2 * t / 2 = t by omega, if_pos K2]
          by_cases C : TK T o2.1 = 93
          · have hnf2 := not_fin hg.1 q3 C (by omega) (by omega)
            have hPL2 := PL_succ hnf2.1
            refine ⟨(o2.1 + 1, some (.branch (2 * t) a (.leaf 0))), ⟨fun e he => ?_, by show t ≤ o2.1 + 1; omega, hnf2.2⟩, fun n hn2 σ u post h hY hF => cgo n hn2 σ u post h (fun e he σ' c1 c2 c3 c4 c5 => ?_) (fun he => by rw [ho] at he; cases he), fun n hn2 τ q post h hY hF => mgo n hn2 τ q post h (fun e he τ' q' b1 b2 b3 b4 b5 b6 => ?_) (fun he => by rw [ho] at he; cases he)⟩
            · cases he
              refine ⟨⟨?_, XE.item K2 w2.2 (Nat.le_refl _) (uh_2 hd)⟩, by show t < o2.1 + 1; omega, ?_⟩
              · show (if (2 * t) % 2 = 1 then _ else if TK T (2 * t / 2) = 2 then _ else _)
                rw [if_neg (by omega), show 2 * t / 2 = t by omega, if_pos K2]
                exact ⟨by omega, B, w2.1⟩
              · rw [es]
                show _ ≤ PL T (o2.1 + 1)
                omega
            · rw [ho] at he
              cases he
              have hu := h.2.2.2.2.2.1
              have hd1 := c4.hd
              refine c_addAround (s := sz T a) (n := nI (nd T a)) (b := cl T a) c1.2.2.2.2.1 (by omega) (by omega) hd1.1 hd1.2.1 hd1.2.2.1 ?_
              rw [if_pos rfl, if_pos rfl]
              have agm := AG.mk σ'.2.2 (u := u + 1 + sz T a) (Nat.le_refl _) 28 (nI (PL T (t + 1))) (nI u) (nI (sz T a + 2)) (nI (nd T a)) (bi true)
              have avm := AV.mk σ'.2.2 (u := u + 1 + sz T a) (Nat.le_refl _) 28 (nI (PL T (t + 1))) (nI u) (nI (sz T a + 2)) (nI (nd T a)) (bi true)
              have ag0 := AG.mk σ.2.2 (u := u) (Nat.le_refl _) 27 (nI (PL T t)) (nI (PL T (t + 1))) 1 1 0
              have av0 := AV.mk σ.2.2 (u := u) (Nat.le_refl _) 27 (nI (PL T t)) (nI (PL T (t + 1))) 1 1 0
              have ci2 : CI T N L t8 (σ'.1, (σ'.2.1, nMk σ'.2.2 (u + 1 + sz T a) 28 (nI (PL T (t + 1))) (nI u) (nI (sz T a + 2)) (nI (nd T a)) (bi true))) o2.1 (u + 1 + sz T a + 1) := ⟨c1.1, c1.2.1, c1.2.2.1, c1.2.2.2.1, c1.2.2.2.2.1.mk (by omega) _ _ _ _ _ _, by omega, c1.2.2.2.2.2.2⟩
              have eu : u + sz T (.branch (2 * t) a (.leaf 0)) = u + 1 + sz T a + 1 := by rw [es]; omega
              refine c_take hg.1 ci2 (by omega) (by omega) (by omega) (fun _ z1 z2 z3 ci3 => ?_) (fun z => absurd C z)
              refine hY (.branch (2 * t) a (.leaf 0)) rfl _ ?_ ?_ ?_ ?_ ?_
              · rw [eu]
                exact ci3
              · exact (ag0.tr c2 (l := 0) (m := u) (Nat.le_refl _) (Nat.le_refl _) (Nat.le_refl _) (by omega)).tr agm (Nat.le_refl _) (Nat.le_refl _) (Nat.le_refl _) (by omega)
              · exact (av0.tr c3 (l := 0) (m := u) (Nat.le_refl _) (Nat.le_refl _) (Nat.le_refl _) (by omega)).tr avm (Nat.le_refl _) (Nat.le_refl _) (Nat.le_refl _) (by omega)
              · rw [eu, show u + 1 + sz T a + 1 - 1 = u + 1 + sz T a by omega]
                refine ⟨⟨?_, ?_, ?_, by omega⟩, ?_⟩
                · rw [es]
                  exact pk_us
                · rw [en]
                  exact pk_us
                · rw [ec]
                  exact pk_us
                · rw [if_neg (by omega), show 2 * t / 2 = t by omega, if_pos K2, show u + 1 + sz T a - 1 - sz T a = u by omega]
                  obtain ⟨m1, m2, m3, m4, m5⟩ := agm u (by omega) (by omega)
                  obtain ⟨l1, l2, l3, l4, l5⟩ := c2 u (by omega) (by omega)
                  exact ⟨pk_us, pk_us, CS.fr agm a _ c4 (by omega) (by omega), m1.trans (l1.trans pk_us), m2.trans (l2.trans pk_us)⟩
              · rw [eu, show u + 1 + sz T a + 1 - 1 = u + 1 + sz T a by omega]
                show (if (2 * t) % 2 = 1 then _ else if TK T (2 * t / 2) = 2 then _ else _)
                rw [if_neg (by omega), show 2 * t / 2 = t by omega, if_pos K2, show u + 1 + sz T a - 1 - sz T a = u by omega]
                exact ⟨pk_us, (avm u (by omega) (by omega)).trans ((c3 u (by omega) (by omega)).trans pk_us), CV.fr avm a _ c5 (by omega) (by omega)⟩
            · rw [ho] at he
              cases he
              refine m_take hN b1 (by omega) (by omega) (fun _ => ?_) (fun z => absurd C z)
              refine hY (.branch (2 * t) a (.leaf 0)) rfl _ q' q ⟨b1.1, rfl, hnf2.2, b1.2.2.2.1, b1.2.2.2.2.1, by have := b1.2.2.2.2.2; show q' ≤ o2.1 + 1 + 1; omega⟩ (by omega) ?_ b4 b5 (ME.fr (τ := τ') _ _ _ _ (fun _ _ _ => ⟨rfl, rfl, rfl⟩) (fun _ _ _ _ => rfl) b6)
              obtain ⟨c1, c2, c3, c4, c5⟩ := b3
              exact ⟨c1, c2, c3, c4, c5⟩
          · refine ⟨(o2.1, none), ⟨fun e he => (by cases he), by show t ≤ o2.1; omega, q3⟩, fun n hn2 σ u post h hY hF => cgo n hn2 σ u post h (fun e he σ' c1 c2 c3 c4 c5 => ?_) (fun he => by rw [ho] at he; cases he), fun n hn2 τ q post h hY hF => mgo n hn2 τ q post h (fun e he τ' q' b1 b2 b3 b4 b5 b6 => ?_) (fun he => by rw [ho] at he; cases he)⟩
            · rw [ho] at he
              cases he
              have hu := h.2.2.2.2.2.1
              have hd1 := c4.hd
              refine c_addAround (s := sz T a) (n := nI (nd T a)) (b := cl T a) c1.2.2.2.2.1 (by omega) (by omega) hd1.1 hd1.2.1 hd1.2.2.1 ?_
              rw [if_pos rfl, if_pos rfl]
              have ci2 : CI T N L t8 (σ'.1, (σ'.2.1, nMk σ'.2.2 (u + 1 + sz T a) 28 (nI (PL T (t + 1))) (nI u) (nI (sz T a + 2)) (nI (nd T a)) (bi true))) o2.1 (u + 1 + sz T a + 1) := ⟨c1.1, c1.2.1, c1.2.2.1, c1.2.2.2.1, c1.2.2.2.2.1.mk (by omega) _ _ _ _ _ _, by omega, c1.2.2.2.2.2.2⟩
              exact c_take hg.1 ci2 (by omega) (by omega) (by omega) (fun z => absurd z C) (fun _ σ3 c => hF rfl σ3 c)
            · rw [ho] at he
              cases he
              refine m_take hN b1 (by omega) (by omega) (fun z => absurd z C) (fun _ => ?_)
              refine hF rfl _ q' q (MB.of b1 (by omega)) ?_ b4 (Nat.le_refl _) b2 b5
              obtain ⟨c1, c2, c3, c4, c5⟩ := b3
              exact ⟨c1, c2, c3, c4, c5⟩
      · refine ⟨(t + 1, some (.leaf t)), ⟨fun e he => ?_, by show t ≤ t + 1; omega, hnf.2⟩, fun n hn2 σ u post h hY hF => ?_, fun n hn2 τ q post h hY hF => ?_⟩
        · cases he
          exact ⟨⟨⟨hnf.2, Or.inl K2⟩, ⟨Nat.le_refl _, by show t < t + 1; omega⟩, Nat.zero_le _, by show 2 ≤ 5 * (32 - d) + 2; omega⟩, by show t < t + 1; omega, hPL⟩
        · obtain ⟨n', rfl⟩ : ∃ n', n = n' + 1 + 1 := ⟨n - 2, by omega⟩
          obtain ⟨a1, a2, a3, a4, a5, a6, a7⟩ := id h
          refine c_un h hd 2 K2 (fun _ => ?_) (fun c => absurd c (by decide)) (fun c => absurd c nU) (fun c => absurd c (by decide)) (fun c => absurd rfl c)
          refine c_next a2 a3 a4 ?_
          obtain ⟨h', hb⟩ := h.nx hnf
          obtain ⟨b1, b2, b3, b4, b5, b6, b7⟩ := id h'
          show wp_X7_nameOrItem (wg_rd n') ((σ.1.1, (σ.1.2.1, ((σ.1.2.2.1.1, (nI (t + 1))), σ.1.2.2.2))), (σ.2.1, σ.2.2)) (nI (PL T t)) (nI d) (fun τ9 => post 0 τ9)
          unfold wp_X7_nameOrItem
          refine c_kind b2 b3 b4 ⟨fun c => absurd ((nI_eq (b := 91) (by omega) (by omega)).mp c) B, fun _ => c_nadd a5 (by omega) ?_⟩
          refine hY (.leaf t) rfl _ ⟨a1, a2, rfl, hnf.2, a5.mk (by omega) _ _ _ _ _ _, ?_, a7⟩ (AG.mk _ (Nat.le_refl u) _ _ _ _ _ _) (AV.mk _ (Nat.le_refl u) _ _ _ _ _ _) ?_ ?_
          · show u + 1 ≤ PL T (t + 1)
            omega
          · show CS T _ (.leaf t) (u + 1 - 1)
            rw [show u + 1 - 1 = u by omega]
            refine ⟨⟨pk_us, pk_us, pk_us, by show 1 ≤ u + 1; omega⟩, ?_, pk_us⟩
            rw [K2]
            exact pk_us
          · show CV T _ (.leaf t) (u + 1 - 1)
            intro z
            omega
        · obtain ⟨n', rfl⟩ : ∃ n', n = n' + 1 := ⟨n - 1, by omega⟩
          obtain ⟨a1, a2, a3, a4, a5, a6⟩ := id h
          refine m_un hN h hd 2 K2 _ rfl _ rfl (fun _ => ⟨fun _ => ?_, fun c => absurd (km.mp c) B⟩) (fun c => absurd c (by decide)) (fun c => absurd c nU) (fun c => absurd c (by decide)) (fun c => absurd rfl c) (fun _ => hnf.2)
          refine hY (.leaf t) rfl _ (q + 1) q ⟨rfl, rfl, hnf.2, a4, a5.nd 0 0, by show q + 1 ≤ t + 1 + 1; omega⟩ (by omega) ⟨rfl, rfl, rfl, rfl, rfl⟩ (mNd_hp _ (Nat.le_refl q) _ _) pk_us ⟨Nat.le_refl _, by omega, ?_, ?_, pk_us⟩
          · rw [K2]
            exact pk_us
          · show upd τ.1.1.2.2.2.1 q τ.1.1.2.1.1 q = nI t
            rw [pk_us, a2]
    · by_cases KU : isU (TK T t)
      · have KU2 : TK T t = 45 ∨ TK T t = 126 ∨ TK T t = 33 := KU
        have hnf := not_fin hg.1 ht rfl (by omega) (by omega)
        have hPL := PL_succ hnf.1
        have kuK : ku (TK T t) = if TK T t = 45 then 29 else TK T t := rfl
        have k28 : ¬ nI (ku (TK T t)) = 28 := fun z => by
          have := (nI_eq (b := 28) (by unfold ku; split <;> omega) (by omega)).mp z
          unfold ku at this
          split at this <;> omega
        obtain ⟨o1, ⟨q1, q2, q3⟩, q4, q5⟩ := hU (t + 1) hnf.2
        have hPo := PL_le T o1.1
        have cgo : ∀ n, f ≤ n → ∀ (σ : WSX7) (u : Nat) (post : Int32 → WSX7 → Prop), CI T N L t8 σ t u →
            (∀ e, o1.2 = some e → ∀ σ', CI T N L t8 σ' o1.1 (u + sz T e) → AG σ.2.2 σ'.2.2 0 u → AV σ.2.2 σ'.2.2 0 u → CS T σ'.2.2 e (u + sz T e - 1) → CV T σ'.2.2 e (u + sz T e - 1) → wp_X4_addAround σ'.2.2 (nI (ku (TK T t))) (nI (PL T t)) (-1) (fun τ23 => post 0 (σ'.1, (σ'.2.1, τ23)))) →
            (o1.2 = none → ∀ σ', CF T N L t8 σ' o1.1 → post 0 σ') → wg_rd n 9 σ [nI d] post := by
          intro n hn2 σ u post h hY hF
          obtain ⟨n', rfl⟩ : ∃ n', n = n' + 1 := ⟨n - 1, by omega⟩
          obtain ⟨a1, a2, a3, a4, a5, a6, a7⟩ := id h
          refine c_un h hd _ rfl (fun c => absurd c K2) (fun c => absurd c K3) (fun _ => ?_) (fun c => by omega) (fun _ _ c => absurd KU c)
          refine c_next a2 a3 a4 ?_
          rw [nI_1]
          refine q4 n' (by omega) _ u _ (h.nx hnf).1 (fun e he σ' c1 c2 c3 c4 c5 => hY e he σ' c1 c2 c3 c4 c5) (fun he σ' c1 => ?_)
          obtain ⟨u', hu'⟩ := c1.2.1
          exact c_addAroundG hu' (fun σ4 u4 h4 => hF he _ ⟨c1.1, ⟨u4, h4⟩, c1.2.2⟩)
        have mgo : ∀ n, g ≤ n → ∀ (τ : SX12) (q : Nat) (post : Int32 → SX12 → Prop), MI T N τ t q →
            (∀ e, o1.2 = some e → ∀ τ' q', MI T N τ' o1.1 q' → q < q' → MOF τ τ' → HP τ τ' q → τ'.1.2.1.1.1 q = -1 → ME T τ' (.branch (2 * t) e (.leaf 0)) q q' q → post (nI q) τ') →
            (o1.2 = none → ∀ τ' q', MB T N 2 τ' o1.1 q' → MOF τ τ' → HP τ τ' q → q < q' → τ'.1.2.1.1.1 q = -1 → post (nI q) τ') → wg_st n 4 τ [nI d] post := by
          intro n hn2 τ q post h hY hF
          obtain ⟨n', rfl⟩ : ∃ n', n = n' + 1 := ⟨n - 1, by omega⟩
          obtain ⟨a1, a2, a3, a4, a5, a6⟩ := id h
          refine m_un hN h hd _ rfl _ rfl _ rfl (fun c => absurd c K2) (fun c => absurd c K3) (fun _ => ?_) (fun c => by omega) (fun _ _ c => absurd KU c) (fun c => absurd c K2)
          rw [nI_1]
          refine q5 n' (by omega) _ (q + 1) _ ⟨rfl, rfl, hnf.2, a4, a5.nd 0 0, by omega⟩ (fun e he τ' q' i b1 b2 b3 b4 b5 b6 => ?_) (fun he τ' q' i b1 b2 b3 b4 b5 b6 => ?_)
          · have bi := b6.bd
            obtain ⟨p1, p2, p3, p4⟩ := b4 q (by omega)
            have fq : τ'.1.1.2.2.2.2 q = -1 := p3.trans pk_us
            have nq : τ'.1.2.1.1.1 q = -1 := p4.trans pk_us
            refine m_add0 (by omega) fq ?_
            refine hY e he _ q' ⟨b1.1, b1.2.1, b1.2.2.1, b1.2.2.2.1, b1.2.2.2.2.1, b1.2.2.2.2.2⟩ (by omega) ?_ ?_ nq ?_
            · obtain ⟨c1, c2, c3, c4, c5⟩ := b3
              exact ⟨c1, c2, c3, c4, c5⟩
            · intro j hj
              have n2 : j ≠ q := by omega
              obtain ⟨c1, c2, c3, c4⟩ := b4 j (by omega)
              exact ⟨c1.trans (pk_un n2), c2.trans (pk_un n2), (pk_un (k := q) n2).trans (c3.trans (pk_un n2)), c4.trans (pk_un n2)⟩
            · refine ⟨Nat.le_refl _, by omega, ?_⟩
              rw [if_neg (by omega), show 2 * t / 2 = t by omega, if_neg K2]
              refine ⟨?_, ?_, q + 1, q', i, by omega, Nat.le_refl _, pk_us, ?_, b5⟩
              · rw [p1]
                show upd τ.1.1.2.2.1 q _ q = _
                rw [pk_us]
                split
                · rfl
                · congr 1
                  unfold kM
                  rw [if_neg (by omega), if_neg (by omega), if_neg (by omega), if_pos (by omega)]
              · rw [p2]
                show upd τ.1.1.2.2.2.1 q τ.1.1.2.1.1 q = _
                rw [pk_us, a2]
              · exact ME.fr (τ := τ') e _ _ _ (fun j j1 j2 => ⟨rfl, rfl, pk_un (k := q) (by omega)⟩) (fun j j1 j2 j3 => rfl) b6
          · obtain ⟨p1, p2, p3, p4⟩ := b3 q (by omega)
            have fq : τ'.1.1.2.2.2.2 q = -1 := p3.trans pk_us
            have nq : τ'.1.2.1.1.1 q = -1 := p4.trans pk_us
            refine m_add0 (by omega) fq ?_
            refine hF he _ q' ⟨b1.1, b1.2.1, b1.2.2.1, b1.2.2.2.1, b1.2.2.2.2.1, b1.2.2.2.2.2⟩ ?_ ?_ (by omega) nq
            · obtain ⟨c1, c2, c3, c4, c5⟩ := b2
              exact ⟨c1, c2, c3, c4, c5⟩
            · intro j hj
              have n2 : j ≠ q := by omega
              obtain ⟨c1, c2, c3, c4⟩ := b3 j (by omega)
              exact ⟨c1.trans (pk_un n2), c2.trans (pk_un n2), (pk_un (k := q) n2).trans (c3.trans (pk_un n2)), c4.trans (pk_un n2)⟩
        cases ho : o1.2 with
        | none =>
          refine ⟨(o1.1, none), ⟨fun e he => (by cases he), by show t ≤ o1.1; omega, q3⟩, fun n hn2 σ u post h hY hF => cgo n hn2 σ u post h (fun e he => by rw [ho] at he; cases he) (fun _ σ' c => hF rfl σ' c), fun n hn2 τ q post h hY hF => mgo n hn2 τ q post h (fun e he => by rw [ho] at he; cases he) (fun _ τ' q' b1 b2 b3 b4 b5 => hF rfl τ' q' q b1 b2 b3 (Nat.le_refl _) b4 b5)⟩
        | some a =>
          obtain ⟨w2, t2, pl2⟩ := q1 a ho
          have hsa := sz_pos T a
          have es : sz T (.branch (2 * t) a (.leaf 0)) = sz T a + 1 := by
            show (if (2 * t) % 2 = 1 then _ else if TK T (2 * t / 2) = 2 then _ else _) = _
            rw [if_neg (by omega), show 2 * t / 2 = t by omega, if_neg K2]
          have en : nd T (.branch (2 * t) a (.leaf 0)) = nd T a := by
            show (if (2 * t) % 2 = 1 then _ else _) = _
            rw [if_neg (by omega)]
          have ec : cl T (.branch (2 * t) a (.leaf 0)) = cl T a := by
            show (if (2 * t) % 2 = 1 then _ else if TK T (2 * t / 2) = 2 then _ else _) = _
            rw [if_neg (by omega), show 2 * t / 2 = t by omega, if_neg K2]
          refine ⟨(o1.1, some (.branch (2 * t) a (.leaf 0))), ⟨fun e he => ?_, by show t ≤ o1.1; omega, q3⟩, fun n hn2 σ u post h hY hF => cgo n hn2 σ u post h (fun e he σ' c1 c2 c3 c4 c5 => ?_) (fun he => by rw [ho] at he; cases he), fun n hn2 τ q post h hY hF => mgo n hn2 τ q post h (fun e he τ' q' b1 b2 b3 b4 b5 b6 => ?_) (fun he => by rw [ho] at he; cases he)⟩
          · cases he
            refine ⟨⟨?_, XE.un K2 w2.2 (uh_1 hd)⟩, by show t < o1.1; omega, ?_⟩
            · show (if (2 * t) % 2 = 1 then _ else if TK T (2 * t / 2) = 2 then _ else _)
              rw [if_neg (by omega), show 2 * t / 2 = t by omega, if_neg K2]
              exact ⟨hnf.2, KU, w2.1⟩
            · rw [es]
              show _ ≤ PL T o1.1
              omega
          · rw [ho] at he
            cases he
            have hu := h.2.2.2.2.2.1
            have hd1 := c4.hd
            refine c_addAround (s := sz T a) (n := nI (nd T a)) (b := cl T a) c1.2.2.2.2.1 (by omega) (by omega) hd1.1 hd1.2.1 hd1.2.2.1 ?_
            rw [if_neg k28, if_neg k28]
            have agm := AG.mk σ'.2.2 (u := u + sz T a) (Nat.le_refl _) (nI (ku (TK T t))) (nI (PL T t)) (-1) (nI (sz T a + 1)) (nI (nd T a)) (bi (cl T a))
            have avm := AV.mk σ'.2.2 (u := u + sz T a) (Nat.le_refl _) (nI (ku (TK T t))) (nI (PL T t)) (-1) (nI (sz T a + 1)) (nI (nd T a)) (bi (cl T a))
            have eu : u + sz T (.branch (2 * t) a (.leaf 0)) = u + sz T a + 1 := by rw [es]; omega
            refine hY (.branch (2 * t) a (.leaf 0)) rfl _ ?_ ?_ ?_ ?_ ?_
            · rw [eu]
              exact ⟨c1.1, c1.2.1, c1.2.2.1, c1.2.2.2.1, c1.2.2.2.2.1.mk (by omega) _ _ _ _ _ _, by show _ ≤ PL T o1.1; omega, c1.2.2.2.2.2.2⟩
            · exact c2.tr agm (Nat.le_refl _) (Nat.le_refl _) (Nat.le_refl _) (by omega)
            · exact c3.tr avm (Nat.le_refl _) (Nat.le_refl _) (Nat.le_refl _) (by omega)
            · rw [eu, show u + sz T a + 1 - 1 = u + sz T a by omega]
              refine ⟨⟨?_, ?_, ?_, by omega⟩, ?_⟩
              · rw [es]
                exact pk_us
              · rw [en]
                exact pk_us
              · rw [ec]
                exact pk_us
              · rw [if_neg (by omega), show 2 * t / 2 = t by omega, if_neg K2]
                exact ⟨pk_us, pk_us, CS.fr agm a _ c4 (by omega) (by omega)⟩
            · rw [eu, show u + sz T a + 1 - 1 = u + sz T a by omega]
              show (if (2 * t) % 2 = 1 then _ else if TK T (2 * t / 2) = 2 then _ else _)
              rw [if_neg (by omega), show 2 * t / 2 = t by omega, if_neg K2]
              exact CV.fr avm a _ c5 (by omega) (by omega)
          · rw [ho] at he
            cases he
            exact hY (.branch (2 * t) a (.leaf 0)) rfl τ' q' q b1 (by omega) b3 b4 b5 b6
      · by_cases K40 : TK T t = 40
        · have hnf := not_fin hg.1 ht K40 (by omega) (by omega)
          have hPL := PL_succ hnf.1
          obtain ⟨o2, ⟨q1, q2, q3⟩, q4, q5⟩ := hQ (t + 1) hnf.2
          have hPo := PL_le T o2.1
          have cgo : ∀ n, f ≤ n → ∀ (σ : WSX7) (u : Nat) (post : Int32 → WSX7 → Prop), CI T N L t8 σ t u →
              (∀ e, o2.2 = some e → ∀ σ', CI T N L t8 σ' o2.1 (u + sz T e) → AG σ.2.2 σ'.2.2 0 u → AV σ.2.2 σ'.2.2 0 u → CS T σ'.2.2 e (u + sz T e - 1) → CV T σ'.2.2 e (u + sz T e - 1) → wp_X7_take σ' (nI 41) (fun r30 τ31 => post 0 τ31)) →
              (o2.2 = none → ∀ σ', CF T N L t8 σ' o2.1 → post 0 σ') → wg_rd n 9 σ [nI d] post := by
            intro n hn2 σ u post h hY hF
            obtain ⟨n', rfl⟩ : ∃ n', n = n' + 1 := ⟨n - 1, by omega⟩
            obtain ⟨a1, a2, a3, a4, a5, a6, a7⟩ := id h
            refine c_un h hd _ rfl (fun c => absurd c K2) (fun c => absurd c K3) (fun c => absurd c KU) (fun _ => ?_) (fun _ _ _ c => absurd K40 c)
            refine c_next a2 a3 a4 ?_
            rw [nI_1]
            refine q4 n' (by omega) _ u _ (h.nx hnf).1 (fun e he σ' c1 c2 c3 c4 c5 => hY e he σ' c1 c2 c3 c4 c5) (fun he σ' c1 => c_takeF c1 hn (hF he _ c1))
          have mgo : ∀ n, g ≤ n → ∀ (τ : SX12) (q : Nat) (post : Int32 → SX12 → Prop), MI T N τ t q →
              (∀ e, o2.2 = some e → ∀ τ' q' i, MI T N τ' o2.1 q' → q < q' → MOF τ τ' → HP τ τ' q → τ'.1.2.1.1.1 i = -1 → ME T τ' e q q' i → wp_X12_take τ' (nI (kM 41)) (fun r12 τ13 => post (nI i) τ13)) →
              (o2.2 = none → ∀ τ' q' i, MB T N 2 τ' o2.1 q' → MOF τ τ' → HP τ τ' q → q ≤ i → i < q' → τ'.1.2.1.1.1 i = -1 → post (nI i) τ') → wg_st n 4 τ [nI d] post := by
            intro n hn2 τ q post h hY hF
            obtain ⟨n', rfl⟩ : ∃ n', n = n' + 1 := ⟨n - 1, by omega⟩
            obtain ⟨a1, a2, a3, a4, a5, a6⟩ := id h
            refine m_un hN h hd _ rfl _ rfl _ rfl (fun c => absurd c K2) (fun c => absurd c K3) (fun c => absurd c KU) (fun _ => ?_) (fun _ _ _ c => absurd K40 c) (fun c => absurd c K2)
            rw [nI_1]
            have hp0 : ∀ τ', HP (((((mNd (((τ.1.1.1, ((τ.1.1.2.1.1, (0, τ.1.1.2.1.2.2)), τ.1.1.2.2)), τ.1.2), τ.2) q (if TK T t = 45 then 304 else nI (kM (TK T t))) τ.1.1.2.1.1).1.1.1, (((nI (t + 1)), (mNd (((τ.1.1.1, ((τ.1.1.2.1.1, (0, τ.1.1.2.1.2.2)), τ.1.1.2.2)), τ.1.2), τ.2) q (if TK T t = 45 then 304 else nI (kM (TK T t))) τ.1.1.2.1.1).1.1.2.1.2), (mNd (((τ.1.1.1, ((τ.1.1.2.1.1, (0, τ.1.1.2.1.2.2)), τ.1.1.2.2)), τ.1.2), τ.2) q (if TK T t = 45 then 304 else nI (kM (TK T t))) τ.1.1.2.1.1).1.1.2.2)), (mNd (((τ.1.1.1, ((τ.1.1.2.1.1, (0, τ.1.1.2.1.2.2)), τ.1.1.2.2)), τ.1.2), τ.2) q (if TK T t = 45 then 304 else nI (kM (TK T t))) τ.1.1.2.1.1).1.2), (mNd (((τ.1.1.1, ((τ.1.1.2.1.1, (0, τ.1.1.2.1.2.2)), τ.1.1.2.2)), τ.1.2), τ.2) q (if TK T t = 45 then 304 else nI (kM (TK T t))) τ.1.1.2.1.1).2)) τ' (q + 1) → HP τ τ' q := by
              intro τ' b4 j hj
              have n2 : j ≠ q := by omega
              obtain ⟨c1, c2, c3, c4⟩ := b4 j (by omega)
              exact ⟨c1.trans (pk_un n2), c2.trans (pk_un n2), c3.trans (pk_un n2), c4.trans (pk_un n2)⟩
            refine q5 n' (by omega) _ (q + 1) _ ⟨rfl, rfl, hnf.2, a4, a5.nd 0 0, by omega⟩ (fun e he τ' q' i b1 b2 b3 b4 b5 b6 => ?_) (fun he τ' q' i b1 b2 b3 b4 b5 b6 => ?_)
            · have bi := b6.bd
              refine hY e he τ' q' i b1 (by omega) ?_ (hp0 τ' b4) b5 (b6.wd (by omega) (Nat.le_refl _))
              obtain ⟨c1, c2, c3, c4, c5⟩ := b3
              exact ⟨c1, c2, c3, c4, c5⟩
            · refine m_takeB b1 (hF he τ' q' i b1 ?_ (hp0 τ' b3) (by omega) b5 b6)
              obtain ⟨c1, c2, c3, c4, c5⟩ := b2
              exact ⟨c1, c2, c3, c4, c5⟩
          cases ho : o2.2 with
          | none =>
            refine ⟨(o2.1, none), ⟨fun e he => (by cases he), by show t ≤ o2.1; omega, q3⟩, fun n hn2 σ u post h hY hF => cgo n hn2 σ u post h (fun e he => by rw [ho] at he; cases he) (fun _ σ' c => hF rfl σ' c), fun n hn2 τ q post h hY hF => mgo n hn2 τ q post h (fun e he => by rw [ho] at he; cases he) (fun _ τ' q' i b1 b2 b3 b4 b5 b6 => hF rfl τ' q' i b1 b2 b3 b4 b5 b6)⟩
          | some a =>
            obtain ⟨w2, t2, pl2⟩ := q1 a ho
            by_cases C : TK T o2.1 = 41
            · have hnf2 := not_fin hg.1 q3 C (by omega) (by omega)
              have hPL2 := PL_succ hnf2.1
              refine ⟨(o2.1 + 1, some a), ⟨fun e he => ?_, by show t ≤ o2.1 + 1; omega, hnf2.2⟩, fun n hn2 σ u post h hY hF => cgo n hn2 σ u post h (fun e he σ' c1 c2 c3 c4 c5 => ?_) (fun he => by rw [ho] at he; cases he), fun n hn2 τ q post h hY hF => mgo n hn2 τ q post h (fun e he τ' q' i b1 b2 b3 b4 b5 b6 => ?_) (fun he => by rw [ho] at he; cases he)⟩
              · cases he
                exact ⟨⟨w2.1, w2.2.mono (by omega) (by show o2.1 ≤ o2.1 + 1; omega) (uh_3 hd)⟩, by show t < o2.1 + 1; omega, by show _ ≤ PL T (o2.1 + 1); omega⟩
              · rw [ho] at he
                cases he
                exact c_take hg.1 c1 (by omega) (by omega) (by omega) (fun _ z1 z2 z3 ci3 => hY a rfl _ ci3 c2 c3 c4 c5) (fun z => absurd C z)
              · rw [ho] at he
                cases he
                refine m_take hN b1 (by omega) (by omega) (fun _ => ?_) (fun z => absurd C z)
                refine hY a rfl _ q' i ⟨b1.1, rfl, hnf2.2, b1.2.2.2.1, b1.2.2.2.2.1, by have := b1.2.2.2.2.2; show q' ≤ o2.1 + 1 + 1; omega⟩ (by omega) ?_ b4 b5 (ME.fr (τ := τ') _ _ _ _ (fun _ _ _ => ⟨rfl, rfl, rfl⟩) (fun _ _ _ _ => rfl) b6)
                obtain ⟨c1, c2, c3, c4, c5⟩ := b3
                exact ⟨c1, c2, c3, c4, c5⟩
            · refine ⟨(o2.1, none), ⟨fun e he => (by cases he), by show t ≤ o2.1; omega, q3⟩, fun n hn2 σ u post h hY hF => cgo n hn2 σ u post h (fun e he σ' c1 c2 c3 c4 c5 => ?_) (fun he => by rw [ho] at he; cases he), fun n hn2 τ q post h hY hF => mgo n hn2 τ q post h (fun e he τ' q' i b1 b2 b3 b4 b5 b6 => ?_) (fun he => by rw [ho] at he; cases he)⟩
              · exact c_take hg.1 c1 (by omega) (by omega) (by omega) (fun z => absurd z C) (fun _ σ3 c => hF rfl σ3 c)
              · have bi := b6.bd
                refine m_take hN b1 (by omega) (by omega) (fun z => absurd z C) (fun _ => ?_)
                refine hF rfl _ q' i (MB.of b1 (by omega)) ?_ b4 (by omega) (by omega) b5
                obtain ⟨c1, c2, c3, c4, c5⟩ := b3
                exact ⟨c1, c2, c3, c4, c5⟩
        · refine ⟨(t, none), ⟨fun e he => (by cases he), Nat.le_refl _, ht⟩, fun n hn2 σ u post h hY hF => ?_, fun n hn2 τ q post h hY hF => ?_⟩
          · obtain ⟨n', rfl⟩ : ∃ n', n = n' + 1 := ⟨n - 1, by omega⟩
            exact c_un h hd _ rfl (fun c => absurd c K2) (fun c => absurd c K3) (fun c => absurd c KU) (fun c => absurd c K40) (fun _ _ _ _ => c_fail h (fun σ' c => hF rfl σ' c))
          · obtain ⟨n', rfl⟩ : ∃ n', n = n' + 1 := ⟨n - 1, by omega⟩
            obtain ⟨a1, a2, a3, a4, a5, a6⟩ := id h
            refine m_un hN h hd _ rfl _ rfl _ rfl (fun c => absurd c K2) (fun c => absurd c K3) (fun c => absurd c KU) (fun c => absurd c K40) (fun _ _ _ _ => ?_) (fun c => absurd c K2)
            refine hF rfl _ (q + 1) q ⟨rfl, a2, a3, a4, a5.nd 0 0, by show q + 1 ≤ t + 2; omega⟩ ⟨rfl, rfl, rfl, rfl, rfl⟩ (mNd_hp _ (Nat.le_refl q) _ _) (Nat.le_refl _) (by omega) pk_us
theorem uu_all {T : TX} {N L : Nat} {t8 : SX8} (hg : GL T N L) : ∀ k d, d + k = 32 → UU T N L t8 d (6 * k + 2) (6 * k + 2) := by
  intro k
  induction k using Nat.strongRecOn with
  | ind k ih =>
    intro d hd
    by_cases hk : k < 2
    · intro t ht
      obtain ⟨o, h1, h2, h3⟩ := uu_deep (d := d) (t8 := t8) hg (by omega) (by omega) t ht
      exact ⟨o, h1, fun n hn => h2 n (by omega), fun n hn => h3 n (by omega)⟩
    · have hU1 := ih (k - 1) (by omega) (d + 1) (by omega)
      by_cases hd31 : d + 1 ≤ 30
      · have hU2 := ih (k - 2) (by omega) (d + 1 + 1) (by omega)
        have hQ := qq_of hg hd31 hU2
        exact uu_of hg (by omega) hU1 hQ (by omega) (by omega) (by omega) (by omega)
      · have hQ := qq_deep (d := d + 1) (t8 := t8) hg (by omega) (by omega)
        exact uu_of hg (by omega) hU1 hQ (by omega) (by omega) (by omega) (by omega)
theorem qq_all {T : TX} {N L : Nat} {t8 : SX8} (hg : GL T N L) {d : Nat} (hd : d ≤ 32) : QQ T N L t8 d 210 210 := by
  intro t ht
  by_cases h : d ≤ 30
  · obtain ⟨o, h1, h2, h3⟩ := qq_of hg h (uu_all (t8 := t8) hg (31 - d) (d + 1) (by omega)) t ht
    exact ⟨o, h1, fun n hn => h2 n (by omega), fun n hn => h3 n (by omega)⟩
  · obtain ⟨o, h1, h2, h3⟩ := qq_deep (t8 := t8) hg (d := d) (by omega) (by omega) t ht
    exact ⟨o, h1, fun n hn => h2 n (by omega), fun n hn => h3 n (by omega)⟩
end Unary3
