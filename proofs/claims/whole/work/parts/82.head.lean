section Head
abbrev RO2 : Type := Nat × Option (Tr × Tr)
/-- ( EXPR ) BLOCK -/
theorem head {T : TX} {N L : Nat} {t8 : SX8} {d f g : Nat} (hg : GL T N L) (hd : d ≤ 32) (hB : BB T N L t8 d f g) : ∀ t, t < N → ∃ o : RO2, ((∀ e b, o.2 = some (e, b) → (WF T N e ∧ WFS T N b 0 ∧ ∃ t1, XE T e (t + 1) t1 hX ∧ XS T b 0 (t1 + 2) (o.1 - 1) (30 - d) ∧ d ≤ 30) ∧ t < o.1 ∧ PL T t + sz T e + szS T b 0 + 4 ≤ PL T o.1) ∧ t ≤ o.1 ∧ o.1 < N) ∧
    (∀ n, 210 ≤ n → f ≤ n → ∀ (σ : WSX7) (u p : Nat) (kk v : Int32) (K : Int32 → WSX7 → Prop) (post : WSX7 → Prop), CI T N L t8 σ t u →
      (∀ e b, o.2 = some (e, b) → ∀ σ', CI T N L t8 σ' o.1 (u + sz T e + 1 + szS T b 0) → AG σ.2.2 σ'.2.2 0 u → AV σ.2.2 σ'.2.2 0 u → CS T σ'.2.2 e (u + sz T e - 1) → CV T σ'.2.2 e (u + sz T e - 1) → nv σ'.2.2 (u + sz T e) kk p v → CB T σ'.2.2 b 0 (u + sz T e + 1) → CW T σ'.2.2 b 0 (u + sz T e + 1) → K (nI (u + sz T e)) σ') →
      (o.2 = none → ∀ r σ', CF T N L t8 σ' o.1 → K r σ') → (o.2 = none → ∀ σ', CF T N L t8 σ' o.1 → post σ') →
      wp_X7_take σ (nI 40) (fun r7 τ8 => ((¬ r7 = 0 → wg_rd n 7 τ8 [nI d] (fun _ τ10 => wp_X4_add τ10.2.2 kk (nI p) v (fun r11 τ12 => wp_X7_take (τ10.1, (τ10.2.1, τ12)) (nI 41) (fun r13 τ14 => ((¬ r13 = 0 → wg_rd n 6 τ14 [nI d] (fun _ τ16 => K r11 τ16)) ∧ (r13 = 0 → post τ14)))))) ∧ (r7 = 0 → post τ8)))) ∧
    (∀ n, 210 ≤ n → g ≤ n → ∀ (τ : SX12) (q s : Nat) (K : SX12 → Prop), MI T N τ t q → s < q → τ.1.1.2.2.2.2 s = -1 →
      (∀ e b, o.2 = some (e, b) → ∀ τ' q' y h z, MI T N τ' o.1 q' → MOF τ τ' → SP τ τ' q s none → τ'.1.1.2.2.2.2 s = nI y → ME T τ' e q h y → τ'.1.2.1.1.1 y = nI z → h ≤ z → z < q' → MS T τ' b 0 (z + 1) q' (τ'.1.1.2.2.2.2 z) → τ'.1.2.1.1.1 z = -1 → K τ') →
      (o.2 = none → ∀ τ' q', MB T N 3 τ' o.1 q' → q ≤ q' → MOF τ τ' → SP τ τ' q s none → K τ') →
      wp_X12_take τ (nI (kM 40)) (fun r5 τ6 => wg_st n 2 τ6 [nI d] (fun r7 τ8 => wp_X12_add τ8 (nI s) r7 (fun τ10 => wp_X12_take τ10 (nI (kM 41)) (fun r11 τ12 => wg_st n 1 τ12 [nI d] (fun r13 τ14 => wp_X12_add τ14 (nI s) r13 (fun τ16 => K τ16))))))) := by
  have hn := hg.2.1
  have hN : N ≤ 3001 := by have := hg.1.2.1; omega
  have hL := hg.2.2.1
  -- the reference's end where it is bad already behind the EXPR's node y
  have mbad : ∀ n, 210 ≤ n → ∀ (τ τ1 : SX12) (q q1 s y t1 k : Nat) (K : SX12 → Prop), k ≤ 2 → MB T N k τ1 t1 q1 → s < q → q ≤ y → y < q1 → MOF τ τ1 → SP τ τ1 q s none → τ1.1.1.2.2.2.2 s = nI y → τ1.1.2.1.1.1 y = -1 →
      (∀ τ' q', MB T N 3 τ' t1 q' → q ≤ q' → MOF τ τ' → SP τ τ' q s none → K τ') →
      wg_st n 1 τ1 [nI d] (fun r13 τ14 => wp_X12_add τ14 (nI s) r13 (fun τ16 => K τ16)) := by
    intro n hn2 τ τ1 q q1 s y t1 k K hk hmb hs hy hy1 hof hsp hfs hny hK
    obtain ⟨n', rfl⟩ : ∃ n', n = n' + 1 := ⟨n - 1, by omega⟩
    have hq1 := hmb.2.2.2.2.2
    have ht1 := hmb.2.2.1
    refine m_blockB hmb (by omega) (fun τ' c1 c2 c3 c4 => ?_)
    refine m_addC (c := y) (l := []) (by omega) ((c3 s (by omega)).2.2.1.trans hfs) (by omega) ((c3 y (by omega)).2.2.2.trans hny) ?_
    refine hK _ (q1 + 1) ⟨c1.1, c1.2.1, c1.2.2.1, c1.2.2.2.1, c1.2.2.2.2.1, by have := c1.2.2.2.2.2; omega⟩ (by omega) (hof.tr ⟨c2.1, c2.2.1, c2.2.2.1, c2.2.2.2.1, c2.2.2.2.2⟩) (fun j hj => ?_)
    obtain ⟨x1, x2, x3, x4⟩ := hsp j hj
    obtain ⟨z1, z2, z3, z4⟩ := c3 j (by omega)
    exact ⟨z1.trans x1, z2.trans x2, fun c => z3.trans (x3 c), fun c => (pk_un (k := y) (by omega)).trans (z4.trans (x4 c))⟩
  intro t ht
  by_cases A : TK T t = 40
  · have hnf := not_fin hg.1 ht A (by omega) (by omega)
    have hPL := PL_succ hnf.1
    obtain ⟨o1, ⟨q1, q2, q3⟩, q4, q5⟩ := qq_all (t8 := t8) hg hd (t + 1) hnf.2
    have hPo := PL_le T o1.1
    have cgo : ∀ n, 210 ≤ n → ∀ (σ : WSX7) (u p : Nat) (kk v : Int32) (K : Int32 → WSX7 → Prop) (post : WSX7 → Prop), CI T N L t8 σ t u →
        (∀ e, o1.2 = some e → ∀ σ', CI T N L t8 σ' o1.1 (u + sz T e + 1) → AG σ.2.2 σ'.2.2 0 u → AV σ.2.2 σ'.2.2 0 u → CS T σ'.2.2 e (u + sz T e - 1) → CV T σ'.2.2 e (u + sz T e - 1) → nv σ'.2.2 (u + sz T e) kk p v → wp_X7_take σ' (nI 41) (fun r13 τ14 => ((¬ r13 = 0 → wg_rd n 6 τ14 [nI d] (fun _ τ16 => K (nI (u + sz T e)) τ16)) ∧ (r13 = 0 → post τ14)))) →
        (o1.2 = none → ∀ σ', CF T N L t8 σ' o1.1 → post σ') →
        wp_X7_take σ (nI 40) (fun r7 τ8 => ((¬ r7 = 0 → wg_rd n 7 τ8 [nI d] (fun _ τ10 => wp_X4_add τ10.2.2 kk (nI p) v (fun r11 τ12 => wp_X7_take (τ10.1, (τ10.2.1, τ12)) (nI 41) (fun r13 τ14 => ((¬ r13 = 0 → wg_rd n 6 τ14 [nI d] (fun _ τ16 => K r11 τ16)) ∧ (r13 = 0 → post τ14)))))) ∧ (r7 = 0 → post τ8))) := by
      intro n hn2 σ u p kk v K post h hY hF
      have hu := h.2.2.2.2.2.1
      refine c_take hg.1 h (by omega) (by omega) (by omega) (fun _ z1 z2 z3 ci => ⟨fun _ => ?_, fun c => absurd c (by decide)⟩) (fun z => absurd A z)
      refine q4 n hn2 _ u _ ci (fun e he σ' c1 c2 c3 c4 c5 => ?_) (fun he σ' c1 => ?_)
      · obtain ⟨_, _, pl2⟩ := q1 e he
        have hse := sz_pos T e
        refine c_nadd c1.2.2.2.2.1 (by omega) ?_
        have agm := AG.mk σ'.2.2 (u := u + sz T e) (Nat.le_refl _) kk (nI p) v 1 1 0
        have avm := AV.mk σ'.2.2 (u := u + sz T e) (Nat.le_refl _) kk (nI p) v 1 1 0
        exact hY e he (σ'.1, (σ'.2.1, nMk σ'.2.2 (u + sz T e) kk (nI p) v 1 1 0)) ⟨c1.1, c1.2.1, c1.2.2.1, c1.2.2.2.1, c1.2.2.2.2.1.mk (by omega) _ _ _ _ _ _, by omega, c1.2.2.2.2.2.2⟩ (c2.tr agm (Nat.le_refl _) (Nat.le_refl _) (Nat.le_refl _) (by omega)) (c3.tr avm (Nat.le_refl _) (Nat.le_refl _) (Nat.le_refl _) (by omega)) (CS.fr agm e _ c4 (by omega) (by omega)) (CV.fr avm e _ c5 (by omega) (by omega)) ⟨pk_us, pk_us, pk_us⟩
      · obtain ⟨u', hu'⟩ := c1.2.1
        refine c_naddG hu' (fun r σ4 u4 h4 _ => ?_)
        have cf : CF T N L t8 (σ'.1, (σ'.2.1, σ4)) o1.1 := ⟨c1.1, ⟨u4, h4⟩, c1.2.2⟩
        exact c_takeF cf hn ⟨fun c => absurd rfl c, fun _ => hF he _ cf⟩
    have mgo : ∀ n, 210 ≤ n → ∀ (τ : SX12) (q s : Nat) (K : SX12 → Prop), MI T N τ t q → s < q → τ.1.1.2.2.2.2 s = -1 →
        (∀ e, o1.2 = some e → ∀ τ' q' y, MI T N τ' o1.1 q' → q ≤ q' → MOF τ τ' → SP τ τ' q s none → τ'.1.1.2.2.2.2 s = nI y → ME T τ' e q q' y → τ'.1.2.1.1.1 y = -1 → wp_X12_take τ' (nI (kM 41)) (fun r11 τ12 => wg_st n 1 τ12 [nI d] (fun r13 τ14 => wp_X12_add τ14 (nI s) r13 (fun τ16 => K τ16)))) →
        (o1.2 = none → ∀ τ' q', MB T N 3 τ' o1.1 q' → q ≤ q' → MOF τ τ' → SP τ τ' q s none → K τ') →
        wp_X12_take τ (nI (kM 40)) (fun r5 τ6 => wg_st n 2 τ6 [nI d] (fun r7 τ8 => wp_X12_add τ8 (nI s) r7 (fun τ10 => wp_X12_take τ10 (nI (kM 41)) (fun r11 τ12 => wg_st n 1 τ12 [nI d] (fun r13 τ14 => wp_X12_add τ14 (nI s) r13 (fun τ16 => K τ16)))))) := by
      intro n hn2 τ q s K h hs hfs hY hF
      obtain ⟨a1, a2, a3, a4, a5, a6⟩ := id h
      refine m_take hN h (by omega) (by omega) (fun _ => ?_) (fun z => absurd A z)
      refine q5 n hn2 _ q _ ⟨a1, rfl, hnf.2, a4, a5, by omega⟩ (fun e he τ' q' i b1 b2 b3 b4 b5 b6 => ?_) (fun he τ' q' i b1 b2 b3 b4 b5 b6 => ?_)
      · have bi := b6.bd
        refine m_add0 (by omega) ((b4 s hs).2.2.1.trans hfs) ?_
        refine hY e he _ q' i ⟨b1.1, b1.2.1, b1.2.2.1, b1.2.2.2.1, b1.2.2.2.2.1, b1.2.2.2.2.2⟩ (by omega) ⟨b3.1, b3.2.1, b3.2.2.1, b3.2.2.2.1, b3.2.2.2.2⟩ (fun j hj => ?_) pk_us ?_ b5
        · obtain ⟨x1, x2, x3, x4⟩ := b4 j hj
          exact ⟨x1, x2, fun c => (pk_un (fun e => c ⟨rfl, e⟩)).trans x3, fun _ => x4⟩
        · exact ME.fr (τ := τ') e _ _ _ (fun j j1 j2 => ⟨rfl, rfl, pk_un (k := s) (by omega)⟩) (fun j j1 j2 j3 => rfl) b6
      · have hqb := b1.2.2.2.2.2
        refine m_add0 (by omega) ((b3 s hs).2.2.1.trans hfs) ?_
        have hb2 : MB T N 2 (((τ'.1.1.1, (τ'.1.1.2.1, (τ'.1.1.2.2.1, (τ'.1.1.2.2.2.1, (upd τ'.1.1.2.2.2.2 s (nI i)))))), τ'.1.2), τ'.2) o1.1 q' := b1
        refine m_takeB hb2 (mbad n hn2 τ _ q q' s i o1.1 2 K (by omega) hb2 hs b4 b5 ⟨b2.1, b2.2.1, b2.2.2.1, b2.2.2.2.1, b2.2.2.2.2⟩ (fun j hj => ?_) pk_us b6 (fun τ3 q3 d1 d2 d3 d4 => hF he τ3 q3 d1 d2 d3 d4))
        obtain ⟨x1, x2, x3, x4⟩ := b3 j hj
        exact ⟨x1, x2, fun c => (pk_un (fun e => c ⟨rfl, e⟩)).trans x3, fun _ => x4⟩
    cases ho : o1.2 with
    | none =>
      exact ⟨(o1.1, none), ⟨fun e b he => (by cases he), by show t ≤ o1.1; omega, q3⟩, fun n hn2 hn3 σ u p kk v K post h hY hKF hF => cgo n hn2 σ u p kk v K post h (fun e he => by rw [ho] at he; cases he) (fun _ σ' c => hF rfl σ' c), fun n hn2 hn3 τ q s K h hs hfs hY hF => mgo n hn2 τ q s K h hs hfs (fun e he => by rw [ho] at he; cases he) (fun _ τ' q' b1 b2 b3 b4 => hF rfl τ' q' b1 b2 b3 b4)⟩
    | some e =>
      obtain ⟨w1, t1, p1⟩ := q1 e ho
      have hse := sz_pos T e
      by_cases C : TK T o1.1 = 41
      · have hnf2 := not_fin hg.1 q3 C (by omega) (by omega)
        have hPL2 := PL_succ hnf2.1
        obtain ⟨o2, ⟨r1, r2, r3⟩, r4, r5⟩ := hB (o1.1 + 1) hnf2.2
        refine ⟨(o2.1, o2.2.map (fun b => (e, b))), ⟨fun e' b he => ?_, by show t ≤ o2.1; omega, r3⟩, fun n hn2 hn3 σ u p kk v K post h hY hKF hF => cgo n hn2 σ u p kk v K post h (fun e' he σ' c1 c2 c3 c4 c5 c6 => ?_) (fun he => by rw [ho] at he; cases he), fun n hn2 hn3 τ q s K h hs hfs hY hF => mgo n hn2 τ q s K h hs hfs (fun e' he τ' q' y b1 b2 b3 b4 b5 b6 b7 => ?_) (fun he => by rw [ho] at he; cases he)⟩
        · cases h2 : o2.2 with
          | none =>
            rw [h2] at he
            cases he
          | some b2 =>
            rw [h2] at he
            cases he
            obtain ⟨z1, z2, z3⟩ := r1 b h2
            exact ⟨⟨w1.1, z1.1, o1.1, w1.2.mono (Nat.le_refl _) (Nat.le_refl _) (uh_le d), z1.2.1, z1.2.2⟩, by show t < o2.1; omega, by show _ ≤ PL T o2.1; omega⟩
        · rw [ho] at he
          cases he
          refine c_take hg.1 c1 (by omega) (by omega) (by omega) (fun _ z1 z2 z3 ci => ⟨fun _ => ?_, fun c => absurd c (by decide)⟩) (fun z => absurd C z)
          refine r4 n hn3 _ (u + sz T e + 1) _ ci (fun b hb σ3 d1 d2 d3 d4 d5 => ?_) (fun hb σ3 d1 => hKF (by rw [hb]; rfl) _ σ3 d1)
          exact hY e b (by rw [hb]; rfl) σ3 d1 (c2.tr d2 (Nat.le_refl _) (Nat.le_refl _) (Nat.le_refl _) (by omega)) (c3.tr d3 (Nat.le_refl _) (Nat.le_refl _) (Nat.le_refl _) (by omega)) (CS.fr d2 e _ c4 (by omega) (by omega)) (CV.fr d3 e _ c5 (by omega) (by omega)) (c6.fr d2 d3 (by omega) (by omega)) d4 d5
        · rw [ho] at he
          cases he
          have bi := b6.bd
          have hq7 := b1.2.2.2.2.2
          refine m_take hN b1 (by omega) (by omega) (fun _ => ?_) (fun z => absurd C z)
          refine r5 n hn3 _ q' _ ⟨b1.1, rfl, hnf2.2, b1.2.2.2.1, b1.2.2.2.2.1, by omega⟩ (fun b hb τ3 q3' d1 d2 d3 d4 d5 d6 => ?_) (fun hb τ3 q3' d1 d2 d3 d4 d5 => ?_)
          · have hq8 := d1.2.2.2.2.2
            have fs : τ3.1.1.2.2.2.2 s = nI y := (d4 s (by omega)).2.2.1.trans b5
            have ny : τ3.1.2.1.1.1 y = -1 := (d4 y (by omega)).2.2.2.trans b7
            refine m_addC (c := y) (l := []) (by omega) fs (by omega) ny ?_
            refine hY e b (by rw [hb]; rfl) _ q3' y q' q' ⟨d1.1, d1.2.1, d1.2.2.1, d1.2.2.2.1, d1.2.2.2.2.1, d1.2.2.2.2.2⟩ (b3.tr ⟨d3.1, d3.2.1, d3.2.2.1, d3.2.2.2.1, d3.2.2.2.2⟩) (fun j hj => ?_) fs ?_ pk_us (Nat.le_refl _) d2 ?_ ((pk_un (k := y) (by omega)).trans d5)
            · obtain ⟨x1, x2, x3, x4⟩ := b4 j hj
              obtain ⟨z1, z2, z3, z4⟩ := d4 j (by omega)
              exact ⟨z1.trans x1, z2.trans x2, fun c => z3.trans (x3 c), fun c => (pk_un (k := y) (by omega)).trans (z4.trans (x4 c))⟩
            · refine ME.fr (τ := τ') e q q' y (fun j j1 j2 => ?_) (fun j j1 j2 j3 => ?_) b6
              · obtain ⟨z1, z2, z3, z4⟩ := d4 j (by omega)
                exact ⟨z1, z2, z3⟩
              · exact (pk_un (k := y) j3).trans (d4 j (by omega)).2.2.2
            · exact MS.fr (τ := τ3) b 0 _ _ _ (by omega) (fun _ _ _ => ⟨rfl, rfl, rfl⟩) (fun j j1 j2 _ => pk_un (k := y) (by omega)) d6
          · have hq8 := d1.2.2.2.2.2
            have fs : τ3.1.1.2.2.2.2 s = nI y := (d3 s (by omega)).2.2.1.trans b5
            have ny : τ3.1.2.1.1.1 y = -1 := (d3 y (by omega)).2.2.2.trans b7
            refine m_addC (c := y) (l := []) (by omega) fs (by omega) ny ?_
            refine hF (by rw [hb]; rfl) _ q3' ⟨d1.1, d1.2.1, d1.2.2.1, d1.2.2.2.1, d1.2.2.2.2.1, d1.2.2.2.2.2⟩ (by omega) (b3.tr ⟨d2.1, d2.2.1, d2.2.2.1, d2.2.2.2.1, d2.2.2.2.2⟩) (fun j hj => ?_)
            obtain ⟨x1, x2, x3, x4⟩ := b4 j hj
            obtain ⟨z1, z2, z3, z4⟩ := d3 j (by omega)
            exact ⟨z1.trans x1, z2.trans x2, fun c => z3.trans (x3 c), fun c => (pk_un (k := y) (by omega)).trans (z4.trans (x4 c))⟩
      · refine ⟨(o1.1, none), ⟨fun e b he => (by cases he), by show t ≤ o1.1; omega, q3⟩, fun n hn2 hn3 σ u p kk v K post h hY hKF hF => cgo n hn2 σ u p kk v K post h (fun e' he σ' c1 c2 c3 c4 c5 c6 => ?_) (fun he => by rw [ho] at he; cases he), fun n hn2 hn3 τ q s K h hs hfs hY hF => mgo n hn2 τ q s K h hs hfs (fun e' he τ' q' y b1 b2 b3 b4 b5 b6 b7 => ?_) (fun he => by rw [ho] at he; cases he)⟩
        · exact c_take hg.1 c1 (by omega) (by omega) (by omega) (fun z => absurd z C) (fun _ σ3 c => ⟨fun c2 => absurd rfl c2, fun _ => hF rfl σ3 c⟩)
        · have bi := b6.bd
          refine m_take hN b1 (by omega) (by omega) (fun z => absurd z C) (fun _ => ?_)
          have hb2 : MB T N 2 (((τ'.1.1.1, ((τ'.1.1.2.1.1, (1, τ'.1.1.2.1.2.2)), τ'.1.1.2.2)), τ'.1.2), τ'.2) o1.1 q' := MB.of b1 (by omega)
          exact mbad n hn2 τ _ q q' s y o1.1 2 K (by omega) hb2 hs (by omega) (by omega) ⟨b3.1, b3.2.1, b3.2.2.1, b3.2.2.2.1, b3.2.2.2.2⟩ b4 b5 b7 (fun τ3 q3 d1 d2 d3 d4 => hF rfl τ3 q3 d1 d2 d3 d4)
  · refine ⟨(t, none), ⟨fun e b he => (by cases he), Nat.le_refl _, ht⟩, fun n hn2 hn3 σ u p kk v K post h hY hKF hF => ?_, fun n hn2 hn3 τ q s K h hs hfs hY hF => ?_⟩
    · exact c_take hg.1 h (k := 40) (by omega) (by omega) (by omega) (fun z => absurd z A) (fun _ σ' c => ⟨fun c2 => absurd rfl c2, fun _ => hF rfl σ' c⟩)
    · obtain ⟨n', rfl⟩ : ∃ n', n = n' + 2 := ⟨n - 2, by omega⟩
      have hq6 := h.2.2.2.2.2
      refine m_take (k := 40) hN h (by omega) (by omega) (fun z => absurd z A) (fun _ => ?_)
      have hb : MB T N 1 (((τ.1.1.1, ((τ.1.1.2.1.1, (1, τ.1.1.2.1.2.2)), τ.1.1.2.2)), τ.1.2), τ.2) t q := MB.of h (Nat.le_refl _)
      refine m_exprB hb (by omega) (fun τ' c1 c2 c3 c4 => ?_)
      refine m_add0 (by omega) ((c3 s (by omega)).2.2.1.trans hfs) ?_
      have hb2 : MB T N 2 (((τ'.1.1.1, (τ'.1.1.2.1, (τ'.1.1.2.2.1, (τ'.1.1.2.2.2.1, (upd τ'.1.1.2.2.2.2 s (nI q)))))), τ'.1.2), τ'.2) t (q + 1) := c1
      refine m_takeB hb2 (mbad (n' + 2) hn2 τ _ q (q + 1) s q t 2 K (by omega) hb2 hs (Nat.le_refl _) (by omega) ⟨c2.1, c2.2.1, c2.2.2.1, c2.2.2.2.1, c2.2.2.2.2⟩ (fun j hj => ?_) pk_us c4 (fun τ3 q3 d1 d2 d3 d4 => hF rfl τ3 q3 d1 d2 d3 d4))
      obtain ⟨x1, x2, x3, x4⟩ := c3 j hj
      exact ⟨x1, x2, fun c => (pk_un (fun e => c ⟨rfl, e⟩)).trans x3, fun _ => x4⟩
end Head
