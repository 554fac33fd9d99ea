section Block
def MBk (T : TX) (N : Nat) (xs : List Int32) (t : Nat) (o : RO) (n : Nat) : Prop :=
  ∀ (τ : SX12) (q : Nat) (post : Int32 → SX12 → Prop), MI T N τ t q →
    (∀ e, o.2 = some e → ∀ τ' q', MI T N τ' o.1 q' → q < q' → MOF τ τ' → HP τ τ' q → τ'.1.2.1.1.1 q = -1 → MS T τ' e 0 (q + 1) q' (τ'.1.1.2.2.2.2 q) → post (nI q) τ') →
    (o.2 = none → ∀ τ' q', MB T N 3 τ' o.1 q' → MOF τ τ' → HP τ τ' q → q < q' → τ'.1.2.1.1.1 q = -1 → post (nI q) τ') → wg_st n 1 τ xs post
/-- a BLOCK in d others -/
def BB (T : TX) (N L : Nat) (t8 : SX8) (d f g : Nat) : Prop := ∀ t, t < N → ∃ o : RO, ((∀ e, o.2 = some e → (WFS T N e 0 ∧ XS T e 0 (t + 1) (o.1 - 1) (30 - d) ∧ d ≤ 30) ∧ t < o.1 ∧ PL T t + szS T e 0 + 2 ≤ PL T o.1) ∧ t ≤ o.1 ∧ o.1 < N) ∧ (∀ n, f ≤ n → CSt T N L t8 0 6 [nI d] t o n) ∧ (∀ n, g ≤ n → MBk T N [nI d] t o n)
theorem bb_deep {T : TX} {N L : Nat} {t8 : SX8} {d : Nat} (hg : GL T N L) (hd : 30 < d) (hd2 : d < 1000) : BB T N L t8 d 1 1 := by
  have hn := hg.2.1
  have hN : N ≤ 3001 := by have := hg.1.2.1; omega
  have nle : ¬ nI d ≤ 30 := fun c => by have := (nI_leI (b := 30) (by omega) (by omega)).mp c; omega
  intro t ht
  refine ⟨(t, none), ⟨fun e he => (by cases he), Nat.le_refl _, ht⟩, fun n hn2 σ u post h hY hF => ?_, fun n hn2 τ q post h hY hF => ?_⟩
  · obtain ⟨n', rfl⟩ : ∃ n', n = n' + 1 := ⟨n - 1, by omega⟩
    refine ⟨fun c => absurd c nle, fun _ => c_fail h (fun σ' b => ?_)⟩
    exact c_takeF b hn ⟨fun _ => hF rfl σ' b, fun c => absurd rfl c⟩
  · obtain ⟨n', rfl⟩ : ∃ n', n = n' + 1 := ⟨n - 1, by omega⟩
    obtain ⟨a1, a2, a3, a4, a5, a6⟩ := id h
    have n10 : ¬ (1 : Int32) = 0 := by decide
    refine ⟨fun c => absurd a1 c, fun _ => ⟨fun c => absurd c nle, fun _ => ⟨bz1, ?_⟩⟩⟩
    have h' : MB T N 1 (((τ.1.1.1, ((τ.1.1.2.1.1, (1, τ.1.1.2.1.2.2)), τ.1.1.2.2)), τ.1.2), τ.2) t q := MB.of h (Nat.le_refl _)
    refine m_takeB h' (m_node a5 (by omega) ⟨1, ⟨fun _ => ?_, fun c => absurd c n10⟩⟩)
    have h2 : MB T N 3 (mNd (((τ.1.1.1, ((τ.1.1.2.1.1, (1, τ.1.1.2.1.2.2)), τ.1.1.2.2)), τ.1.2), τ.2) q 302 (nI t)) t (q + 1) := ⟨rfl, a2, a3, a4, a5.nd 0 0, by omega⟩
    refine m_takeB h2 ?_
    exact hF rfl _ (q + 1) h2 ⟨rfl, rfl, rfl, rfl, rfl⟩ (mNd_hp (((τ.1.1.1, ((τ.1.1.2.1.1, (1, τ.1.1.2.1.2.2)), τ.1.1.2.2)), τ.1.2), τ.2) (Nat.le_refl q) _ _) (by omega) pk_us
theorem bb_of {T : TX} {N L : Nat} {t8 : SX8} {d f g : Nat} (hg : GL T N L) (hd : d ≤ 30) (hS : SS T N L t8 (d + 1) f g) : BB T N L t8 d (f + 2) (g + 1) := by
  have hn := hg.2.1
  have hN : N ≤ 3001 := by have := hg.1.2.1; omega
  have le : nI d ≤ 30 := nI_le (b := 30) hd (by omega)
  intro t ht
  by_cases C : TK T t = 123
  · have hnf := not_fin hg.1 ht C (by omega) (by omega)
    have hPL := PL_succ hnf.1
    obtain ⟨o1, ⟨q1, q2, q3⟩, q4, q5⟩ := stmts hg hS N (t + 1) (by omega) hnf.2
    have hkr := TK_r T o1.1
    have cgo : ∀ n, f + 2 ≤ n → ∀ (σ : WSX7) (u : Nat) (post : Int32 → WSX7 → Prop), CI T N L t8 σ t u →
        (∀ e, o1.2 = some e → ∀ σ', CI T N L t8 σ' o1.1 (u + szS T e 0) → AG σ.2.2 σ'.2.2 0 u → AV σ.2.2 σ'.2.2 0 u → CB T σ'.2.2 e 0 u → CW T σ'.2.2 e 0 u → wp_X7_take σ' (nI 125) (fun r5 τ6 => post 0 τ6)) →
        (o1.2 = none → ∀ σ', CF T N L t8 σ' o1.1 → post 0 σ') → wg_rd n 6 σ [nI d] post := by
      intro n hn2 σ u post h hY hF
      obtain ⟨n', rfl⟩ : ∃ n', n = n' + 1 + 1 := ⟨n - 2, by omega⟩
      refine ⟨fun _ => ?_, fun c => absurd le c⟩
      refine c_take hg.1 h (k := 123) (by omega) (by omega) (by omega) (fun _ z1 z2 z3 ci => ⟨fun c => absurd c (by decide), fun _ => ?_⟩) (fun z => absurd C z)
      show wg_rd (n' + 1) 0 _ [nI d + 1] _
      rw [nI_1]
      refine ⟨N + 1, ?_⟩
      exact q4 n' (by omega) (N + 1) 0 (by omega) (by omega) _ u _ ci (fun e he σ' c1 c2 c3 c4 c5 => hY e he σ' c1 c2 c3 c4 c5) (fun he σ' c1 => c_takeF c1 hn (hF he σ' c1))
    have mgo : ∀ n, g + 1 ≤ n → ∀ (τ : SX12) (q : Nat) (post : Int32 → SX12 → Prop), MI T N τ t q →
        (∀ e, o1.2 = some e → TK T o1.1 = 125 → ∀ τ' q', MI T N τ' o1.1 q' → q < q' → MOF τ τ' → HP τ τ' q → τ'.1.2.1.1.1 q = -1 → MS T τ' e 0 (q + 1) q' (τ'.1.1.2.2.2.2 q) → wp_X12_take τ' (nI (kM 125)) (fun r5 τ6 => post (nI q) τ6)) →
        (o1.2 = none ∨ ¬ TK T o1.1 = 125 → ∀ τ' q', MB T N 3 τ' o1.1 q' → MOF τ τ' → HP τ τ' q → q < q' → τ'.1.2.1.1.1 q = -1 → post (nI q) τ') → wg_st n 1 τ [nI d] post := by
      intro n hn2 τ q post h hY hF
      obtain ⟨n', rfl⟩ : ∃ n', n = n' + 1 := ⟨n - 1, by omega⟩
      obtain ⟨a1, a2, a3, a4, a5, a6⟩ := id h
      refine ⟨fun c => absurd a1 c, fun _ => ⟨fun _ => ⟨bz0, ?_⟩, fun c => absurd le c⟩⟩
      have h0 : MI T N (((τ.1.1.1, ((τ.1.1.2.1.1, (0, τ.1.1.2.1.2.2)), τ.1.1.2.2)), τ.1.2), τ.2) t q := ⟨rfl, a2, a3, a4, a5, a6⟩
      refine m_take (k := 123) hN h0 (by omega) (by omega) (fun _ => ?_) (fun z => absurd C z)
      refine m_node a5 (by omega) ⟨N + 1, ?_⟩
      have lp : LoopM T N q (d + 1) n' (fun k => k = 125) (fun τ2 => wp_X12_block_72 (wg_st n') post τ2 (nI q)) (fun M τ2 => wp_X12_block_36 (wg_st n') post M τ2 (nI d) (nI q)) := by
        refine ⟨fun M τ2 t2 q2 hm hs hf => ?_, fun M τ2 t2 q2 hm hs hf => ?_, fun M τ2 t2 q2 hm hf => ?_⟩
        · obtain ⟨m1, m2, m3, m4, m5, m6⟩ := hm
          refine ⟨fun c => absurd m1 c, fun _ => ?_⟩
          show vp_in τ2.1.1.2.1.1 3002 ∧ ((τ2.1.1.1.2.1 (τ2.1.1.2.1.1).toNatClampNeg = 125 → _) ∧ (¬ τ2.1.1.1.2.1 (τ2.1.1.2.1.1).toNatClampNeg = 125 → _))
          rw [m2, nI_clamp (by omega), m_tok m4 m3]
          exact ⟨in_k (by omega) (by omega), fun _ => hf, fun c => absurd (by rw [show TK T t2 = 125 from hs]; rfl) c⟩
        · obtain ⟨m1, m2, m3, m4, m5, m6⟩ := hm
          refine ⟨fun c => absurd m1 c, fun _ => ?_⟩
          show vp_in τ2.1.1.2.1.1 3002 ∧ ((τ2.1.1.1.2.1 (τ2.1.1.2.1.1).toNatClampNeg = 125 → _) ∧ (¬ τ2.1.1.1.2.1 (τ2.1.1.2.1.1).toNatClampNeg = 125 → _))
          rw [m2, nI_clamp (by omega), m_tok m4 m3]
          refine ⟨in_k (by omega) (by omega), fun c => absurd (kM_inj (b := 125) (TK_r T t2).1 (TK_r T t2).2 (by omega) (by omega) c) hs, fun _ => ?_⟩
          show wg_st n' 0 τ2 [nI d + 1] _
          rw [nI_1]
          exact hf
        · exact ⟨fun _ => hf, fun c => absurd (hm.1.symm.trans c) (by decide)⟩
      have spq : ∀ τ', SP ((((mNd (((τ.1.1.1, (((nI (t + 1)), (0, τ.1.1.2.1.2.2)), τ.1.1.2.2)), τ.1.2), τ.2) q 302 (nI t)).1.1.1, (((mNd (((τ.1.1.1, (((nI (t + 1)), (0, τ.1.1.2.1.2.2)), τ.1.1.2.2)), τ.1.2), τ.2) q 302 (nI t)).1.1.2.1.1, (0, (mNd (((τ.1.1.1, (((nI (t + 1)), (0, τ.1.1.2.1.2.2)), τ.1.1.2.2)), τ.1.2), τ.2) q 302 (nI t)).1.1.2.1.2.2)), (mNd (((τ.1.1.1, (((nI (t + 1)), (0, τ.1.1.2.1.2.2)), τ.1.1.2.2)), τ.1.2), τ.2) q 302 (nI t)).1.1.2.2)), (mNd (((τ.1.1.1, (((nI (t + 1)), (0, τ.1.1.2.1.2.2)), τ.1.1.2.2)), τ.1.2), τ.2) q 302 (nI t)).1.2), (mNd (((τ.1.1.1, (((nI (t + 1)), (0, τ.1.1.2.1.2.2)), τ.1.1.2.2)), τ.1.2), τ.2) q 302 (nI t)).2) τ' (q + 1) q none → HP τ τ' q ∧ τ'.1.2.1.1.1 q = -1 := by
        intro τ' hsp
        refine ⟨fun j hj => ?_, ?_⟩
        · have ne : j ≠ q := by omega
          obtain ⟨x1, x2, x3, x4⟩ := hsp j (by omega)
          exact ⟨x1.trans (pk_un ne), x2.trans (pk_un ne), (x3 (fun z => ne z.2)).trans (pk_un ne), (x4 (by simp)).trans (pk_un ne)⟩
        · exact ((hsp q (by omega)).2.2.2 (by simp)).trans pk_us
      refine q5 n' (by omega) q (fun k => k = 125) _ _ (fun k hk => Or.inl hk) lp (N + 1) (by omega) _ (q + 1) none ⟨rfl, rfl, hnf.2, a4, a5.nd 0 0, by omega⟩ (by omega) pk_us (fun e he hs τ' q' x b1 b2 b3 b4 b5 b6 => ?_) (fun he τ' q' b1 b2 b3 b4 => ?_)
      · obtain ⟨s1, s2⟩ := spq τ' b4
        have b5' : τ'.1.1.2.2.2.2 q = x := b5
        exact hY e he hs τ' q' b1 (by omega) ⟨b3.1, b3.2.1, b3.2.2.1, b3.2.2.2.1, b3.2.2.2.2⟩ s1 s2 (by rw [b5']; exact b6)
      · obtain ⟨s1, s2⟩ := spq τ' b4
        exact m_takeB b1 (hF he τ' q' b1 ⟨b3.1, b3.2.1, b3.2.2.1, b3.2.2.2.1, b3.2.2.2.2⟩ s1 (by omega) s2)
    cases ho : o1.2 with
    | none =>
      exact ⟨(o1.1, none), ⟨fun e he => (by cases he), by show t ≤ o1.1; omega, q3⟩, fun n hn2 σ u post h hY hF => cgo n hn2 σ u post h (fun e he => by rw [ho] at he; cases he) (fun _ σ' c => hF rfl σ' c), fun n hn2 τ q post h hY hF => mgo n hn2 τ q post h (fun e he => by rw [ho] at he; cases he) (fun _ τ' q' b1 b2 b3 b4 b5 => hF rfl τ' q' b1 b2 b3 b4 b5)⟩
    | some a =>
      obtain ⟨w2, pl2, hst⟩ := q1 a ho
      by_cases D : TK T o1.1 = 125
      · have hnf2 := not_fin hg.1 q3 D (by omega) (by omega)
        have hPL2 := PL_succ hnf2.1
        refine ⟨(o1.1 + 1, some a), ⟨fun e he => ?_, by show t ≤ o1.1 + 1; omega, hnf2.2⟩, fun n hn2 σ u post h hY hF => cgo n hn2 σ u post h (fun e he σ' c1 c2 c3 c4 c5 => ?_) (fun he => by rw [ho] at he; cases he), fun n hn2 τ q post h hY hF => mgo n hn2 τ q post h (fun e he _ τ' q' b1 b2 b3 b4 b5 b6 => ?_) (fun he => he.elim (fun z => by rw [ho] at z; cases z) (fun z => absurd D z))⟩
        · cases he
          exact ⟨⟨w2.1, by show XS T a 0 (t + 1) (o1.1 + 1 - 1) (30 - d); rw [show o1.1 + 1 - 1 = o1.1 by omega, show 30 - d = 31 - (d + 1) by omega]; exact w2.2, hd⟩, by show t < o1.1 + 1; omega, by show _ ≤ PL T (o1.1 + 1); omega⟩
        · rw [ho] at he
          cases he
          exact c_take hg.1 c1 (by omega) (by omega) (by omega) (fun _ z1 z2 z3 ci => hY a rfl _ ci c2 c3 c4 c5) (fun z => absurd D z)
        · rw [ho] at he
          cases he
          have hq := b1.2.2.2.2.2
          refine m_take hN b1 (by omega) (by omega) (fun _ => ?_) (fun z => absurd D z)
          refine hY a rfl _ q' ⟨b1.1, rfl, hnf2.2, b1.2.2.2.1, b1.2.2.2.2.1, by show q' ≤ o1.1 + 1 + 1; omega⟩ b2 ⟨b3.1, b3.2.1, b3.2.2.1, b3.2.2.2.1, b3.2.2.2.2⟩ b4 b5 ?_
          exact MS.fr (τ := τ') a 0 _ _ _ (by omega) (fun _ _ _ => ⟨rfl, rfl, rfl⟩) (fun _ _ _ _ => rfl) b6
      · refine ⟨(o1.1, none), ⟨fun e he => (by cases he), by show t ≤ o1.1; omega, q3⟩, fun n hn2 σ u post h hY hF => cgo n hn2 σ u post h (fun e he σ' c1 c2 c3 c4 c5 => ?_) (fun he => by rw [ho] at he; cases he), fun n hn2 τ q post h hY hF => mgo n hn2 τ q post h (fun e he z => absurd z D) (fun _ τ' q' b1 b2 b3 b4 b5 => hF rfl τ' q' b1 b2 b3 b4 b5)⟩
        exact c_take hg.1 c1 (by omega) (by omega) (by omega) (fun z => absurd z D) (fun _ σ3 c => hF rfl σ3 c)
  · refine ⟨(t, none), ⟨fun e he => (by cases he), Nat.le_refl _, ht⟩, fun n hn2 σ u post h hY hF => ?_, fun n hn2 τ q post h hY hF => ?_⟩
    · obtain ⟨n', rfl⟩ : ∃ n', n = n' + 1 := ⟨n - 1, by omega⟩
      refine ⟨fun _ => ?_, fun c => absurd le c⟩
      exact c_take hg.1 h (k := 123) (by omega) (by omega) (by omega) (fun z => absurd z C) (fun _ σ' c => ⟨fun _ => hF rfl σ' c, fun c => absurd rfl c⟩)
    · obtain ⟨n', rfl⟩ : ∃ n', n = n' + 1 := ⟨n - 1, by omega⟩
      obtain ⟨a1, a2, a3, a4, a5, a6⟩ := id h
      have n10 : ¬ (1 : Int32) = 0 := by decide
      refine ⟨fun c => absurd a1 c, fun _ => ⟨fun _ => ⟨bz0, ?_⟩, fun c => absurd le c⟩⟩
      have h0 : MI T N (((τ.1.1.1, ((τ.1.1.2.1.1, (0, τ.1.1.2.1.2.2)), τ.1.1.2.2)), τ.1.2), τ.2) t q := ⟨rfl, a2, a3, a4, a5, a6⟩
      refine m_take (k := 123) hN h0 (by omega) (by omega) (fun z => absurd z C) (fun _ => ?_)
      refine m_node a5 (by omega) ⟨1, ⟨fun _ => ?_, fun c => absurd c n10⟩⟩
      have h2 : MB T N 3 (mNd (((τ.1.1.1, ((τ.1.1.2.1.1, (1, τ.1.1.2.1.2.2)), τ.1.1.2.2)), τ.1.2), τ.2) q 302 (nI t)) t (q + 1) := ⟨rfl, a2, a3, a4, a5.nd 0 0, by omega⟩
      refine m_takeB h2 ?_
      exact hF rfl _ (q + 1) h2 ⟨rfl, rfl, rfl, rfl, rfl⟩ (mNd_hp (((τ.1.1.1, ((τ.1.1.2.1.1, (1, τ.1.1.2.1.2.2)), τ.1.1.2.2)), τ.1.2), τ.2) (Nat.le_refl q) _ _) (by omega) pk_us
end Block
