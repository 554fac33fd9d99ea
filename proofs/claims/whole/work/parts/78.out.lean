section Out
theorem eqW_len {k : Nat} {T : TX} {p len : Nat} (h : eqW k T p len = true) : len = aw_lenS.getD k 0 := by
  unfold eqW at h
  split at h
  · assumption
  · exact absurd h (by decide)
theorem wK_len {T : TX} {p len : Nat} (h : ¬ wK T p len = 2) : 2 ≤ len := by
  unfold wK at h
  repeat' split at h
  all_goals first
    | (rename_i q; have := eqW_len q; simp [aw_lenS] at this; omega)
    | exact absurd rfl h
theorem LN_word {T : TX} {t : Nat} (h : 4 ≤ TK T t) (h2 : TK T t ≤ 10) : PL T t + 2 ≤ PL T (t + 1) := by
  have h3 := PL_next T t
  have : 2 ≤ LN T t := by
    unfold TK at h h2
    unfold LN
    by_cases hlt : PL T t < T.2
    · cases e1 : isLet (T.1 (PL T t)) with
      | true =>
        obtain ⟨k1, k2, _⟩ := kdA_let hlt e1
        rw [k2]
        rw [k1] at h h2
        split at h
        · rename_i q
          rw [if_pos q] at h2
          exact wK_len (T := T) (p := PL T t) (by omega)
        · omega
      | false =>
        cases e2 : isDig (T.1 (PL T t)) with
        | true =>
          rw [(kdA_dig hlt e2).1] at h
          split at h <;> omega
        | false =>
          rw [(kdA_sg hlt e1 e2).1] at h h2
          unfold sgK at h h2
          have := lsK_r (T.1 (PL T t)) (bt T (PL T t + 1))
          split at h
          · rename_i q
            rw [if_pos q] at h2
            split at h
            · rename_i q2
              have := sgn_r q2
              rw [if_pos q2] at h2
              omega
            · omega
          · rename_i q
            rw [if_neg q] at h2
            omega
    · rw [(kdA_end hlt).1] at h
      omega
  omega
/-- the reference's statement of a kind that is none of NAME -/
theorem m_st {T : TX} {N : Nat} {t q d n : Nat} {τ : SX12} {post : Int32 → SX12 → Prop} (hN : N ≤ 3001) (h : MI T N τ t q) (K : Nat) (hk : TK T t = K) (hK : ¬ K = 2) (τ1 : SX12) (e1 : τ1 = mNd τ q (nI (kM K)) τ.1.1.2.1.1)
    (h7 : K = 7 → wg_st n 2 (((τ1.1.1.1, (((nI (t + 1)), τ1.1.1.2.1.2), τ1.1.1.2.2)), τ1.1.2), τ1.2) [nI d] (fun r28 τ29 => wp_X12_add τ29 (nI q) r28 (fun τ31 => wp_X12_take τ31 (59 : Int32) (fun r32 τ33 => post (nI q) τ33))))
    (h8 : K = 8 ∨ K = 10 → wp_X12_statement_186 (wg_st n) post τ1 (nI d) (nI (kM K)) (nI q))
    (hE : ¬ K = 7 → ¬ K = 8 → ¬ K = 10 → post (nI q) (((τ1.1.1.1, ((τ1.1.1.2.1.1, (1, τ1.1.1.2.1.2.2)), τ1.1.1.2.2)), τ1.1.2), τ1.2)) : wg_st (n + 1) 0 τ [nI d] post := by
  have hr := TK_r T t
  rw [hk] at hr
  obtain ⟨a1, a2, a3, a4, a5, a6⟩ := id h
  have eq : ∀ b : Nat, (b ≤ 131 ∧ (b ≤ 10 ∨ 33 ≤ b)) → (nI (kM K) = nI (kM b) ↔ K = b) := fun b hb => ⟨fun z => kM_inj hr.1 hr.2 hb.1 hb.2 z, fun z => by rw [z]⟩
  have k1 : (nI (kM K) = (1 : Int32)) ↔ K = 2 := eq 2 (by omega)
  have k6 : (nI (kM K) = (6 : Int32)) ↔ K = 7 := eq 7 (by omega)
  have k7 : (nI (kM K) = (7 : Int32)) ↔ K = 8 := eq 8 (by omega)
  have k9 : (nI (kM K) = (9 : Int32)) ↔ K = 10 := eq 10 (by omega)
  show wp_X12_statement (wg_st n) τ (nI d) post
  unfold wp_X12_statement
  rw [a2, nI_clamp (by omega), m_tok a4 a3, hk]
  refine ⟨in_k (by omega) (by omega), fun y ey => ⟨fun _ => ?_, fun c => absurd (k1.mp (ey ▸ c)) hK⟩⟩
  unfold wp_X12_statement_23
  rw [ey]
  refine m_node a5 (by omega) ?_
  rw [← e1]
  have n1 : ¬ nI (kM K) = 1 := fun c => hK (k1.mp c)
  refine ⟨fun _ => ⟨fun c6 => ⟨fun c => h8 (Or.inl (k7.mp c)), fun c7 => ⟨fun c9 => hE (fun z => c6 (k6.mpr z)) (fun z => c7 (k7.mpr z)) (fun z => c9 (k9.mpr z)), fun c => h8 (Or.inr (k9.mp c))⟩⟩, fun c y2 ey2 => ?_⟩, fun c => absurd c n1⟩
  have ey2 : y2 = nI (t + 1) := by
    rw [ey2, e1]
    show τ.1.1.2.1.1 + 1 = _
    rw [a2, nI_1]
  rw [ey2]
  exact h7 (k6.mp c)
theorem out_stmt {T : TX} {N L : Nat} {t8 : SX8} {d : Nat} (hg : GL T N L) (hd : d ≤ 32) {t : Nat} (ht : t < N) (K : TK T t = 7) : ∃ o, GoodS T N t o 1 (31 - d) ∧ (∀ n, 210 ≤ n → CSt T N L t8 1 5 [nI d] t o (n + 1)) ∧ (∀ n, 210 ≤ n → MSt T N [nI d] t o (n + 1)) := by
  have hn := hg.2.1
  have hN : N ≤ 3001 := by have := hg.1.2.1; omega
  have hL := hg.2.2.1
  have hnf := not_fin hg.1 ht K (by omega) (by omega)
  have hPL := PL_succ hnf.1
  obtain ⟨o2, ⟨q1, q2, q3⟩, q4, q5⟩ := qq_all (t8 := t8) hg hd (t + 1) hnf.2
  have hPo := PL_le T o2.1
  have hPn := PL_le T (t + 1)
  have cgo : ∀ n, 210 ≤ n → ∀ (σ : WSX7) (u : Nat) (post : Int32 → WSX7 → Prop), CI T N L t8 σ t u →
      (∀ e, o2.2 = some e → ∀ σ', CI T N L t8 σ' o2.1 (u + 1 + sz T e) → AG (nAdd σ.2.2 u 25 (nI (PL T t)) (-1)) σ'.2.2 0 (u + 1) → AV (nAdd σ.2.2 u 25 (nI (PL T t)) (-1)) σ'.2.2 0 (u + 1) → CS T σ'.2.2 e (u + 1 + sz T e - 1) → CV T σ'.2.2 e (u + 1 + sz T e - 1) → wp_X4_add σ'.2.2 26 (nI (PL T t)) (-1) (fun r9 τ10 => wp_X7_take (σ'.1, (σ'.2.1, τ10)) (nI 59) (fun r11 τ12 => post 0 τ12))) →
      (o2.2 = none → ∀ σ', CF T N L t8 σ' o2.1 → post 0 σ') → wg_rd (n + 1) 5 σ [nI d] post := by
    intro n hn2 σ u post h hY hF
    obtain ⟨a1, a2, a3, a4, a5, a6, a7⟩ := id h
    show wp_X7_outStatement (wg_rd n) σ (nI d) (post 0)
    unfold wp_X7_outStatement
    refine c_place a2 a3 a4 (c_nadd a5 (by omega) (c_next a2 a3 a4 ?_))
    refine q4 n hn2 _ (u + 1) _ ⟨a1, a2, rfl, hnf.2, a5.mk (by omega) _ _ _ _ _ _, by omega, a7⟩ (fun e he σ' c1 c2 c3 c4 c5 => hY e he σ' c1 c2 c3 c4 c5) (fun he σ' c1 => ?_)
    obtain ⟨u', hu'⟩ := c1.2.1
    refine c_naddG hu' (fun r σ4 u4 h4 _ => ?_)
    have cf : CF T N L t8 (σ'.1, (σ'.2.1, σ4)) o2.1 := ⟨c1.1, ⟨u4, h4⟩, c1.2.2⟩
    exact c_takeF cf hn (hF he _ cf)
  have mgo : ∀ n, 210 ≤ n → ∀ (τ : SX12) (q : Nat) (post : Int32 → SX12 → Prop), MI T N τ t q →
      (∀ e, o2.2 = some e → ∀ τ' q' i, MI T N τ' o2.1 q' → MOF τ τ' → HP τ τ' q → τ'.1.2.1.1.1 q = -1 → τ'.1.1.2.2.1 q = 6 → τ'.1.1.2.2.2.1 q = nI t → τ'.1.1.2.2.2.2 q = nI i → ME T τ' e (q + 1) q' i → τ'.1.2.1.1.1 i = -1 → wp_X12_take τ' (nI (kM 59)) (fun r32 τ33 => post (nI q) τ33)) →
      (o2.2 = none → ∀ τ' q', MB T N 3 τ' o2.1 q' → q < q' → MOF τ τ' → HP τ τ' q → τ'.1.2.1.1.1 q = -1 → post (nI q) τ') → wg_st (n + 1) 0 τ [nI d] post := by
    intro n hn2 τ q post h hY hF
    obtain ⟨a1, a2, a3, a4, a5, a6⟩ := id h
    refine m_st hN h 7 K (by omega) _ rfl (fun _ => ?_) (fun c => absurd c (by omega)) (fun c => absurd rfl c)
    have low : ∀ (τ' : SX12) (z : Int32), HP (((((mNd τ q (nI (kM 7)) τ.1.1.2.1.1).1.1.1, (((nI (t + 1)), (mNd τ q (nI (kM 7)) τ.1.1.2.1.1).1.1.2.1.2), (mNd τ q (nI (kM 7)) τ.1.1.2.1.1).1.1.2.2)), (mNd τ q (nI (kM 7)) τ.1.1.2.1.1).1.2), (mNd τ q (nI (kM 7)) τ.1.1.2.1.1).2)) τ' (q + 1) → HP τ (((τ'.1.1.1, (τ'.1.1.2.1, (τ'.1.1.2.2.1, (τ'.1.1.2.2.2.1, (upd τ'.1.1.2.2.2.2 q z))))), τ'.1.2), τ'.2) q ∧ τ'.1.2.1.1.1 q = -1 ∧ τ'.1.1.2.2.1 q = 6 ∧ τ'.1.1.2.2.2.1 q = nI t ∧ τ'.1.1.2.2.2.2 q = -1 := by
      intro τ' z b4
      obtain ⟨p1, p2, p3, p4⟩ := b4 q (by omega)
      refine ⟨fun j hj => ?_, p4.trans pk_us, p1.trans pk_us, ?_, p3.trans pk_us⟩
      · have n2 : j ≠ q := by omega
        obtain ⟨c1, c2, c3, c4⟩ := b4 j (by omega)
        exact ⟨c1.trans (pk_un n2), c2.trans (pk_un n2), (pk_un (k := q) n2).trans (c3.trans (pk_un n2)), c4.trans (pk_un n2)⟩
      · rw [p2]
        show upd τ.1.1.2.2.2.1 q τ.1.1.2.1.1 q = _
        rw [pk_us, a2]
    refine q5 n hn2 _ (q + 1) _ ⟨a1, rfl, hnf.2, a4, a5.nd 0 0, by omega⟩ (fun e he τ' q' i b1 b2 b3 b4 b5 b6 => ?_) (fun he τ' q' i b1 b2 b3 b4 b5 b6 => ?_)
    · have bi := b6.bd
      obtain ⟨l1, l2, l3, l4, l5⟩ := low τ' (nI i) b4
      refine m_add0 (by omega) l5 ?_
      refine hY e he _ q' i ⟨b1.1, b1.2.1, b1.2.2.1, b1.2.2.2.1, b1.2.2.2.2.1, b1.2.2.2.2.2⟩ ⟨b3.1, b3.2.1, b3.2.2.1, b3.2.2.2.1, b3.2.2.2.2⟩ l1 l2 l3 l4 pk_us ?_ b5
      exact ME.fr (τ := τ') e _ _ _ (fun j j1 j2 => ⟨rfl, rfl, pk_un (k := q) (by omega)⟩) (fun j j1 j2 j3 => rfl) b6
    · obtain ⟨l1, l2, l3, l4, l5⟩ := low τ' (nI i) b3
      refine m_add0 (by omega) l5 ?_
      have hqb := b1.2.2.2.2.2
      have hb : MB T N 3 (((τ'.1.1.1, (τ'.1.1.2.1, (τ'.1.1.2.2.1, (τ'.1.1.2.2.2.1, (upd τ'.1.1.2.2.2.2 q (nI i)))))), τ'.1.2), τ'.2) o2.1 q' := ⟨b1.1, b1.2.1, b1.2.2.1, b1.2.2.2.1, b1.2.2.2.2.1, by omega⟩
      exact m_takeB hb (hF he _ q' hb (by omega) ⟨b2.1, b2.2.1, b2.2.2.1, b2.2.2.2.1, b2.2.2.2.2⟩ l1 l2)
  cases ho : o2.2 with
  | none =>
    exact ⟨(o2.1, none), ⟨fun e he => (by cases he), by show t ≤ o2.1; omega, q3⟩, fun n hn2 σ u post h hY hF => cgo n hn2 σ u post h (fun e he => by rw [ho] at he; cases he) (fun _ σ' c => hF rfl σ' c), fun n hn2 τ q post h hY hF => mgo n hn2 τ q post h (fun e he => by rw [ho] at he; cases he) (fun _ τ' q' b1 b2 b3 b4 b5 => hF rfl τ' q' q b1 b3 b4 (Nat.le_refl _) b2 b5)⟩
  | some a =>
    obtain ⟨w2, t2, pl2⟩ := q1 a ho
    have hsa := sz_pos T a
    have d8 : (8 * t + 2) / 8 = t := by omega
    have es : szS T (.branch (8 * t + 2) a (.leaf 0)) 1 = sz T a + 2 := by
      show (if 1 = 0 then _ else if 1 = 1 then (if (8 * t + 2) % 8 = 0 then _ else if (8 * t + 2) % 8 = 1 then _ else if (8 * t + 2) % 8 = 2 then _ else _) else _) = _
      rw [if_neg (by omega), if_pos rfl, if_neg (by omega), if_neg (by omega), if_pos (by omega)]
    have hW := LN_word (T := T) (t := t) (by omega) (by omega)
    have cst : ∀ (σ' : WSX7) (u : Nat), u ≤ PL T t → CI T N L t8 σ' o2.1 (u + 1 + sz T a) → CI T N L t8 (σ'.1, (σ'.2.1, nMk σ'.2.2 (u + 1 + sz T a) 26 (nI (PL T t)) (-1) 1 1 0)) o2.1 (u + 1 + sz T a + 1) := by
      intro σ' u hu c1
      exact ⟨c1.1, c1.2.1, c1.2.2.1, c1.2.2.2.1, c1.2.2.2.2.1.mk (by omega) _ _ _ _ _ _, by omega, c1.2.2.2.2.2.2⟩
    by_cases C : TK T o2.1 = 59
    · have hnf2 := not_fin hg.1 q3 C (by omega) (by omega)
      have hPL2 := PL_succ hnf2.1
      refine ⟨(o2.1 + 1, some (.branch (8 * t + 2) a (.leaf 0))), ⟨fun e he => ?_, by show t ≤ o2.1 + 1; omega, hnf2.2⟩, fun n hn2 σ u post h hY hF => cgo n hn2 σ u post h (fun e he σ' c1 c2 c3 c4 c5 => ?_) (fun he => by rw [ho] at he; cases he), fun n hn2 τ q post h hY hF => mgo n hn2 τ q post h (fun e he τ' q' i b1 b2 b3 b4 b5 b6 b7 b8 b9 => ?_) (fun he => by rw [ho] at he; cases he)⟩
      · cases he
        refine ⟨⟨?_, ?_⟩, by show t < o2.1 + 1; omega, by rw [es]; show _ ≤ PL T (o2.1 + 1); omega⟩
        · show (if 1 = 0 then _ else if 1 = 1 then _ ∧ (if (8 * t + 2) % 8 = 0 then _ else if (8 * t + 2) % 8 = 1 then _ else if (8 * t + 2) % 8 = 2 then _ else _) else _)
          rw [if_neg (by omega), if_pos rfl, if_neg (by omega), if_neg (by omega), if_pos (by omega), d8]
          exact ⟨hnf.2, K, w2.1⟩
        · show (if 1 = 0 then _ else if 1 = 1 then _ ∧ (if (8 * t + 2) % 8 = 0 then _ else if (8 * t + 2) % 8 = 1 then _ else if (8 * t + 2) % 8 = 2 then _ else _) else _)
          rw [if_neg (by omega), if_pos rfl, if_neg (by omega), if_neg (by omega), if_pos (by omega), d8]
          exact ⟨Nat.le_refl _, w2.2.mono (Nat.le_refl _) (by show o2.1 ≤ o2.1 + 1 - 1; omega) (uh_le d)⟩
      · rw [ho] at he
        cases he
        have hu := h.2.2.2.2.2.1
        refine c_nadd c1.2.2.2.2.1 (by omega) ?_
        have eu : u + szS T (.branch (8 * t + 2) a (.leaf 0)) 1 = u + 1 + sz T a + 1 := by rw [es]; omega
        have ag0 := AG.mk σ.2.2 (u := u) (Nat.le_refl _) 25 (nI (PL T t)) (-1) 1 1 0
        have av0 := AV.mk σ.2.2 (u := u) (Nat.le_refl _) 25 (nI (PL T t)) (-1) 1 1 0
        have agm := AG.mk σ'.2.2 (u := u + 1 + sz T a) (Nat.le_refl _) 26 (nI (PL T t)) (-1) 1 1 0
        have avm := AV.mk σ'.2.2 (u := u + 1 + sz T a) (Nat.le_refl _) 26 (nI (PL T t)) (-1) 1 1 0
        refine c_take hg.1 (cst σ' u hu c1) (by omega) (by omega) (by omega) (fun _ z1 z2 z3 ci3 => ?_) (fun z => absurd C z)
        refine hY _ rfl _ (by rw [eu]; exact ci3) ((ag0.tr c2 (l := 0) (m := u) (Nat.le_refl _) (Nat.le_refl _) (Nat.le_refl _) (by omega)).tr agm (Nat.le_refl _) (Nat.le_refl _) (Nat.le_refl _) (by omega)) ((av0.tr c3 (l := 0) (m := u) (Nat.le_refl _) (Nat.le_refl _) (Nat.le_refl _) (by omega)).tr avm (Nat.le_refl _) (Nat.le_refl _) (Nat.le_refl _) (by omega)) ?_ ?_
        · show (if 1 = 0 then _ else if 1 = 1 then (if (8 * t + 2) % 8 = 0 then _ else if (8 * t + 2) % 8 = 1 then _ else if (8 * t + 2) % 8 = 2 then _ else _) else _)
          rw [if_neg (by omega), if_pos rfl, if_neg (by omega), if_neg (by omega), if_pos (by omega), d8]
          obtain ⟨l1, l2, _⟩ := c2 u (by omega) (by omega)
          obtain ⟨m1, m2, _⟩ := agm u (by omega) (by omega)
          refine ⟨⟨m1.trans (l1.trans pk_us), m2.trans (l2.trans pk_us)⟩, ?_, ?_⟩
          · rw [show u + sz T a = u + 1 + sz T a - 1 by omega]
            exact CS.fr agm a _ c4 (by omega) (by omega)
          · rw [show u + sz T a + 1 = u + 1 + sz T a by omega]
            exact ⟨pk_us, pk_us⟩
        · show (if 1 = 0 then _ else if 1 = 1 then (if (8 * t + 2) % 8 = 0 then _ else if (8 * t + 2) % 8 = 1 then _ else if (8 * t + 2) % 8 = 2 then _ else _) else _)
          rw [if_neg (by omega), if_pos rfl, if_neg (by omega), if_neg (by omega), if_pos (by omega), show u + sz T a = u + 1 + sz T a - 1 by omega]
          exact CV.fr avm a _ c5 (by omega) (by omega)
      · rw [ho] at he
        cases he
        have bi := b8.bd
        refine m_take hN b1 (by omega) (by omega) (fun _ => ?_) (fun z => absurd C z)
        refine hY _ rfl _ q' q ⟨b1.1, rfl, hnf2.2, b1.2.2.2.1, b1.2.2.2.2.1, by have := b1.2.2.2.2.2; show q' ≤ o2.1 + 1 + 1; omega⟩ (Nat.le_refl _) (by omega) ⟨b2.1, b2.2.1, b2.2.2.1, b2.2.2.2.1, b2.2.2.2.2⟩ b3 b4 ?_
        show (if 1 = 0 then _ else if 1 = 1 then _ else _)
        rw [if_neg (by omega), if_pos rfl]
        refine ⟨q, q + 1, q', i, rfl, Nat.le_refl _, by omega, Nat.le_refl _, by rw [d8]; exact b6, ?_⟩
        rw [if_neg (by omega)]
        refine ⟨b7, ME.fr (τ := τ') _ _ _ _ (fun _ _ _ => ⟨rfl, rfl, rfl⟩) (fun _ _ _ _ => rfl) b8, ?_⟩
        rw [if_neg (by omega), if_pos (by omega)]
        exact ⟨b5, b9⟩
    · refine ⟨(o2.1, none), ⟨fun e he => (by cases he), by show t ≤ o2.1; omega, q3⟩, fun n hn2 σ u post h hY hF => cgo n hn2 σ u post h (fun e he σ' c1 c2 c3 c4 c5 => ?_) (fun he => by rw [ho] at he; cases he), fun n hn2 τ q post h hY hF => mgo n hn2 τ q post h (fun e he τ' q' i b1 b2 b3 b4 b5 b6 b7 b8 b9 => ?_) (fun he => by rw [ho] at he; cases he)⟩
      · rw [ho] at he
        cases he
        have hu := h.2.2.2.2.2.1
        refine c_nadd c1.2.2.2.2.1 (by omega) ?_
        exact c_take hg.1 (cst σ' u hu c1) (by omega) (by omega) (by omega) (fun z => absurd z C) (fun _ σ3 c => hF rfl σ3 c)
      · have bi := b8.bd
        refine m_take hN b1 (by omega) (by omega) (fun z => absurd z C) (fun _ => ?_)
        exact hF rfl _ q' q (MB.of b1 (by omega)) ⟨b2.1, b2.2.1, b2.2.2.1, b2.2.2.2.1, b2.2.2.2.2⟩ b3 (Nat.le_refl _) (by omega) b4
end Out
