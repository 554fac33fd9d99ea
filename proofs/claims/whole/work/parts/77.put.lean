section Put
def GoodS (T : TX) (N : Nat) (t : Nat) (o : RO) (m h : Nat) : Prop := (∀ e, o.2 = some e → (WFS T N e m ∧ XS T e m t o.1 h) ∧ t < o.1 ∧ PL T t + szS T e m ≤ PL T o.1) ∧ t ≤ o.1 ∧ o.1 < N
def CSt (T : TX) (N L : Nat) (t8 : SX8) (m k : Nat) (xs : List Int32) (t : Nat) (o : RO) (n : Nat) : Prop :=
  ∀ (σ : WSX7) (u : Nat) (post : Int32 → WSX7 → Prop), CI T N L t8 σ t u →
    (∀ e, o.2 = some e → ∀ σ', CI T N L t8 σ' o.1 (u + szS T e m) → AG σ.2.2 σ'.2.2 0 u → AV σ.2.2 σ'.2.2 0 u → CB T σ'.2.2 e m u → CW T σ'.2.2 e m u → post 0 σ') →
    (o.2 = none → ∀ σ', CF T N L t8 σ' o.1 → post 0 σ') → wg_rd n k σ xs post
def MSt (T : TX) (N : Nat) (xs : List Int32) (t : Nat) (o : RO) (n : Nat) : Prop :=
  ∀ (τ : SX12) (q : Nat) (post : Int32 → SX12 → Prop), MI T N τ t q →
    (∀ e, o.2 = some e → ∀ τ' q' i, MI T N τ' o.1 q' → q ≤ i → i < q' → MOF τ τ' → HP τ τ' q → τ'.1.2.1.1.1 i = -1 → MS T τ' e 1 q q' (nI i) → post (nI i) τ') →
    (o.2 = none → ∀ τ' q' i, MB T N 3 τ' o.1 q' → MOF τ τ' → HP τ τ' q → q ≤ i → i < q' → τ'.1.2.1.1.1 i = -1 → post (nI i) τ') → wg_st n 0 τ xs post
theorem m_111B {T : TX} {N k t q n st : Nat} {x : Int32} {τ : SX12} {sl : Option Nat} {post : Int32 → SX12 → Prop} (h : MB T N k τ t q) (hq : q < 9000) (hst : st < 9000) (hsl : ∀ τ', HP τ τ' q → slotOk τ' st sl) (hp : ∀ τ', MB T N (k + 1) τ' t (q + 1) → MOF τ τ' → SP τ τ' q st sl → post (nI st) τ') : wp_X12_statement_111 (wg_st (n + 2)) post τ x (nI st) := by
  refine m_takeB h (m_exprB h hq (fun τ' c1 c2 c3 c4 => ?_))
  refine m_addS (sl := sl) hst (hsl τ' c3) ?_
  have hb2 : MB T N (k + 1) (slot τ' st sl (nI q)) t (q + 1) := slot_mb c1
  exact m_takeB hb2 (hp _ hb2 (c2.tr (slot_of _ _ _ _)) (SP.slot c3))
theorem put_stmt {T : TX} {N L : Nat} {t8 : SX8} {d : Nat} (hg : GL T N L) (hd : d ≤ 32) {t : Nat} (ht : t < N) (K : TK T t = 2) : ∃ o, GoodS T N t o 1 (31 - d) ∧ (∀ n, 210 ≤ n → CSt T N L t8 1 2 [nI d] t o (n + 1)) ∧ (∀ n, 210 ≤ n → MSt T N [nI d] t o (n + 1)) := by
  have hn := hg.2.1
  have hN : N ≤ 3001 := by have := hg.1.2.1; omega
  have hL := hg.2.2.1
  have hnf := not_fin hg.1 ht K (by omega) (by omega)
  have hPL := PL_succ hnf.1
  have hkr1 := TK_r T (t + 1)
  have hPn := PL_le T (t + 1)
  have kb : kM (TK T (t + 1)) < 2 ^ 31 := by
    unfold kM
    repeat' split
    all_goals omega
  have km : nI (kM (TK T (t + 1))) = 91 ↔ TK T (t + 1) = 91 := by
    constructor
    · intro z
      exact kM_inj hkr1.1 hkr1.2 (by omega) (by omega) z
    · intro z
      rw [z]
      rfl
  by_cases B : TK T (t + 1) = 91
  · have hnf1 := not_fin hg.1 hnf.2 B (by omega) (by omega)
    have hPL1 := PL_succ hnf1.1
    obtain ⟨o2, ⟨q1, q2, q3⟩, q4, q5⟩ := qq_all (t8 := t8) hg hd (t + 1 + 1) hnf1.2
    have hPo := PL_le T o2.1
    have cgo : ∀ n, 210 ≤ n → ∀ (σ : WSX7) (u : Nat) (post : Int32 → WSX7 → Prop), CI T N L t8 σ t u →
        (∀ e, o2.2 = some e → ∀ σ', CI T N L t8 σ' o2.1 (u + 1 + sz T e) → AG ((((nAdd σ.2.2 u 13 (nI (PL T t)) (-1)).1.1.1, (upd (upd σ.2.2.1.1.2 u 13) u 14)), (nAdd σ.2.2 u 13 (nI (PL T t)) (-1)).1.2), (nAdd σ.2.2 u 13 (nI (PL T t)) (-1)).2) σ'.2.2 0 (u + 1) → AV (nAdd σ.2.2 u 13 (nI (PL T t)) (-1)) σ'.2.2 0 (u + 1) → CS T σ'.2.2 e (u + 1 + sz T e - 1) → CV T σ'.2.2 e (u + 1 + sz T e - 1) → wp_X4_add σ'.2.2 15 (nI (PL T (t + 1))) (nI u) (fun r26 τ27 => wp_X7_take (σ'.1, (σ'.2.1, τ27)) (nI 93) (fun r28 τ29 => ((¬ r28 = 0 → wp_X7_putStatement_93 (wg_rd n) (post 0) τ29 (nI d) (nI (PL T t)) (nI u)) ∧ (r28 = 0 → post 0 τ29))))) →
        (o2.2 = none → ∀ σ', CF T N L t8 σ' o2.1 → post 0 σ') → wg_rd (n + 1) 2 σ [nI d] post := by
      intro n hn2 σ u post h hY hF
      obtain ⟨a1, a2, a3, a4, a5, a6, a7⟩ := id h
      show wp_X7_putStatement (wg_rd n) σ (nI d) (post 0)
      unfold wp_X7_putStatement
      refine c_place a2 a3 a4 (c_nadd a5 (by omega) (c_next a2 a3 a4 ?_))
      obtain ⟨h', hb⟩ := h.nx hnf
      obtain ⟨b1, b2, b3, b4, b5, b6, b7⟩ := id h'
      refine c_kind b2 b3 b4 ⟨fun c => absurd (by rw [B]; rfl) c, fun _ => ?_⟩
      have nw : NW (nAdd σ.2.2 u 13 (nI (PL T t)) (-1)) (u + 1) L := a5.mk (by omega) _ _ _ _ _ _
      refine c_place b2 b3 b4 (c_turnInto nw.w (by omega) (c_next b2 b3 b4 ?_))
      refine q4 n hn2 _ (u + 1) _ ⟨a1, a2, rfl, hnf1.2, nw, by omega, a7⟩ (fun e he σ' c1 c2 c3 c4 c5 => hY e he σ' c1 c2 c3 c4 c5) (fun he σ' c1 => ?_)
      obtain ⟨u', hu'⟩ := c1.2.1
      refine c_naddG hu' (fun r σ4 u4 h4 _ => ?_)
      have cf : CF T N L t8 (σ'.1, (σ'.2.1, σ4)) o2.1 := ⟨c1.1, ⟨u4, h4⟩, c1.2.2⟩
      exact c_takeF cf hn ⟨fun c => absurd rfl c, fun _ => hF he _ cf⟩
    have mgo : ∀ n, 210 ≤ n → ∀ (τ : SX12) (q : Nat) (post : Int32 → SX12 → Prop), MI T N τ t q →
        (∀ e, o2.2 = some e → ∀ τ' q' i, MI T N τ' o2.1 q' → MOF τ τ' → HP τ τ' q → τ'.1.2.1.1.1 q = -1 → τ'.1.1.2.2.1 q = 301 → τ'.1.1.2.2.2.1 q = nI t → τ'.1.1.2.2.2.2 q = nI (q + 1) → τ'.1.1.2.2.2.1 (q + 1) = nI (t + 1) → τ'.1.2.1.1.1 (q + 1) = nI i → ME T τ' e (q + 1 + 1) q' i → τ'.1.2.1.1.1 i = -1 → wp_X12_take τ' (nI (kM 93)) (fun r54 τ55 => wp_X12_statement_111 (wg_st n) post τ55 (nI d) (nI q))) →
        (o2.2 = none → ∀ τ' q', MB T N 3 τ' o2.1 q' → q < q' → MOF τ τ' → HP τ τ' q → τ'.1.2.1.1.1 q = -1 → post (nI q) τ') → wg_st (n + 1) 0 τ [nI d] post := by
      intro n hn2 τ q post h hY hF
      obtain ⟨a1, a2, a3, a4, a5, a6⟩ := id h
      show wp_X12_statement (wg_st n) τ (nI d) post
      unfold wp_X12_statement
      rw [a2, nI_clamp (by omega), m_tok a4 a3, K]
      refine ⟨in_k (by omega) (by omega), fun y ey => ⟨fun c => absurd ey c, fun _ => ?_⟩⟩
      unfold wp_X12_statement_23
      rw [ey]
      refine m_node a5 (by omega) ⟨fun c => absurd rfl c, fun _ y2 ey2 => ?_⟩
      have ey2 : y2 = nI (t + 1) := by
        rw [ey2]
        show τ.1.1.2.1.1 + 1 = _
        rw [a2, nI_1]
      rw [ey2, nI_clamp (by omega)]
      have tk : (mNd τ q 300 τ.1.1.2.1.1).1.1.1.2.1 (t + 1) = nI (kM (TK T (t + 1))) := m_tok a4 hnf.2
      rw [tk]
      refine ⟨in_k (by omega) (by omega), fun c => absurd (km.mpr B) c, fun _ => ⟨in_k (by omega) (by omega), fun y3 ey3 => ?_⟩⟩
      rw [nI_clamp (by omega)] at ey3
      rw [ey3]
      refine m_node (q := q + 1) (a5.nd 0 0) (by omega) (m_add0 (by omega) ?_ (fun y4 ey4 => ?_))
      · show upd (upd τ.1.1.2.2.2.2 q (-1)) (q + 1) (-1) q = -1
        rw [pk_un (by omega), pk_us]
      · have ey4 : y4 = nI (t + 1 + 1) := by
          rw [ey4]
          show nI (t + 1) + 1 = _
          rw [nI_1]
        rw [ey4]
        have ne : q ≠ q + 1 := by omega
        have low : ∀ (τ' : SX12) (i : Nat), HP ((((τ.1.1.1, (((nI (t + 1 + 1)), (τ.1.1.2.1.2.1, (nI (q + 1 + 1)))), ((upd (upd (upd τ.1.1.2.2.1 q 300) q 301) (q + 1) 91), ((upd (upd τ.1.1.2.2.2.1 q τ.1.1.2.1.1) (q + 1) (nI (t + 1))), (upd (upd (upd τ.1.1.2.2.2.2 q (-1)) (q + 1) (-1)) q (nI (q + 1))))))), ((((upd (upd τ.1.2.1.1.1 q (-1)) (q + 1) (-1)), τ.1.2.1.1.2), τ.1.2.1.2), τ.1.2.2)), τ.2)) τ' (q + 1 + 1) → q + 1 < i →
            HP τ ((τ'.1.1, ((((upd τ'.1.2.1.1.1 (q + 1) (nI i)), τ'.1.2.1.1.2), τ'.1.2.1.2), τ'.1.2.2)), τ'.2) q ∧ τ'.1.2.1.1.1 q = -1 ∧ τ'.1.1.2.2.1 q = 301 ∧ τ'.1.1.2.2.2.1 q = nI t ∧ τ'.1.1.2.2.2.2 q = nI (q + 1) ∧ τ'.1.1.2.2.2.1 (q + 1) = nI (t + 1) ∧ τ'.1.2.1.1.1 (q + 1) = -1 := by
          intro τ' i b4 hi
          obtain ⟨p1, p2, p3, p4⟩ := b4 q (by omega)
          obtain ⟨r1, r2, r3, r4⟩ := b4 (q + 1) (by omega)
          refine ⟨fun j hj => ?_, ?_, ?_, ?_, p3.trans pk_us, r2.trans pk_us, r4.trans pk_us⟩
          · have n2 : j ≠ q := by omega
            have n3 : j ≠ q + 1 := by omega
            obtain ⟨c1, c2, c3, c4⟩ := b4 j (by omega)
            refine ⟨c1.trans ?_, c2.trans ?_, c3.trans ?_, (pk_un (k := q + 1) n3).trans (c4.trans ?_)⟩
            · show upd (upd (upd τ.1.1.2.2.1 q 300) q 301) (q + 1) 91 j = _
              rw [pk_un n3, pk_un n2, pk_un n2]
            · show upd (upd τ.1.1.2.2.2.1 q τ.1.1.2.1.1) (q + 1) _ j = _
              rw [pk_un n3, pk_un n2]
            · show upd (upd (upd τ.1.1.2.2.2.2 q (-1)) (q + 1) (-1)) q (nI (q + 1)) j = _
              rw [pk_un n2, pk_un n3, pk_un n2]
            · show upd (upd τ.1.2.1.1.1 q (-1)) (q + 1) (-1) j = _
              rw [pk_un n3, pk_un n2]
          · rw [p4]
            show upd (upd τ.1.2.1.1.1 q (-1)) (q + 1) (-1) q = -1
            rw [pk_un ne, pk_us]
          · rw [p1]
            show upd (upd (upd τ.1.1.2.2.1 q 300) q 301) (q + 1) 91 q = 301
            rw [pk_un ne, pk_us]
          · rw [p2]
            show upd (upd τ.1.1.2.2.2.1 q τ.1.1.2.1.1) (q + 1) _ q = nI t
            rw [pk_un ne, pk_us, a2]
        refine q5 n hn2 _ (q + 1 + 1) _ ⟨a1, rfl, hnf1.2, a4, (a5.nd 0 0).nd 0 0, by omega⟩ (fun e he τ' q' i b1 b2 b3 b4 b5 b6 => ?_) (fun he τ' q' i b1 b2 b3 b4 b5 b6 => ?_)
        · have bi := b6.bd
          obtain ⟨l1, l2, l3, l4, l5, l6, l7⟩ := low τ' i b4 (by omega)
          refine m_addC (c := q + 1) (l := []) (by omega) l5 (by omega) l7 ?_
          refine hY e he _ q' i ⟨b1.1, b1.2.1, b1.2.2.1, b1.2.2.2.1, b1.2.2.2.2.1, b1.2.2.2.2.2⟩ ?_ l1 ((pk_un (k := q + 1) ne).trans l2) l3 l4 l5 l6 pk_us ?_ ((pk_un (k := q + 1) (by omega)).trans b5)
          · obtain ⟨c1, c2, c3, c4, c5⟩ := b3
            exact ⟨c1, c2, c3, c4, c5⟩
          · exact ME.fr (τ := τ') e _ _ _ (fun j j1 j2 => ⟨rfl, rfl, rfl⟩) (fun j j1 j2 j3 => pk_un (k := q + 1) (by omega)) b6
        · obtain ⟨l1, l2, l3, l4, l5, l6, l7⟩ := low τ' i b3 (by omega)
          refine m_addC (c := q + 1) (l := []) (by omega) l5 (by omega) l7 ?_
          obtain ⟨n', rfl⟩ : ∃ n', n = n' + 2 := ⟨n - 2, by omega⟩
          have hqb := b1.2.2.2.2.2
          have hb : MB T N 2 ((τ'.1.1, ((((upd τ'.1.2.1.1.1 (q + 1) (nI i)), τ'.1.2.1.1.2), τ'.1.2.1.2), τ'.1.2.2)), τ'.2) o2.1 q' := ⟨b1.1, b1.2.1, b1.2.2.1, b1.2.2.2.1, b1.2.2.2.2.1, hqb⟩
          refine m_takeB hb (m_111B (sl := some i) hb (by omega) (by omega) (fun τ3 h3 => ?_) (fun τ3 c1 c2 c3 => ?_))
          · refine ⟨q + 1, [i], by omega, (h3 q (by omega)).2.2.1.trans l5, ⟨(h3 (q + 1) (by omega)).2.2.2.trans pk_us, by omega, ?_⟩, rfl⟩
            exact (h3 i (by omega)).2.2.2.trans ((pk_un (k := q + 1) (by omega)).trans b6)
          · refine hF he τ3 (q' + 1) c1 (by omega) (MOF.tr (b := ((τ'.1.1, ((((upd τ'.1.2.1.1.1 (q + 1) (nI i)), τ'.1.2.1.1.2), τ'.1.2.1.2), τ'.1.2.2)), τ'.2)) ⟨b2.1, b2.2.1, b2.2.2.1, b2.2.2.2.1, b2.2.2.2.2⟩ c2) ?_ ?_
            · intro j hj
              obtain ⟨x1, x2, x3, x4⟩ := c3 j (by omega)
              obtain ⟨y1, y2, y3, y4⟩ := l1 j hj
              exact ⟨x1.trans y1, x2.trans y2, (x3 (fun z => by cases z.1)).trans y3, (x4 (fun z => by cases z; omega)).trans y4⟩
            · obtain ⟨x1, x2, x3, x4⟩ := c3 q (by omega)
              exact (x4 (fun z => by cases z; omega)).trans ((pk_un (k := q + 1) ne).trans l2)
    cases ho : o2.2 with
    | none =>
      exact ⟨(o2.1, none), ⟨fun e he => (by cases he), by show t ≤ o2.1; omega, q3⟩, fun n hn2 σ u post h hY hF => cgo n hn2 σ u post h (fun e he => by rw [ho] at he; cases he) (fun _ σ' c => hF rfl σ' c), fun n hn2 τ q post h hY hF => mgo n hn2 τ q post h (fun e he => by rw [ho] at he; cases he) (fun _ τ' q' b1 b2 b3 b4 b5 => hF rfl τ' q' q b1 b3 b4 (Nat.le_refl _) b2 b5)⟩
    | some a =>
      obtain ⟨w2, t2, pl2⟩ := q1 a ho
      have hsa := sz_pos T a
      have cst : ∀ (σ' : WSX7) (u : Nat), u ≤ PL T t → CI T N L t8 σ' o2.1 (u + 1 + sz T a) → CI T N L t8 (σ'.1, (σ'.2.1, nMk σ'.2.2 (u + 1 + sz T a) 15 (nI (PL T (t + 1))) (nI u) 1 1 0)) o2.1 (u + 1 + sz T a + 1) := by
        intro σ' u hu c1
        exact ⟨c1.1, c1.2.1, c1.2.2.1, c1.2.2.2.1, c1.2.2.2.2.1.mk (by omega) _ _ _ _ _ _, by omega, c1.2.2.2.2.2.2⟩
      by_cases C : TK T o2.1 = 93
      · have hnf2 := not_fin hg.1 q3 C (by omega) (by omega)
        have hPL2 := PL_succ hnf2.1
        obtain ⟨o3, ⟨r1, r2, r3⟩, r4, r5⟩ := put_tail (t8 := t8) hg hd (o2.1 + 1) hnf2.2
        have cg2 : ∀ n, 210 ≤ n → ∀ (σ : WSX7) (u : Nat) (post : Int32 → WSX7 → Prop), CI T N L t8 σ t u →
            (∀ e, o3.2 = some e → ∀ σ1 σ', CI T N L t8 σ' o3.1 (u + 1 + sz T a + 1 + sz T e + 1) → AG ((((nAdd σ.2.2 u 13 (nI (PL T t)) (-1)).1.1.1, (upd (upd σ.2.2.1.1.2 u 13) u 14)), (nAdd σ.2.2 u 13 (nI (PL T t)) (-1)).1.2), (nAdd σ.2.2 u 13 (nI (PL T t)) (-1)).2) σ1 0 (u + 1) → AV (nAdd σ.2.2 u 13 (nI (PL T t)) (-1)) σ1 0 (u + 1) → CS T σ1 a (u + 1 + sz T a - 1) → CV T σ1 a (u + 1 + sz T a - 1) → AG (nMk σ1 (u + 1 + sz T a) 15 (nI (PL T (t + 1))) (nI u) 1 1 0) σ'.2.2 0 (u + 1 + sz T a + 1) → AV (nMk σ1 (u + 1 + sz T a) 15 (nI (PL T (t + 1))) (nI u) 1 1 0) σ'.2.2 0 (u + 1 + sz T a + 1) → CS T σ'.2.2 e (u + 1 + sz T a + 1 + sz T e - 1) → CV T σ'.2.2 e (u + 1 + sz T a + 1 + sz T e - 1) → nv σ'.2.2 (u + 1 + sz T a + 1 + sz T e) 16 (PL T t) (nI u) → post 0 σ') →
            (o3.2 = none → ∀ σ', CF T N L t8 σ' o3.1 → post 0 σ') → wg_rd (n + 1) 2 σ [nI d] post := by
          intro n hn2 σ u post h hY hF
          refine cgo n hn2 σ u post h (fun e he σ' c1 c2 c3 c4 c5 => ?_) (fun he => by rw [ho] at he; cases he)
          rw [ho] at he
          cases he
          have hu := h.2.2.2.2.2.1
          refine c_nadd c1.2.2.2.2.1 (by omega) ?_
          refine c_take hg.1 (cst σ' u hu c1) (by omega) (by omega) (by omega) (fun _ z1 z2 z3 ci3 => ⟨fun _ => ?_, fun c => absurd c (by decide)⟩) (fun z => absurd C z)
          exact r4 n hn2 _ (u + 1 + sz T a + 1) (PL T t) (nI u) _ ci3 (fun e he σ3 d1 d2 d3 d4 d5 d6 => hY e he σ'.2.2 σ3 d1 c2 c3 c4 c5 d2 d3 d4 d5 d6) hF
        have mg2 : ∀ n, 210 ≤ n → ∀ (τ : SX12) (q : Nat) (post : Int32 → SX12 → Prop), MI T N τ t q →
            (∀ e, o3.2 = some e → ∀ τ' q', MI T N τ' o3.1 q' → q < q' → MOF τ τ' → HP τ τ' q → τ'.1.2.1.1.1 q = -1 → MS T τ' (.branch (8 * t + 1) a e) 1 q q' (nI q) → post (nI q) τ') →
            (o3.2 = none → ∀ τ' q', MB T N 3 τ' o3.1 q' → q < q' → MOF τ τ' → HP τ τ' q → τ'.1.2.1.1.1 q = -1 → post (nI q) τ') → wg_st (n + 1) 0 τ [nI d] post := by
          intro n hn2 τ q post h hY hF
          refine mgo n hn2 τ q post h (fun e he τ' q' i b1 b2 b3 b4 b5 b6 b7 b8 b9 b10 b11 => ?_) (fun he => by rw [ho] at he; cases he)
          rw [ho] at he
          cases he
          have bi := b10.bd
          have hq' := b1.2.2.2.2.2
          refine m_take hN b1 (by omega) (by omega) (fun _ => ?_) (fun z => absurd C z)
          have hpq : ∀ τ3, SP (((τ'.1.1.1, (((nI (o2.1 + 1)), τ'.1.1.2.1.2), τ'.1.1.2.2)), τ'.1.2), τ'.2) τ3 q' q (some i) → HP τ τ3 q ∧ τ3.1.2.1.1.1 q = -1 := by
            intro τ3 hsp
            refine ⟨fun j hj => ?_, ?_⟩
            · obtain ⟨x1, x2, x3, x4⟩ := hsp j (by omega)
              obtain ⟨y1, y2, y3, y4⟩ := b3 j hj
              exact ⟨x1.trans y1, x2.trans y2, (x3 (fun z => by cases z.1)).trans y3, (x4 (fun z => by cases z; omega)).trans y4⟩
            · exact ((hsp q (by omega)).2.2.2 (fun z => by cases z; omega)).trans b4
          refine r5 n hn2 (((τ'.1.1.1, (((nI (o2.1 + 1)), τ'.1.1.2.1.2), τ'.1.1.2.2)), τ'.1.2), τ'.2) q' q (some i) post ⟨b1.1, rfl, hnf2.2, b1.2.2.2.1, b1.2.2.2.2.1, by omega⟩ (by omega) (fun y hy => by cases hy; omega) (fun τ3 h3 => ?_) (fun e he τ3 q3 z d1 d2 d3 d4 d5 d6 d7 => ?_) (fun he τ3 q3 d1 d2 d3 d4 => ?_)
          · exact ⟨q + 1, [i], by omega, (h3 q (by omega)).2.2.1.trans b7, ⟨(h3 (q + 1) (by omega)).2.2.2.trans b9, by omega, (h3 i (by omega)).2.2.2.trans b11⟩, rfl⟩
          · obtain ⟨s1, s2⟩ := hpq τ3 d4
            refine hY e he τ3 q3 d1 (by omega) (MOF.tr (b := τ') b2 ⟨d3.1, d3.2.1, d3.2.2.1, d3.2.2.2.1, d3.2.2.2.2⟩) s1 s2 ?_
            show (if 1 = 0 then _ else if 1 = 1 then _ else _)
            rw [if_neg (by omega), if_pos rfl]
            obtain ⟨x1, x2, x3, x4⟩ := d4 q (by omega)
            obtain ⟨w1, w3, w4, w5⟩ := d4 (q + 1) (by omega)
            have bz := d6.bd
            refine ⟨q, q + 1 + 1, q', i, rfl, Nat.le_refl _, by omega, by omega, ?_, ?_⟩
            · rw [show (8 * t + 1) / 8 = t by omega]
              exact x2.trans b6
            · rw [if_pos (by omega), show (8 * t + 1) / 8 = t by omega]
              refine ⟨x1.trans b5, q + 1, q', q3, z, by omega, by omega, Nat.le_refl _, Nat.le_refl _, (x3 (fun z => by cases z.1)).trans b7, w3.trans b8, (w5 (fun z => by cases z; omega)).trans b9, ?_, d5, d6, d7⟩
              exact ME.fr (τ := τ') a _ _ _ (fun j j1 j2 => ⟨(d4 j (by omega)).1, (d4 j (by omega)).2.1, (d4 j (by omega)).2.2.1 (fun z => by cases z.1)⟩) (fun j j1 j2 j3 => (d4 j (by omega)).2.2.2 (fun z => by cases z; exact j3 rfl)) b10
          · obtain ⟨s1, s2⟩ := hpq τ3 d4
            exact hF he τ3 q3 d1 (by omega) (MOF.tr (b := τ') b2 ⟨d3.1, d3.2.1, d3.2.2.1, d3.2.2.2.1, d3.2.2.2.2⟩) s1 s2
        cases ho3 : o3.2 with
        | none =>
          exact ⟨(o3.1, none), ⟨fun e he => (by cases he), by show t ≤ o3.1; omega, r3⟩, fun n hn2 σ u post h hY hF => cg2 n hn2 σ u post h (fun e he => by rw [ho3] at he; cases he) (fun _ σ' c => hF rfl σ' c), fun n hn2 τ q post h hY hF => mg2 n hn2 τ q post h (fun e he => by rw [ho3] at he; cases he) (fun _ τ' q' b1 b2 b3 b4 b5 => hF rfl τ' q' q b1 b3 b4 (Nat.le_refl _) b2 b5)⟩
        | some b =>
          obtain ⟨w3, t3, pl3⟩ := r1 b ho3
          have hsb := sz_pos T b
          have d8 : (8 * t + 1) / 8 = t := by omega
          have es : szS T (.branch (8 * t + 1) a b) 1 = sz T a + sz T b + 3 := by
            show (if 1 = 0 then _ else if 1 = 1 then (if (8 * t + 1) % 8 = 0 then _ else if (8 * t + 1) % 8 = 1 then _ else _) else _) = _
            rw [if_neg (by omega), if_pos rfl, if_neg (by omega), if_pos (by omega)]
          refine ⟨(o3.1, some (.branch (8 * t + 1) a b)), ⟨fun e he => ?_, by show t ≤ o3.1; omega, r3⟩, fun n hn2 σ u post h hY hF => cg2 n hn2 σ u post h (fun e he σ1 σ' c1 c2 c3 c4 c5 c6 c7 c8 c9 c10 => ?_) (fun he => by rw [ho3] at he; cases he), fun n hn2 τ q post h hY hF => mg2 n hn2 τ q post h (fun e he τ' q' b1 b2 b3 b4 b5 b6 => ?_) (fun he => by rw [ho3] at he; cases he)⟩
          · cases he
            refine ⟨⟨?_, ?_⟩, by show t < o3.1; omega, by rw [es]; show _ ≤ PL T o3.1; omega⟩
            · show (if 1 = 0 then _ else if 1 = 1 then _ ∧ (if (8 * t + 1) % 8 = 0 then _ else if (8 * t + 1) % 8 = 1 then _ else _) else _)
              rw [if_neg (by omega), if_pos rfl, if_neg (by omega), if_pos (by omega), d8]
              exact ⟨hnf.2, K, B, by omega, w2.1, w3.1⟩
            · show (if 1 = 0 then _ else if 1 = 1 then _ ∧ (if (8 * t + 1) % 8 = 0 then _ else if (8 * t + 1) % 8 = 1 then _ else _) else _)
              rw [if_neg (by omega), if_pos rfl, if_neg (by omega), if_pos (by omega), d8]
              exact ⟨Nat.le_refl _, o2.1, w2.2.mono (by omega) (Nat.le_refl _) (uh_le d), w3.2⟩
          · rw [ho3] at he
            cases he
            have eu : u + szS T (.branch (8 * t + 1) a b) 1 = u + 1 + sz T a + 1 + sz T b + 1 := by rw [es]; omega
            have ag0 : AG σ.2.2 ((((nAdd σ.2.2 u 13 (nI (PL T t)) (-1)).1.1.1, (upd (upd σ.2.2.1.1.2 u 13) u 14)), (nAdd σ.2.2 u 13 (nI (PL T t)) (-1)).1.2), (nAdd σ.2.2 u 13 (nI (PL T t)) (-1)).2) 0 u := by
              intro j _ hj
              have nj : j ≠ u := by omega
              refine ⟨?_, pk_un nj, pk_un nj, pk_un nj, pk_un nj⟩
              show upd (upd σ.2.2.1.1.2 u 13) u 14 j = _
              rw [pk_un nj, pk_un nj]
            have av0 := AV.mk σ.2.2 (u := u) (Nat.le_refl _) 13 (nI (PL T t)) (-1) 1 1 0
            have agm := AG.mk σ1 (u := u + 1 + sz T a) (Nat.le_refl _) 15 (nI (PL T (t + 1))) (nI u) 1 1 0
            have avm := AV.mk σ1 (u := u + 1 + sz T a) (Nat.le_refl _) 15 (nI (PL T (t + 1))) (nI u) 1 1 0
            have ag1 : AG σ1 σ'.2.2 0 (u + 1 + sz T a) := agm.tr c6 (Nat.le_refl _) (Nat.le_refl _) (Nat.le_refl _) (by omega)
            have av1 : AV σ1 σ'.2.2 0 (u + 1 + sz T a) := avm.tr c7 (Nat.le_refl _) (Nat.le_refl _) (Nat.le_refl _) (by omega)
            obtain ⟨k1, k2, _⟩ := c2 u (by omega) (by omega)
            obtain ⟨l1, l2, _⟩ := ag1 u (by omega) (by omega)
            obtain ⟨x1, x2, _⟩ := c6 (u + 1 + sz T a) (by omega) (by omega)
            refine hY _ rfl σ' (by rw [eu]; exact c1) ((ag0.tr c2 (l := 0) (m := u) (Nat.le_refl _) (Nat.le_refl _) (Nat.le_refl _) (by omega)).tr ag1 (Nat.le_refl _) (Nat.le_refl _) (Nat.le_refl _) (by omega)) ((av0.tr c3 (l := 0) (m := u) (Nat.le_refl _) (Nat.le_refl _) (Nat.le_refl _) (by omega)).tr av1 (Nat.le_refl _) (Nat.le_refl _) (Nat.le_refl _) (by omega)) ?_ ?_
            · show (if 1 = 0 then _ else if 1 = 1 then (if (8 * t + 1) % 8 = 0 then _ else if (8 * t + 1) % 8 = 1 then _ else _) else _)
              rw [if_neg (by omega), if_pos rfl, if_neg (by omega), if_pos (by omega), d8]
              refine ⟨⟨l1.trans (k1.trans pk_us), l2.trans (k2.trans pk_us)⟩, ?_, ?_, ?_, ?_⟩
              · rw [show u + sz T a = u + 1 + sz T a - 1 by omega]
                exact CS.fr ag1 a _ c4 (by omega) (by omega)
              · rw [show u + sz T a + 1 = u + 1 + sz T a by omega]
                exact ⟨x1.trans pk_us, x2.trans pk_us, (c7 _ (by omega) (by omega)).trans pk_us⟩
              · rw [show u + sz T a + 1 + sz T b = u + 1 + sz T a + 1 + sz T b - 1 by omega]
                exact c8
              · rw [show u + sz T a + sz T b + 2 = u + 1 + sz T a + 1 + sz T b by omega]
                exact c10
            · show (if 1 = 0 then _ else if 1 = 1 then (if (8 * t + 1) % 8 = 0 then _ else if (8 * t + 1) % 8 = 1 then _ else _) else _)
              rw [if_neg (by omega), if_pos rfl, if_neg (by omega), if_pos (by omega)]
              refine ⟨?_, ?_⟩
              · rw [show u + sz T a = u + 1 + sz T a - 1 by omega]
                exact CV.fr av1 a _ c5 (by omega) (by omega)
              · rw [show u + sz T a + 1 + sz T b = u + 1 + sz T a + 1 + sz T b - 1 by omega]
                exact c9
          · rw [ho3] at he
            cases he
            exact hY _ rfl τ' q' q b1 (Nat.le_refl _) b2 b3 b4 b5 b6
      · refine ⟨(o2.1, none), ⟨fun e he => (by cases he), by show t ≤ o2.1; omega, q3⟩, fun n hn2 σ u post h hY hF => cgo n hn2 σ u post h (fun e he σ' c1 c2 c3 c4 c5 => ?_) (fun he => by rw [ho] at he; cases he), fun n hn2 τ q post h hY hF => mgo n hn2 τ q post h (fun e he τ' q' i b1 b2 b3 b4 b5 b6 b7 b8 b9 b10 b11 => ?_) (fun he => by rw [ho] at he; cases he)⟩
        · rw [ho] at he
          cases he
          have hu := h.2.2.2.2.2.1
          refine c_nadd c1.2.2.2.2.1 (by omega) ?_
          exact c_take hg.1 (cst σ' u hu c1) (by omega) (by omega) (by omega) (fun z => absurd z C) (fun _ σ3 c => ⟨fun c2 => absurd rfl c2, fun _ => hF rfl σ3 c⟩)
        · have bi := b10.bd
          have hq' := b1.2.2.2.2.2
          obtain ⟨n', rfl⟩ : ∃ n', n = n' + 2 := ⟨n - 2, by omega⟩
          refine m_take hN b1 (by omega) (by omega) (fun z => absurd z C) (fun _ => ?_)
          have hb : MB T N 2 (((τ'.1.1.1, ((τ'.1.1.2.1.1, (1, τ'.1.1.2.1.2.2)), τ'.1.1.2.2)), τ'.1.2), τ'.2) o2.1 q' := MB.of b1 (by omega)
          refine m_111B (sl := some i) hb (by omega) (by omega) (fun τ3 h3 => ?_) (fun τ3 c1 c2 c3 => ?_)
          · exact ⟨q + 1, [i], by omega, (h3 q (by omega)).2.2.1.trans b7, ⟨(h3 (q + 1) (by omega)).2.2.2.trans b9, by omega, (h3 i (by omega)).2.2.2.trans b11⟩, rfl⟩
          · refine hF rfl τ3 (q' + 1) q c1 (MOF.tr (b := τ') b2 ⟨c2.1, c2.2.1, c2.2.2.1, c2.2.2.2.1, c2.2.2.2.2⟩) ?_ (Nat.le_refl _) (by omega) ?_
            · intro j hj
              obtain ⟨x1, x2, x3, x4⟩ := c3 j (by omega)
              obtain ⟨y1, y2, y3, y4⟩ := b3 j hj
              exact ⟨x1.trans y1, x2.trans y2, (x3 (fun z => by cases z.1)).trans y3, (x4 (fun z => by cases z; omega)).trans y4⟩
            · exact ((c3 q (by omega)).2.2.2 (fun z => by cases z; omega)).trans b4
  · obtain ⟨o1, ⟨q1, q2, q3⟩, q4, q5⟩ := put_tail (t8 := t8) hg hd (t + 1) hnf.2
    -- both, up to the tail
    have cgo : ∀ n, 210 ≤ n → ∀ (σ : WSX7) (u : Nat) (post : Int32 → WSX7 → Prop), CI T N L t8 σ t u →
        (∀ e, o1.2 = some e → ∀ σ', CI T N L t8 σ' o1.1 (u + 1 + sz T e + 1) → AG (nAdd σ.2.2 u 13 (nI (PL T t)) (-1)) σ'.2.2 0 (u + 1) → AV (nAdd σ.2.2 u 13 (nI (PL T t)) (-1)) σ'.2.2 0 (u + 1) → CS T σ'.2.2 e (u + 1 + sz T e - 1) → CV T σ'.2.2 e (u + 1 + sz T e - 1) → nv σ'.2.2 (u + 1 + sz T e) 16 (PL T t) (nI u) → post 0 σ') →
        (o1.2 = none → ∀ σ', CF T N L t8 σ' o1.1 → post 0 σ') → wg_rd (n + 1) 2 σ [nI d] post := by
      intro n hn2 σ u post h hY hF
      obtain ⟨a1, a2, a3, a4, a5, a6, a7⟩ := id h
      show wp_X7_putStatement (wg_rd n) σ (nI d) (post 0)
      unfold wp_X7_putStatement
      refine c_place a2 a3 a4 (c_nadd a5 (by omega) (c_next a2 a3 a4 ?_))
      obtain ⟨h', hb⟩ := h.nx hnf
      obtain ⟨b1, b2, b3, b4, b5, b6, b7⟩ := id h'
      refine c_kind b2 b3 b4 ⟨fun _ => ?_, fun c => absurd ((nI_eq (b := 91) (by omega) (by omega)).mp c) B⟩
      exact q4 n hn2 _ (u + 1) (PL T t) (nI u) _ ⟨a1, a2, rfl, hnf.2, a5.mk (by omega) _ _ _ _ _ _, by omega, a7⟩ hY hF
    have mgo : ∀ n, 210 ≤ n → ∀ (τ : SX12) (q : Nat) (post : Int32 → SX12 → Prop), MI T N τ t q →
        (∀ e, o1.2 = some e → ∀ τ' q' z, MI T N τ' o1.1 q' → q < q' → MOF τ τ' → HP τ τ' q → τ'.1.2.1.1.1 q = -1 → τ'.1.1.2.2.1 q = 300 → τ'.1.1.2.2.2.1 q = nI t → τ'.1.1.2.2.2.2 q = nI z → ME T τ' e (q + 1) q' z → τ'.1.2.1.1.1 z = -1 → post (nI q) τ') →
        (o1.2 = none → ∀ τ' q', MB T N 3 τ' o1.1 q' → q < q' → MOF τ τ' → HP τ τ' q → τ'.1.2.1.1.1 q = -1 → post (nI q) τ') → wg_st (n + 1) 0 τ [nI d] post := by
      intro n hn2 τ q post h hY hF
      obtain ⟨a1, a2, a3, a4, a5, a6⟩ := id h
      show wp_X12_statement (wg_st n) τ (nI d) post
      unfold wp_X12_statement
      rw [a2, nI_clamp (by omega), m_tok a4 a3, K]
      refine ⟨in_k (by omega) (by omega), fun y ey => ⟨fun c => absurd ey c, fun _ => ?_⟩⟩
      unfold wp_X12_statement_23
      rw [ey]
      refine m_node a5 (by omega) ⟨fun c => absurd rfl c, fun _ y2 ey2 => ?_⟩
      have ey2 : y2 = nI (t + 1) := by
        rw [ey2]
        show τ.1.1.2.1.1 + 1 = _
        rw [a2, nI_1]
      rw [ey2, nI_clamp (by omega)]
      have tk : (mNd τ q 300 τ.1.1.2.1.1).1.1.1.2.1 (t + 1) = nI (kM (TK T (t + 1))) := m_tok a4 hnf.2
      rw [tk]
      refine ⟨in_k (by omega) (by omega), fun _ => ?_, fun c => absurd (km.mp c) B⟩
      have sp : ∀ τ', SP (((((mNd τ q 300 τ.1.1.2.1.1).1.1.1, (((nI (t + 1)), (mNd τ q 300 τ.1.1.2.1.1).1.1.2.1.2), (mNd τ q 300 τ.1.1.2.1.1).1.1.2.2)), (mNd τ q 300 τ.1.1.2.1.1).1.2), (mNd τ q 300 τ.1.1.2.1.1).2)) τ' (q + 1) q none → HP τ τ' q ∧ τ'.1.2.1.1.1 q = -1 ∧ τ'.1.1.2.2.1 q = 300 ∧ τ'.1.1.2.2.2.1 q = nI t := by
        intro τ' hsp
        obtain ⟨p1, p2, p3, p4⟩ := hsp q (by omega)
        refine ⟨fun j hj => ?_, (p4 (by simp)).trans pk_us, p1.trans pk_us, ?_⟩
        · have ne : j ≠ q := by omega
          obtain ⟨c1, c2, c3, c4⟩ := hsp j (by omega)
          exact ⟨c1.trans (pk_un ne), c2.trans (pk_un ne), (c3 (fun z => ne z.2)).trans (pk_un ne), (c4 (by simp)).trans (pk_un ne)⟩
        · rw [p2]
          show upd τ.1.1.2.2.2.1 q τ.1.1.2.1.1 q = _
          rw [pk_us, a2]
      refine q5 n hn2 _ (q + 1) q none post ⟨a1, rfl, hnf.2, a4, a5.nd 0 0, by omega⟩ (by omega) (fun y hy => by cases hy) (fun τ' hp => (hp q (by omega)).2.2.1.trans pk_us) (fun e he τ' q' z b1 b2 b3 b4 b5 b6 b7 => ?_) (fun he τ' q' b1 b2 b3 b4 => ?_)
      · obtain ⟨s1, s2, s3, s4⟩ := sp τ' b4
        refine hY e he τ' q' z b1 (by omega) ?_ s1 s2 s3 s4 b5 b6 b7
        obtain ⟨c1, c2, c3, c4, c5⟩ := b3
        exact ⟨c1, c2, c3, c4, c5⟩
      · obtain ⟨s1, s2, s3, s4⟩ := sp τ' b4
        refine hF he τ' q' b1 (by omega) ?_ s1 s2
        obtain ⟨c1, c2, c3, c4, c5⟩ := b3
        exact ⟨c1, c2, c3, c4, c5⟩
    cases ho : o1.2 with
    | none =>
      exact ⟨(o1.1, none), ⟨fun e he => (by cases he), by show t ≤ o1.1; omega, q3⟩, fun n hn2 σ u post h hY hF => cgo n hn2 σ u post h (fun e he => by rw [ho] at he; cases he) (fun _ σ' c => hF rfl σ' c), fun n hn2 τ q post h hY hF => mgo n hn2 τ q post h (fun e he => by rw [ho] at he; cases he) (fun _ τ' q' b1 b2 b3 b4 b5 => hF rfl τ' q' q b1 b3 b4 (Nat.le_refl _) b2 b5)⟩
    | some a =>
      obtain ⟨w2, t2, pl2⟩ := q1 a ho
      have hsa := sz_pos T a
      have d8 : (8 * t) / 8 = t := by omega
      have es : szS T (.branch (8 * t) a (.leaf 0)) 1 = sz T a + 2 := by
        show (if 1 = 0 then _ else if 1 = 1 then (if (8 * t) % 8 = 0 then _ else _) else _) = _
        rw [if_neg (by omega), if_pos rfl, if_pos (by omega)]
      refine ⟨(o1.1, some (.branch (8 * t) a (.leaf 0))), ⟨fun e he => ?_, by show t ≤ o1.1; omega, q3⟩, fun n hn2 σ u post h hY hF => cgo n hn2 σ u post h (fun e he σ' c1 c2 c3 c4 c5 c6 => ?_) (fun he => by rw [ho] at he; cases he), fun n hn2 τ q post h hY hF => mgo n hn2 τ q post h (fun e he τ' q' z b1 b2 b3 b4 b5 b6 b7 b8 b9 b10 => ?_) (fun he => by rw [ho] at he; cases he)⟩
      · cases he
        refine ⟨⟨?_, ?_⟩, by show t < o1.1; omega, by rw [es]; show _ ≤ PL T o1.1; omega⟩
        · show (if 1 = 0 then _ else if 1 = 1 then _ ∧ (if (8 * t) % 8 = 0 then _ else _) else _)
          rw [if_neg (by omega), if_pos rfl, if_pos (by omega), d8]
          exact ⟨hnf.2, K, w2.1⟩
        · show (if 1 = 0 then _ else if 1 = 1 then _ ∧ (if (8 * t) % 8 = 0 then _ else _) else _)
          rw [if_neg (by omega), if_pos rfl, if_pos (by omega), d8]
          exact ⟨Nat.le_refl _, w2.2⟩
      · rw [ho] at he
        cases he
        have eu : u + szS T (.branch (8 * t) a (.leaf 0)) 1 = u + 1 + sz T a + 1 := by rw [es]; omega
        have ag0 := AG.mk σ.2.2 (u := u) (Nat.le_refl _) 13 (nI (PL T t)) (-1) 1 1 0
        have av0 := AV.mk σ.2.2 (u := u) (Nat.le_refl _) 13 (nI (PL T t)) (-1) 1 1 0
        refine hY _ rfl σ' (by rw [eu]; exact c1) (ag0.tr c2 (Nat.le_refl _) (Nat.le_refl _) (Nat.le_refl _) (by omega)) (av0.tr c3 (Nat.le_refl _) (Nat.le_refl _) (Nat.le_refl _) (by omega)) ?_ ?_
        · show (if 1 = 0 then _ else if 1 = 1 then (if (8 * t) % 8 = 0 then _ else _) else _)
          rw [if_neg (by omega), if_pos rfl, if_pos (by omega), d8]
          obtain ⟨l1, l2, _⟩ := c2 u (by omega) (by omega)
          refine ⟨⟨l1.trans pk_us, l2.trans pk_us⟩, ?_, ?_⟩
          · rw [show u + sz T a = u + 1 + sz T a - 1 by omega]
            exact c4
          · rw [show u + sz T a + 1 = u + 1 + sz T a by omega]
            exact c6
        · show (if 1 = 0 then _ else if 1 = 1 then (if (8 * t) % 8 = 0 then _ else _) else _)
          rw [if_neg (by omega), if_pos rfl, if_pos (by omega), show u + sz T a = u + 1 + sz T a - 1 by omega]
          exact c5
      · rw [ho] at he
        cases he
        refine hY _ rfl τ' q' q b1 (Nat.le_refl _) b2 b3 b4 b5 ?_
        show (if 1 = 0 then _ else if 1 = 1 then _ else _)
        rw [if_neg (by omega), if_pos rfl]
        refine ⟨q, q + 1, q', z, rfl, Nat.le_refl _, by omega, Nat.le_refl _, by rw [d8]; exact b7, ?_⟩
        rw [if_neg (by omega)]
        refine ⟨b8, b9, ?_⟩
        rw [if_pos (by omega)]
        exact ⟨b6, b10⟩
end Put
