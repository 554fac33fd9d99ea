section Tail
theorem nd_pos (T : TX) : ∀ e : Tr, 0 < nd T e ∧ nd T e ≤ sz T e := by
  intro e
  induction e with
  | leaf t => exact ⟨Nat.zero_lt_one, Nat.le_refl _⟩
  | branch p a b iha ihb =>
    unfold nd sz
    split
    · unfold ndP
      split <;> omega
    · split <;> omega
theorem m_fall {T : TX} {N t q n l : Nat} {x a : Int32} {τ : SX12} {post : Int32 → SX12 → Prop} (hN : N ≤ 3001) (h : MI T N τ t q) (hl : lvl (TK T t) < l ∨ lvl (TK T t) = 7) (hp : post a τ) : ∀ j, l + j ≤ 7 → PP n x l post j a τ := by
  intro j
  induction j with
  | zero => intro _; exact hp
  | succ j ih =>
    intro hj
    obtain ⟨h1, h2, h3, h4, h5, h6⟩ := h
    refine ⟨1, ⟨fun c => absurd h1 c, fun _ => ?_⟩⟩
    show vp_in τ.1.1.2.1.1 3002 ∧ wp_X12_rank (τ.1.1.1.2.1 (τ.1.1.2.1.1).toNatClampNeg) _
    rw [h2, nI_clamp (by omega), m_tok h4 h3]
    refine ⟨in_k (by omega) (by omega), m_rank (TK_r T t).1 (TK_r T t).2 ⟨fun _ => ih (by omega), fun c => absurd c ?_⟩⟩
    unfold lv32
    split
    · intro z
      have := (nI_eq (by omega) (by omega)).mp z
      omega
    · intro z
      exact nI_nem1 (by omega) z.symm
theorem m_desc {T : TX} {N t q n l c : Nat} {x a : Int32} {τ : SX12} {post : Int32 → SX12 → Prop} (hN : N ≤ 3001) (h : MI T N τ t q) (hc : lvl (TK T t) = c) (hlc : l ≤ c) (hc6 : c ≤ 6) (hp : PP n x l post (c - l + 1) a τ) : ∀ j, c - l < j → l + j ≤ 7 → PP n x l post j a τ := by
  intro j
  induction j with
  | zero => intro h; omega
  | succ j ih =>
    intro h0 hj
    by_cases e : j = c - l
    · rw [e]
      exact hp
    · have hp2 := ih (by omega) (by omega)
      obtain ⟨h1, h2, h3, h4, h5, h6⟩ := h
      refine ⟨1, ⟨fun c => absurd h1 c, fun _ => ?_⟩⟩
      show vp_in τ.1.1.2.1.1 3002 ∧ wp_X12_rank (τ.1.1.1.2.1 (τ.1.1.2.1.1).toNatClampNeg) _
      rw [h2, nI_clamp (by omega), m_tok h4 h3]
      refine ⟨in_k (by omega) (by omega), m_rank (TK_r T t).1 (TK_r T t).2 ⟨fun _ => hp2, fun c => absurd c ?_⟩⟩
      unfold lv32
      rw [hc, if_pos (by omega)]
      intro z
      have := (nI_eq (by omega) (by omega)).mp z
      omega
def TC1 (T : TX) (N L : Nat) (t8 : SX8) (l d t : Nat) (e : Tr) (o : RO) (nf : Nat) : Prop :=
  ∀ M i, N - t < M → i ≤ t → ∀ (σ : WSX7) (u : Nat) (post : WSX7 → Prop), CI T N L t8 σ t u → sz T e ≤ u → CS T σ.2.2 e (u - 1) → CV T σ.2.2 e (u - 1) →
    (∀ e', o.2 = some e' → ∀ σ', CI T N L t8 σ' o.1 (u - sz T e + sz T e') → AG σ.2.2 σ'.2.2 0 (u - sz T e) → AV σ.2.2 σ'.2.2 0 (u - sz T e) → CS T σ'.2.2 e' (u - sz T e + sz T e' - 1) → CV T σ'.2.2 e' (u - sz T e + sz T e' - 1) → post σ') →
    (o.2 = none → ∀ σ', CF T N L t8 σ' o.1 → post σ') → wp_X7_parts_9 (wg_rd nf) post M σ (nI l) (nI d) (nI i)
def TM1 (T : TX) (N : Nat) (l d t : Nat) (e : Tr) (o : RO) (n r : Nat) : Prop :=
  ∀ M, N - t < M → ∀ (τ : SX12) (q ql qh a : Nat) (post : Int32 → SX12 → Prop), MI T N τ t q → ME T τ e ql qh a → qh ≤ q → τ.1.2.1.1.1 a = -1 →
    (∀ e', o.2 = some e' → ∀ τ' q' i, MI T N τ' o.1 q' → q ≤ q' → MOF τ τ' → HP τ τ' ql → τ'.1.2.1.1.1 i = -1 → ME T τ' e' ql q' i → post (nI i) τ') →
    (o.2 = none → ∀ τ' q' i, MB T N 2 τ' o.1 q' → MOF τ τ' → HP τ τ' ql → ql ≤ i → i < q' → τ'.1.2.1.1.1 i = -1 → post (nI i) τ') →
    wp_X12_level_41 (wg_st (n + (7 - r))) (PP n (nI (d + 1)) l post (r - l)) M τ (nI r) (nI (d + 1)) (nI a)
theorem c_stopF {T : TX} {N L t8 l d t nf M i} {σ : WSX7} {post : WSX7 → Prop} (hn : T.2 ≤ 3000) (h : CF T N L t8 σ t) (hM : 0 < M) (hp : post σ) : wp_X7_parts_9 (wg_rd nf) post M σ l d i := by
  cases M with
  | zero => omega
  | succ M => exact ⟨fun _ => hp, fun _ => ⟨fun _ => hp, fun c => absurd c (h.ne hn)⟩⟩
theorem tail {T : TX} {N L : Nat} {t8 : SX8} {l d f g : Nat} (hg : GL T N L) (hl : l ≤ 6) (hR : ∀ c, l ≤ c → c ≤ 6 → RR T N L t8 (c + 1) d (f + (7 - c)) (g + (7 - c))) :
    ∀ m t e, N - t ≤ m → t < N → WF T N e → ∃ o : RO, ((∀ e', o.2 = some e' → (WF T N e' ∧ ∀ t0, XE T e t0 t (hpl (uh (d + 1)) (7 - l)) → XE T e' t0 o.1 (hpl (uh (d + 1)) (7 - l))) ∧ PL T t + sz T e' ≤ PL T o.1 + sz T e ∧ (lvl (TK T o.1) < l ∨ lvl (TK T o.1) = 7)) ∧ t ≤ o.1 ∧ o.1 < N) ∧
      (∀ nf, f + (7 - l) ≤ nf → TC1 T N L t8 l d t e o nf) ∧ (∀ n r, g ≤ n → l ≤ r → r ≤ 6 → (lvl (TK T t) ≤ r ∨ lvl (TK T t) = 7) → TM1 T N l d t e o n r) := by
  have hn := hg.2.1
  have hN : N ≤ 3001 := by have := hg.1.2.1; omega
  intro m
  induction m with
  | zero => intro t e h1 h2; omega
  | succ m ih =>
    intro t e hm ht hwf
    have hse := sz_pos T e
    have hkr := TK_r T t
    by_cases hc : l ≤ lvl (TK T t) ∧ lvl (TK T t) < 7
    · have hk := lvl_kind hc.2
      have hnf := not_fin hg.1 ht rfl (by omega) (by omega)
      have hPL := PL_succ hnf.1
      obtain ⟨o1, ⟨g1, g2, g3⟩, g4, g5, g6⟩ := hR (lvl (TK T t)) hc.1 (by omega) (t + 1) hnf.2
      -- the class's and the reference's doing of one operator
      have cstep : ∀ nf, f + (7 - l) ≤ nf → ∀ M i, N - t < M + 1 → i ≤ t → ∀ (σ : WSX7) (u : Nat) (post : WSX7 → Prop), CI T N L t8 σ t u →
          (∀ e2, o1.2 = some e2 → ∀ σ', CI T N L t8 σ' o1.1 (u + sz T e2) → AG σ.2.2 σ'.2.2 0 u → AV σ.2.2 σ'.2.2 0 u → CS T σ'.2.2 e2 (u + sz T e2 - 1) → CV T σ'.2.2 e2 (u + sz T e2 - 1) → wp_X4_addPair σ'.2.2 (nI (TK T t)) (nI (PL T t)) (fun τ14 => wp_X7_parts_9 (wg_rd nf) post M (σ'.1, (σ'.2.1, τ14)) (nI l) (nI d) (nI (i + 1)))) →
          (o1.2 = none → ∀ σ', CF T N L t8 σ' o1.1 → post σ') → wp_X7_parts_9 (wg_rd nf) post (M + 1) σ (nI l) (nI d) (nI i) := by
        intro nf hnf2 M i hM hi σ u post h hY hF
        obtain ⟨a1, a2, a3, a4, a5, a6, a7⟩ := id h
        show wb_X7_parts_9 (wg_rd nf) post _ σ (nI l) (nI d) (nI i)
        refine ⟨fun c => absurd ((nI_leI (a := 3000) (by omega) (by omega)).mp c) (by omega), fun _ => ⟨fun c => absurd a1 c, fun _ => c_kind a2 a3 a4 (c_place a2 a3 a4 (c_level hkr.1 ?_))⟩⟩
        have e1 : lv32 (TK T t) = nI (lvl (TK T t)) := by
          unfold lv32
          rw [if_pos hc.2]
        rw [e1]
        refine ⟨fun _ => c_next a2 a3 a4 ?_, fun c => absurd (nI_le hc.1 (by omega)) c⟩
        show wg_rd nf 8 _ [nI (lvl (TK T t)) + 1, nI d] _
        rw [nI_1]
        have hM0 : 0 < M := by omega
        refine g5 nf (by omega) ((σ.1.1, (σ.1.2.1, ((σ.1.2.2.1.1, (nI (t + 1))), σ.1.2.2.2))), σ.2) u _ (h.nx hnf).1 (fun e2 he2 σ' b1 b2 b3 b4 b5 => ?_) (fun he2 σ' b1 => ?_)
        · have := hY e2 he2 σ' b1 b2 b3 b4 b5
          rw [← nI_1] at this
          exact this
        · obtain ⟨u', hu'⟩ := b1.2.1
          refine c_addPairG hu' (fun σ4 u4 h4 => ?_)
          exact c_stopF (N := N) hn (t := o1.1) ⟨b1.1, ⟨u4, h4⟩, b1.2.2⟩ hM0 (hF he2 _ ⟨b1.1, ⟨u4, h4⟩, b1.2.2⟩)
      have mstep : ∀ n, g ≤ n → ∀ M, N - t < M + 1 → ∀ (τ : SX12) (q ql qh a : Nat) (post : Int32 → SX12 → Prop), MI T N τ t q → ME T τ e ql qh a → qh ≤ q → τ.1.2.1.1.1 a = -1 →
          (∀ e2, o1.2 = some e2 → ∀ τ' q', MI T N τ' o1.1 q' → q < q' → MOF τ τ' → HP τ τ' ql → τ'.1.2.1.1.1 q = -1 → ME T τ' (.branch (2 * t + 1) e e2) ql q' q → wp_X12_level_41 (wg_st (n + (7 - lvl (TK T t)))) (PP n (nI (d + 1)) l post (lvl (TK T t) - l)) M τ' (nI (lvl (TK T t))) (nI (d + 1)) (nI q)) →
          (o1.2 = none → ∀ τ' q', MB T N 2 τ' o1.1 q' → MOF τ τ' → HP τ τ' ql → q < q' → τ'.1.2.1.1.1 q = -1 → post (nI q) τ') →
          wp_X12_level_41 (wg_st (n + (7 - lvl (TK T t)))) (PP n (nI (d + 1)) l post (lvl (TK T t) - l)) (M + 1) τ (nI (lvl (TK T t))) (nI (d + 1)) (nI a) := by
        intro n hgn M hM τ q ql qh a post h hME hq hna hY hF
        obtain ⟨a1, a2, a3, a4, a5, a6⟩ := id h
        have hbd := hME.bd
        have e1 : lv32 (TK T t) = nI (lvl (TK T t)) := by
          unfold lv32
          rw [if_pos hc.2]
        refine ⟨fun c => absurd a1 c, fun _ => ?_⟩
        show vp_in τ.1.1.2.1.1 3002 ∧ wp_X12_rank (τ.1.1.1.2.1 (τ.1.1.2.1.1).toNatClampNeg) _
        rw [a2, nI_clamp (by omega), m_tok a4 a3]
        refine ⟨in_k (by omega) (by omega), m_rank hkr.1 hkr.2 ?_⟩
        rw [e1]
        refine ⟨fun c => absurd rfl c, fun _ => ?_⟩
        refine ⟨in_k (by omega) (by omega), m_node a5 (by omega) (fun y ey => ?_)⟩
        have ey : y = nI (t + 1) := by
          rw [ey]
          show τ.1.1.2.1.1 + 1 = _
          rw [a2, nI_1]
        rw [ey]
        refine m_add0 (by omega) pk_us ?_
        have nq : a ≠ q := by omega
        show wg_st (n + (7 - lvl (TK T t))) 3 _ [nI (lvl (TK T t)) + 1, nI (d + 1)] _
        rw [nI_1]
        refine g6 (n + (7 - lvl (TK T t))) (by omega) ((((mNd τ q (nI (kM (TK T t))) (nI t)).1.1.1, (((nI (t + 1)), (mNd τ q (nI (kM (TK T t))) (nI t)).1.1.2.1.2), ((mNd τ q (nI (kM (TK T t))) (nI t)).1.1.2.2.1, ((mNd τ q (nI (kM (TK T t))) (nI t)).1.1.2.2.2.1, (upd (upd τ.1.1.2.2.2.2 q (-1)) q (nI a)))))), (mNd τ q (nI (kM (TK T t))) (nI t)).1.2), (mNd τ q (nI (kM (TK T t))) (nI t)).2) (q + 1) _ ⟨a1, rfl, hnf.2, a4, a5.nd 0 0, by omega⟩ (fun e2 he2 τ' q' i b1 b2 b3 b4 b5 b6 => ?_) (fun he2 τ' q' i b1 b2 b3 b4 b5 b6 => ?_)
        · have bi := b6.bd
          obtain ⟨p1, p2, p3, p4⟩ := b4 q (by omega)
          obtain ⟨r1, r2, r3, r4⟩ := b4 a (by omega)
          have fq : τ'.1.1.2.2.2.2 q = nI a := p3.trans pk_us
          have na' : τ'.1.2.1.1.1 a = -1 := by
            rw [r4]
            show upd τ.1.2.1.1.1 q (-1) a = -1
            rw [pk_un nq]
            exact hna
          have nq' : τ'.1.2.1.1.1 q = -1 := p4.trans pk_us
          have kq : τ'.1.1.2.2.1 q = nI (kM (TK T t)) := p1.trans pk_us
          have aq : τ'.1.1.2.2.2.1 q = nI t := p2.trans pk_us
          have low : ∀ j, j < q → τ'.1.1.2.2.1 j = τ.1.1.2.2.1 j ∧ τ'.1.1.2.2.2.1 j = τ.1.1.2.2.2.1 j ∧ τ'.1.1.2.2.2.2 j = τ.1.1.2.2.2.2 j ∧ τ'.1.2.1.1.1 j = τ.1.2.1.1.1 j := by
            intro j hj
            have ne : j ≠ q := by omega
            obtain ⟨c1, c2, c3, c4⟩ := b4 j (by omega)
            refine ⟨c1.trans (pk_un ne), c2.trans (pk_un ne), ?_, c4.trans (pk_un ne)⟩
            rw [c3]
            show upd (upd τ.1.1.2.2.2.2 q (-1)) q (nI a) j = _
            rw [pk_un ne, pk_un ne]
          refine m_addC (c := a) (l := []) (by omega) fq (by omega) na' ?_
          show wp_X12_level_41 _ _ M _ _ _ (nI q)
          refine hY e2 he2 _ q' ⟨b1.1, b1.2.1, b1.2.2.1, b1.2.2.2.1, b1.2.2.2.2.1, b1.2.2.2.2.2⟩ (by omega) ?_ ?_ ?_ ?_
          · obtain ⟨c1, c2, c3, c4, c5⟩ := b3
            exact ⟨c1, c2, c3, c4, c5⟩
          · intro j hj
            have ne : j ≠ a := by omega
            obtain ⟨c1, c2, c3, c4⟩ := low j (by omega)
            exact ⟨c1, c2, c3, (pk_un ne).trans c4⟩
          · show upd τ'.1.2.1.1.1 a (nI i) q = -1
            rw [pk_un (Ne.symm nq)]
            exact nq'
          · refine ⟨by omega, by omega, ?_⟩
            rw [if_pos (by omega), show (2 * t + 1) / 2 = t by omega]
            refine ⟨kq, aq, ql, qh, a, q + 1, q', i, by omega, by omega, by omega, by omega, fq, ?_, pk_us, ?_, ?_⟩
            · refine ME.fr e ql qh a (fun j j1 j2 => ?_) (fun j j1 j2 j3 => ?_) hME
              · obtain ⟨c1, c2, c3, c4⟩ := low j (by omega)
                exact ⟨c1, c2, c3⟩
              · exact (pk_un j3).trans (low j (by omega)).2.2.2
            · refine ME.fr (τ := τ') e2 (q + 1) q' i (fun j j1 j2 => ⟨rfl, rfl, rfl⟩) (fun j j1 j2 j3 => pk_un (k := a) (by omega)) b6
            · show upd τ'.1.2.1.1.1 a (nI i) i = -1
              rw [pk_un (by omega)]
              exact b5
        · obtain ⟨p1, p2, p3, p4⟩ := b3 q (by omega)
          obtain ⟨r1, r2, r3, r4⟩ := b3 a (by omega)
          have fq : τ'.1.1.2.2.2.2 q = nI a := p3.trans pk_us
          have na' : τ'.1.2.1.1.1 a = -1 := by
            rw [r4]
            show upd τ.1.2.1.1.1 q (-1) a = -1
            rw [pk_un nq]
            exact hna
          have nq' : τ'.1.2.1.1.1 q = -1 := p4.trans pk_us
          refine m_addC (c := a) (l := []) (by omega) fq (by omega) na' ?_
          have hMM : ∃ M', M = M' + 1 := ⟨M - 1, by omega⟩
          obtain ⟨M', rfl⟩ := hMM
          have hb : MB T N 2 ((τ'.1.1, ((((upd τ'.1.2.1.1.1 a (nI i)), τ'.1.2.1.1.2), τ'.1.2.1.2), τ'.1.2.2)), τ'.2) o1.1 q' := ⟨b1.1, b1.2.1, b1.2.2.1, b1.2.2.2.1, b1.2.2.2.2.1, b1.2.2.2.2.2⟩
          refine ⟨fun _ => m_levelsB hb ?_ _, fun c => absurd (b1.1.symm.trans c) (by decide)⟩
          refine hF he2 _ q' hb ?_ ?_ (by omega) ?_
          · obtain ⟨c1, c2, c3, c4, c5⟩ := b2
            exact ⟨c1, c2, c3, c4, c5⟩
          · intro j hj
            have ne : j ≠ a := by omega
            have ne2 : j ≠ q := by omega
            obtain ⟨c1, c2, c3, c4⟩ := b3 j (by omega)
            refine ⟨c1.trans (pk_un ne2), c2.trans (pk_un ne2), ?_, ?_⟩
            · refine c3.trans ?_
              show upd (upd τ.1.1.2.2.2.2 q (-1)) q (nI a) j = _
              rw [pk_un ne2, pk_un ne2]
            · exact (pk_un ne).trans (c4.trans (pk_un ne2))
          · show upd τ'.1.2.1.1.1 a (nI i) q = -1
            rw [pk_un (Ne.symm nq)]
            exact nq'
      have PPc : ∀ (n : Nat) (x : Int32) (post : Int32 → SX12 → Prop) (a : Int32) (τ : SX12), wp_X12_level_40 (wg_st (n + (7 - lvl (TK T t)))) (PP n x l post (lvl (TK T t) - l)) τ (nI (lvl (TK T t))) x a → PP n x l post (lvl (TK T t) - l + 1) a τ := by
        intro n x post a τ h
        show wp_X12_level_40 (wg_st (n + (7 - (l + (lvl (TK T t) - l))))) (PP n x l post (lvl (TK T t) - l)) τ (nI (l + (lvl (TK T t) - l))) x a
        rw [show l + (lvl (TK T t) - l) = lvl (TK T t) by omega]
        exact h
      -- from level lvl to a higher one
      have up : ∀ (n r : Nat), l ≤ r → r ≤ 6 → lvl (TK T t) ≤ r → ∀ (τ : SX12) (q a : Nat) (post : Int32 → SX12 → Prop) (M : Nat), 0 < M → MI T N τ t q → (∀ M', N - t < M' → wp_X12_level_41 (wg_st (n + (7 - lvl (TK T t)))) (PP n (nI (d + 1)) l post (lvl (TK T t) - l)) M' τ (nI (lvl (TK T t))) (nI (d + 1)) (nI a)) → N - t < M → wp_X12_level_41 (wg_st (n + (7 - r))) (PP n (nI (d + 1)) l post (r - l)) M τ (nI r) (nI (d + 1)) (nI a) := by
        intro n r hlr hr6 hcr τ q a post M hM h base hMt
        by_cases er : r = lvl (TK T t)
        · rw [er]
          exact base M hMt
        · have hM1 : ∃ M', M = M' + 1 := ⟨M - 1, by omega⟩
          obtain ⟨M', rfl⟩ := hM1
          have hP := m_desc (n := n) (x := nI (d + 1)) (a := nI a) (post := post) hN h rfl hc.1 (by omega) (PPc n (nI (d + 1)) post (nI a) τ ⟨N + 1, base (N + 1) (by omega)⟩) (r - l) (by omega) (by omega)
          obtain ⟨a1, a2, a3, a4, a5, a6⟩ := id h
          refine ⟨fun c => absurd a1 c, fun _ => ?_⟩
          show vp_in τ.1.1.2.1.1 3002 ∧ wp_X12_rank (τ.1.1.1.2.1 (τ.1.1.2.1.1).toNatClampNeg) _
          rw [a2, nI_clamp (by omega), m_tok a4 a3]
          refine ⟨in_k (by omega) (by omega), m_rank hkr.1 hkr.2 ⟨fun _ => hP, fun c => absurd c ?_⟩⟩
          unfold lv32
          rw [if_pos hc.2]
          intro z
          have := (nI_eq (by omega) (by omega)).mp z
          omega
      cases ho : o1.2 with
      | none =>
        refine ⟨(o1.1, none), ⟨fun e' he' => (by cases he'), by show t ≤ o1.1; omega, g3⟩, fun nf hnf2 M i hM hi σ u post h hsz hcs hcv hY hF => ?_, fun n r hgn hlr hr6 hrk M hM τ q ql qh a post h hME hq hna hY hF => ?_⟩
        · have hM1 : ∃ M', M = M' + 1 := ⟨M - 1, by omega⟩
          obtain ⟨M', rfl⟩ := hM1
          exact cstep nf hnf2 M' i hM hi σ u post h (fun e2 he2 => by rw [ho] at he2; cases he2) (fun _ σ' b => hF rfl σ' b)
        · have hbd := hME.bd
          refine up n r hlr hr6 (by omega) τ q a post M (by omega) h (fun M' hM' => ?_) hM
          have hM1 : ∃ M2, M' = M2 + 1 := ⟨M' - 1, by omega⟩
          obtain ⟨M2, rfl⟩ := hM1
          exact mstep n hgn M2 hM' τ q ql qh a post h hME hq hna (fun e2 he2 => by rw [ho] at he2; cases he2) (fun _ τ' q' b1 b2 b3 b4 b5 => hF rfl τ' q' q b1 b2 b3 (by omega) b4 b5)
      | some e2 =>
        obtain ⟨w2, t2, pl2⟩ := g1 e2 ho
        have lv2 := g4 e2 ho
        have hse2 := sz_pos T e2
        have es : sz T (.branch (2 * t + 1) e e2) = sz T e + sz T e2 + 1 := by
          show (if (2 * t + 1) % 2 = 1 then _ else _) = _
          rw [if_pos (by omega)]
        have en : nd T (.branch (2 * t + 1) e e2) = ndP (nd T e) (nd T e2) := by
          show (if (2 * t + 1) % 2 = 1 then _ else _) = _
          rw [if_pos (by omega)]
        have ec : cl T (.branch (2 * t + 1) e e2) = (cl T e || cl T e2) := by
          show (if (2 * t + 1) % 2 = 1 then _ else _) = _
          rw [if_pos (by omega)]
        have hwf' : WF T N (.branch (2 * t + 1) e e2) := by
          show (if (2 * t + 1) % 2 = 1 then _ else _)
          rw [if_pos (by omega), show (2 * t + 1) / 2 = t by omega]
          exact ⟨hnf.2, hc.2, hwf, w2.1⟩
        obtain ⟨o, ⟨q1, q2, q3⟩, q4, q5⟩ := ih o1.1 (.branch (2 * t + 1) e e2) (by omega) g3 hwf'
        refine ⟨o, ⟨fun e' he' => ?_, by omega, q3⟩, fun nf hnf2 M i hM hi σ u post h hsz hcs hcv hY hF => ?_, fun n r hgn hlr hr6 hrk M hM τ q ql qh a post h hME hq hna hY hF => ?_⟩
        · obtain ⟨z1, z2, z3⟩ := q1 e' he'
          rw [es] at z2
          exact ⟨⟨z1.1, fun t0 hx => z1.2 t0 (hx.op w2.2 (hle.pp _ (by omega)))⟩, by omega, z3⟩
        · have hM1 : ∃ M', M = M' + 1 := ⟨M - 1, by omega⟩
          obtain ⟨M', rfl⟩ := hM1
          refine cstep nf hnf2 M' i hM hi σ u post h (fun e2' he2 σ' b1 b2 b3 b4 b5 => ?_) (fun he2 => by rw [ho] at he2; cases he2)
          rw [ho] at he2
          cases he2
          have hu := h.2.2.2.2.2.1
          have hPo := PL_le T o1.1
          have hL := hg.2.2.1
          have nda := nd_pos T e
          have ndb := nd_pos T e2
          have cse := CS.fr b2 e (u - 1) hcs (by omega) (by omega)
          have hd2 := b4.hd
          have hd1 := cse.hd
          have e3 : u + sz T e2 - 1 - sz T e2 = u - 1 := by omega
          refine c_addPair (sa := sz T e) (sb := sz T e2) (na := nd T e) (nb := nd T e2) (ca := cl T e) (cb := cl T e2) b1.2.2.2.2.1 (by omega) (by omega) hse2 hd2.1 (by rw [e3]; exact hd1.1) hd2.2.1 (by rw [e3]; exact hd1.2.1) hd2.2.2.1 (by rw [e3]; exact hd1.2.2.1) (by omega) (by omega) ?_
          have agm := AG.mk σ'.2.2 (u := u + sz T e2) (Nat.le_refl _) (nI (TK T t)) (nI (PL T t)) (-1) (nI (sz T e2 + sz T e + 1)) (nI (ndP (nd T e) (nd T e2))) (bi (cl T e || cl T e2))
          have avm := AV.mk σ'.2.2 (u := u + sz T e2) (Nat.le_refl _) (nI (TK T t)) (nI (PL T t)) (-1) (nI (sz T e2 + sz T e + 1)) (nI (ndP (nd T e) (nd T e2))) (bi (cl T e || cl T e2))
          have eu : u + sz T e2 + 1 - sz T (.branch (2 * t + 1) e e2) = u - sz T e := by rw [es]; omega
          refine q4 nf hnf2 M' (i + 1) (by omega) (by omega) _ (u + sz T e2 + 1) post ?_ (by omega) ?_ ?_ (fun e' he' σ3 d1 d2 d3 d4 d5 => ?_) (fun he' σ3 d1 => hF he' σ3 d1)
          · exact ⟨b1.1, b1.2.1, b1.2.2.1, b1.2.2.2.1, b1.2.2.2.2.1.mk (by omega) _ _ _ _ _ _, by omega, b1.2.2.2.2.2.2⟩
          · show CS T _ (.branch (2 * t + 1) e e2) (u + sz T e2 + 1 - 1)
            rw [show u + sz T e2 + 1 - 1 = u + sz T e2 by omega]
            refine ⟨⟨?_, ?_, ?_, by omega⟩, ?_⟩
            · rw [es, show sz T e + sz T e2 + 1 = sz T e2 + sz T e + 1 by omega]
              exact pk_us
            · rw [en]
              exact pk_us
            · rw [ec]
              exact pk_us
            · rw [if_pos (by omega), show (2 * t + 1) / 2 = t by omega]
              refine ⟨pk_us, pk_us, CS.fr agm e2 _ b4 (by omega) (by omega), ?_⟩
              rw [e3]
              exact CS.fr agm e _ cse (by omega) (by omega)
          · show CV T _ (.branch (2 * t + 1) e e2) (u + sz T e2 + 1 - 1)
            rw [show u + sz T e2 + 1 - 1 = u + sz T e2 by omega]
            show (if (2 * t + 1) % 2 = 1 then _ else _)
            rw [if_pos (by omega), e3]
            exact ⟨CV.fr avm e2 _ b5 (by omega) (by omega), CV.fr avm e _ (CV.fr b3 e _ hcv (by omega) (by omega)) (by omega) (by omega)⟩
          · rw [eu] at d1 d2 d3 d4 d5
            refine hY e' he' σ3 d1 ?_ ?_ d4 d5
            · exact (b2.tr agm (l := 0) (m := u) (Nat.le_refl _) (Nat.le_refl _) (Nat.le_refl _) (by omega)).tr d2 (Nat.le_refl _) (Nat.le_refl _) (by omega) (Nat.le_refl _)
            · exact (b3.tr avm (l := 0) (m := u) (Nat.le_refl _) (Nat.le_refl _) (Nat.le_refl _) (by omega)).tr d3 (Nat.le_refl _) (Nat.le_refl _) (by omega) (Nat.le_refl _)
        · have hbd := hME.bd
          refine up n r hlr hr6 (by omega) τ q a post M (by omega) h (fun M' hM' => ?_) hM
          have hM1 : ∃ M2, M' = M2 + 1 := ⟨M' - 1, by omega⟩
          obtain ⟨M2, rfl⟩ := hM1
          refine mstep n hgn M2 hM' τ q ql qh a post h hME hq hna (fun e2' he2 τ' q' b1 b2 b3 b4 b5 b6 => ?_) (fun he2 => by rw [ho] at he2; cases he2)
          rw [ho] at he2
          cases he2
          refine q5 n (lvl (TK T t)) hgn hc.1 (by omega) (by omega) M2 (by omega) τ' q' ql q' q post b1 b6 (Nat.le_refl _) b5 (fun e' he' τ3 q3 i d1 d2 d3 d4 d5 d6 => ?_) (fun he' τ3 q3 i d1 d2 d3 d4 d5 d6 => ?_)
          · exact hY e' he' τ3 q3 i d1 (by omega) (b3.tr d3) (b4.tr d4 (Nat.le_refl _)) d5 d6
          · exact hF he' τ3 q3 i d1 (b3.tr d2) (b4.tr d3 (Nat.le_refl _)) d4 d5 d6
    · refine ⟨(t, some e), ⟨fun e' he' => ?_, Nat.le_refl t, ht⟩, fun nf hnf M i hM hi σ u post h hsz hcs hcv hY hF => ?_, fun n r hgn hlr hr6 hrk M hM τ q ql qh a post h hME hq hna hY hF => ?_⟩
      · cases he'
        exact ⟨⟨hwf, fun t0 hx => hx⟩, Nat.le_refl _, by have := lvl_le (TK T t); show lvl (TK T t) < l ∨ lvl (TK T t) = 7; omega⟩
      · have done : post σ := by
          have h2 : u - sz T e + sz T e = u := by omega
          refine hY e rfl σ ?_ (AG.rf _ _ _) (AV.rf _ _ _) ?_ ?_
          · rw [h2]; exact h
          · rw [h2]; exact hcs
          · rw [h2]; exact hcv
        obtain ⟨a1, a2, a3, a4, a5, a6, a7⟩ := id h
        cases M with
        | zero => omega
        | succ M =>
          show wb_X7_parts_9 (wg_rd nf) post _ σ (nI l) (nI d) (nI i)
          refine ⟨fun _ => done, fun _ => ⟨fun _ => done, fun _ => c_kind a2 a3 a4 (c_place a2 a3 a4 (c_level hkr.1 ⟨fun c => absurd c ?_, fun _ => done⟩))⟩⟩
          unfold lv32
          split
          · exact nI_ge (by omega) (by omega)
          · have e1 : (-1 : Int32).toInt = -1 := by decide
            intro z
            have z := Int32.le_iff_toInt_le.mp z
            rw [nI_toInt (by omega), e1] at z
            omega
      · cases M with
        | zero => omega
        | succ M =>
          have hbd := hME.bd
          have hlv : lvl (TK T t) < l ∨ lvl (TK T t) = 7 := by have := lvl_le (TK T t); omega
          have done : post (nI a) τ := hY e rfl τ q a h (Nat.le_refl _) (MOF.rf τ) (HP.rf τ ql) hna (hME.wd (Nat.le_refl _) hq)
          obtain ⟨a1, a2, a3, a4, a5, a6⟩ := id h
          refine ⟨fun c => absurd a1 c, fun _ => ?_⟩
          show vp_in τ.1.1.2.1.1 3002 ∧ wp_X12_rank (τ.1.1.1.2.1 (τ.1.1.2.1.1).toNatClampNeg) _
          rw [a2, nI_clamp (by omega), m_tok a4 a3]
          refine ⟨in_k (by omega) (by omega), m_rank hkr.1 hkr.2 ⟨fun _ => m_fall hN h hlv done _ (by omega), fun c => absurd c ?_⟩⟩
          unfold lv32
          split
          · intro z
            have := (nI_eq (by omega) (by omega)).mp z
            omega
          · intro z
            exact nI_nem1 (by omega) z.symm
end Tail
