section Mev
/-- only what a look at an EXPR writes has changed -/
abbrev est (τ : SX12) (o : Nat → Int32) (en ep : Int32) : SX12 := (τ.1, (τ.2.1, (((τ.2.2.1.1.1, (en, ep)), (τ.2.2.1.2.1, (o, τ.2.2.1.2.2.2))), τ.2.2.2)))
def ER (τ τ' : SX12) (lo hi : Nat) : Prop := ∃ o en ep, τ' = est τ o en ep ∧ ∀ j, (j < lo ∨ hi ≤ j) → o j = τ.2.2.1.2.2.1 j
theorem ER.rf (τ : SX12) (lo hi : Nat) : ER τ τ lo hi := ⟨τ.2.2.1.2.2.1, τ.2.2.1.1.2.1, τ.2.2.1.1.2.2, rfl, fun _ _ => rfl⟩
theorem ER.tr {a b c : SX12} {lo hi lo' hi' l m : Nat} (h : ER a b lo hi) (k : ER b c lo' hi') (h1 : l ≤ lo) (h2 : l ≤ lo') (h3 : hi ≤ m) (h4 : hi' ≤ m) : ER a c l m := by
  obtain ⟨o, en, ep, rfl, h5⟩ := h
  obtain ⟨o', en', ep', rfl, k5⟩ := k
  exact ⟨o', en', ep', rfl, fun j hj => (k5 j (by omega)).trans (h5 j (by omega))⟩
theorem ER.wd {a b : SX12} {lo hi l m : Nat} (h : ER a b lo hi) (h1 : l ≤ lo) (h3 : hi ≤ m) : ER a b l m := by
  obtain ⟨o, en, ep, rfl, h5⟩ := h
  exact ⟨o, en, ep, rfl, fun j hj => h5 j (by omega)⟩
theorem ER.sh {τ τ' : SX12} {lo hi : Nat} (h : ER τ τ' lo hi) : τ'.1.1.2.2.1 = τ.1.1.2.2.1 ∧ τ'.1.1.2.2.2.1 = τ.1.1.2.2.2.1 ∧ τ'.1.1.2.2.2.2 = τ.1.1.2.2.2.2 ∧ τ'.1.2.1.1.1 = τ.1.2.1.1.1 ∧ τ'.1.2.1.1.2.2 = τ.1.2.1.1.2.2 ∧ τ'.2.1.2.1.2.2 = τ.2.1.2.1.2.2 ∧ τ'.1 = τ.1 := by
  obtain ⟨o, en, ep, rfl, h5⟩ := h
  exact ⟨rfl, rfl, rfl, rfl, rfl, rfl, rfl⟩
theorem ER.out {τ τ' : SX12} {lo hi : Nat} (h : ER τ τ' lo hi) : ∀ j, (j < lo ∨ hi ≤ j) → τ'.2.2.1.2.2.1 j = τ.2.2.1.2.2.1 j := by
  obtain ⟨o, en, ep, rfl, h5⟩ := h
  exact h5
theorem ER.me {T : TX} {τ τ' : SX12} {lo hi : Nat} (h : ER τ τ' lo hi) {e : Tr} {l m i : Nat} (k : ME T τ e l m i) : ME T τ' e l m i := by
  obtain ⟨s1, s2, s3, s4, _⟩ := h.sh
  refine ME.fr (τ := τ) e l m i (fun j _ _ => ?_) (fun j _ _ _ => ?_) k
  · rw [s1, s2, s3]
    exact ⟨rfl, rfl, rfl⟩
  · rw [s4]
theorem ER.mj {T : TX} {g : List DD} {τ τ' : SX12} {lo hi : Nat} (h : ER τ τ' lo hi) {e : Tr} {l m i : Nat} (hm : m ≤ 9000) (k0 : ME T τ e l m i) (k : MJ T g τ e i) : MJ T g τ' e i := by
  obtain ⟨s1, s2, s3, s4, s5, _⟩ := h.sh
  exact MJ.fr (τ := τ) s3 s4 e l m i hm k0 (fun j _ _ => by rw [s5]) k
theorem ER.mji {T : TX} {N : Nat} {g : List DD} {τ τ' : SX12} {lo hi : Nat} (h : ER τ τ' lo hi) (k : MJI T N g τ) : MJI T N g τ' := by
  obtain ⟨o, en, ep, rfl, h5⟩ := h
  exact k
theorem ER.o1 {τ : SX12} (s : Int32) (i : Nat) : ER τ (τ.1, (τ.2.1, ((τ.2.2.1.1, (τ.2.2.1.2.1, ((upd τ.2.2.1.2.2.1 i s), τ.2.2.1.2.2.2))), τ.2.2.2))) i (i + 1) := ⟨_, _, _, rfl, fun j hj => pk_un (by omega)⟩
theorem ER.st (τ : SX12) (y x : Int32) (lo hi : Nat) : ER τ (τ.1, (τ.2.1, (((τ.2.2.1.1.1, (y, x)), τ.2.2.1.2), τ.2.2.2))) lo hi := ⟨_, _, _, rfl, fun j hj => rfl⟩
/-- how a look at an EXPR comes out -/
def OE (T : TX) (g : List DD) (τ τ' : SX12) (v : Int32) (e : Tr) : Prop :=
  (¬ τ.2.2.1.1.2.1 = 0 → τ'.2.2.1.1.2.1 = τ.2.2.1.1.2.1 ∧ τ'.2.2.1.1.2.2 = τ.2.2.1.1.2.2) ∧
  (τ.2.2.1.1.2.1 = 0 → (∀ x, ev T g τ.2.1.2.1.2.2 e = .ok x → τ'.2.2.1.1.2.1 = 0 ∧ τ'.2.2.1.1.2.2 = τ.2.2.1.1.2.2 ∧ v = x) ∧ (∀ t, ev T g τ.2.1.2.1.2.2 e = .error t → τ'.2.2.1.1.2.1 = 1 ∧ τ'.2.2.1.1.2.2 = nI (PL T t)))
def EVp (T : TX) (N : Nat) (g : List DD) (e : Tr) : Prop := ∀ (n lo hi i : Nat) (τ : SX12) (post : Int32 → SX12 → Prop), hc e ≤ n → ME T τ e lo hi i → MJ T g τ e i → WF T N e → hi ≤ 9000 → MJI T N g τ → (∀ v τ', ER τ τ' lo hi → OE T g τ τ' v e → post v τ') → wg_ev n 0 τ [nI i] post
def LEp (T : TX) (N : Nat) (g : List DD) (e : Tr) : Prop := ∀ (n lo hi i : Nat) (τ : SX12) (x1 M0 : Nat) (post : Int32 → SX12 → Prop), hc e ≤ n + 1 → ME T τ e lo hi i → MJ T g τ e i → WF T N e → hi ≤ 9000 → MJI T N g τ → (x1 = i ∨ x1 < lo ∨ hi ≤ x1) → x1 < 9000 →
  (∀ v τ', ER τ τ' lo hi → OE T g τ τ' v e → τ'.2.2.1.2.2.1 i = τ.2.2.1.2.2.1 i → wp_X12_eval_12 (wg_ev n) post M0 τ' (nI x1) (nI i) v) → ∃ M, wp_X12_leftmost_2 (fun r1 τ2 => wg_ev n 1 τ2 [r1] (fun r3 τ4 => ∃ n12, wp_X12_eval_12 (wg_ev n) post n12 τ4 (nI x1) r1 r3)) M τ (nI i)
theorem ev_of {T : TX} {N : Nat} {g : List DD} {e : Tr} (h : LEp T N g e) : EVp T N g e := by
  intro n lo hi i τ post hn hm hmj hw hh hj hp
  have h2 := hc_2 e
  obtain ⟨n', rfl⟩ : ∃ n', n = n' + 1 := ⟨n - 1, by omega⟩
  have bi' := hm.bd
  exact h n' lo hi i τ i 1 post hn hm hmj hw hh hj (Or.inl rfl) (by omega) (fun v τ' r1 r2 _ => ⟨fun _ => hp v τ' r1 r2, fun c => absurd rfl c⟩)
theorem le_stop {T : TX} {N : Nat} {g : List DD} {e : Tr} (h : ∀ (n lo hi i : Nat) (τ : SX12) (post : Int32 → SX12 → Prop), hc e ≤ n + 1 → ME T τ e lo hi i → MJ T g τ e i → WF T N e → hi ≤ 9000 → MJI T N g τ → (∀ P : Int32 → Unit → Prop, P (-1) () → wp_X12_rank (τ.1.1.2.2.1 i) P) ∧ ((∀ v τ', ER τ τ' lo hi → OE T g τ τ' v e → τ'.2.2.1.2.2.1 i = τ.2.2.1.2.2.1 i → post v τ') → wg_ev n 1 τ [nI i] post)) : LEp T N g e := by
  intro n lo hi i τ x1 M0 post hn hm hmj hw hh hj hx hx9 hp
  have bi' := hm.bd
  obtain ⟨r1, r2⟩ := h n lo hi i τ (fun r3 τ4 => ∃ n12, wp_X12_eval_12 (wg_ev n) post n12 τ4 (nI x1) (nI i) r3) hn hm hmj hw hh hj
  have key : wb_X12_leftmost_2 (fun r1 τ2 => wg_ev n 1 τ2 [r1] (fun r3 τ4 => ∃ n12, wp_X12_eval_12 (wg_ev n) post n12 τ4 (nI x1) r1 r3)) (fun _ => False) τ (nI i) := by
    refine ⟨in_k (by omega) (by omega), ?_⟩
    rw [nI_clamp (by omega)]
    exact r1 _ ⟨fun _ => r2 (fun v τ' q1 q2 q3 => ⟨M0, hp v τ' q1 q2 q3⟩), fun c => absurd rfl c⟩
  exact ⟨1, key⟩
theorem OE.ended {T : TX} {g : List DD} {τ : SX12} {v : Int32} {e : Tr} (c : ¬ τ.2.2.1.1.2.1 = 0) : OE T g τ τ v e := ⟨fun _ => ⟨rfl, rfl⟩, fun z => absurd z c⟩
theorem OE.val {T : TX} {g : List DD} {τ : SX12} {v : Int32} {e : Tr} (c : τ.2.2.1.1.2.1 = 0) (h : ev T g τ.2.1.2.1.2.2 e = .ok v) : OE T g τ τ v e := by
  refine ⟨fun z => absurd c z, fun _ => ⟨fun x hx => ?_, fun t ht => ?_⟩⟩
  · rw [h] at hx
    cases hx
    exact ⟨c, rfl, rfl⟩
  · rw [h] at ht
    cases ht
theorem le_leaf {T : TX} {N : Nat} {g : List DD} (hv : GV T N g) (hN : N ≤ 3001) (t : Nat) : LEp T N g (.leaf t) := by
  refine le_stop (fun n lo hi i τ post hn hm hmj hw hh hj => ?_)
  obtain ⟨m1, m2, m3, m4, m5⟩ := id hm
  have hn2 : 2 ≤ n + 1 := hn
  obtain ⟨n', rfl⟩ : ∃ n', n = n' + 1 := ⟨n - 1, by omega⟩
  have hkr := TK_r T t
  have hl := hv.len
  have hw2 := hv.2
  refine ⟨fun P h => ?_, fun hp => ?_⟩
  · rw [m3]
    refine m_rank hkr.1 hkr.2 ?_
    have : lv32 (TK T t) = -1 := by
      rcases hw.2 with q | q <;> (rw [q]; rfl)
    rw [this]
    exact h
  · refine ⟨fun c0 => ⟨in_k (by omega) (by omega), ?_⟩, fun c => hp 0 τ (ER.rf _ _ _) (OE.ended c) rfl⟩
    rw [nI_clamp (by omega)]
    have m3' : τ.1.1.2.2.1 i = nI (kM (TK T t)) := m3
    have m4' : τ.1.1.2.2.2.1 i = nI t := m4
    rcases hw.2 with K | K
    · rw [m3', K]
      rcases hmj with hmj | ⟨k, hk, hmk⟩
      · omega
      have hkl := fdI_lt g t k hk
      have hmk' : τ.1.2.1.1.2.2 i = nI k := hmk
      obtain ⟨q1, q2, q3, q4, q5⟩ := hj.2.2.2.2.1 k hkl
      have q3' : τ.1.2.2.1.1 k = nI (fw T g k) := q3
      have n6 := wds_take (T := T) hkl
      have n6 : fw T g k + dsz T (gx g k) ≤ wds T g := n6
      have n7 := (hv.1 _ (gx_mem hkl)).2.1
      refine ⟨fun _ => ⟨in_k (by omega) (by omega), ?_⟩, fun c => absurd rfl c⟩
      rw [hmk', nI_clamp (show k < 2 ^ 31 by omega), q3', nI_clamp (show fw T g k < 2 ^ 31 by omega)]
      refine ⟨in_k (by omega) (by omega), in_k (by omega) (by omega), hp _ τ (ER.rf _ _ _) (OE.val c0 ?_) rfl⟩
      rw [ev, if_neg (by omega), nmk, hk]
      rfl
    · rw [m3', K]
      refine ⟨fun c => absurd c (by decide), fun _ => ⟨fun _ => ⟨in_k (by omega) (by omega), ?_⟩, fun c => absurd rfl c⟩⟩
      rw [m4']
      refine m_number hj.1 hj.2.1 hN (by have := hw.1; omega) K (hp _ τ (ER.rf _ _ _) (OE.val c0 ?_) rfl)
      rw [ev, if_pos K]
theorem le_op {T : TX} {N : Nat} {g : List DD} (p : Nat) (a b : Tr) (q : p % 2 = 1) (hA : LEp T N g a) (hB : EVp T N g b) : LEp T N g (.branch p a b) := by
  intro n lo hi i τ x1 M0 post hn hm hmj hw hh hj hx hx9 hp
  have hm0 := hm
  obtain ⟨m1, m2, m3⟩ := hm
  rw [if_pos q] at m3
  obtain ⟨k1, k2, la, ha, x, lb, hb, y, q1, q2, q3, q4, q5, q6, q7, q8, q9⟩ := m3
  have bx := q6.bd
  have bb := q8.bd
  rw [WF, if_pos q] at hw
  obtain ⟨w1, w2, w3, w4⟩ := hw
  rw [hc, if_pos q] at hn
  have hna : hc a ≤ n + 1 := by omega
  have hnb : hc b ≤ n := by omega
  have hkr := TK_r T (p / 2)
  have ex : c1 τ i = x := by unfold c1; rw [q5, nI_clamp (by omega)]
  have ey : c2 τ i = y := by unfold c2; rw [ex, q7, nI_clamp (by omega)]
  rw [MJ, if_pos q, ex, ey] at hmj
  have r0 : ER τ (τ.1, (τ.2.1, ((τ.2.2.1.1, (τ.2.2.1.2.1, ((upd τ.2.2.1.2.2.1 x (nI i)), τ.2.2.1.2.2.2))), τ.2.2.2))) x (x + 1) := ER.o1 (nI i) x
  have key := hA n la ha x (τ.1, (τ.2.1, ((τ.2.2.1.1, (τ.2.2.1.2.1, ((upd τ.2.2.1.2.2.1 x (nI i)), τ.2.2.1.2.2.2))), τ.2.2.2))) x1 (M0 + 1) post hna (r0.me q6) (r0.mj (by omega) q6 hmj.1) w3 (by omega) (r0.mji hj) (by omega) hx9 (fun v1 τ1 f1 f2 f3 => ?_)
  · obtain ⟨M, hM⟩ := key
    refine ⟨M + 1, ?_⟩
    show wb_X12_leftmost_2 (fun r1 τ2 => wg_ev n 1 τ2 [r1] (fun r3 τ4 => ∃ n12, wp_X12_eval_12 (wg_ev n) post n12 τ4 (nI x1) r1 r3)) (fun a => wp_X12_leftmost_2 (fun r1 τ2 => wg_ev n 1 τ2 [r1] (fun r3 τ4 => ∃ n12, wp_X12_eval_12 (wg_ev n) post n12 τ4 (nI x1) r1 r3)) M a.1 a.2) τ (nI i)
    refine ⟨in_k (by omega) (by omega), ?_⟩
    rw [nI_clamp (by omega)]
    have k1' : τ.1.1.2.2.1 i = nI (kM (TK T (p / 2))) := k1
    have q5' : τ.1.1.2.2.2.2 i = nI x := q5
    rw [k1']
    refine m_rank hkr.1 hkr.2 ?_
    unfold lv32
    rw [if_pos w2]
    refine ⟨fun c => absurd c (nI_nem1 (by omega)), fun _ => ⟨in_k (by omega) (by omega), ?_⟩⟩
    rw [q5', nI_clamp (by omega)]
    refine ⟨in_k (by omega) (by omega), fun y3 e3 => ⟨in_k (by omega) (by omega), fun y4 e4 => ?_⟩⟩
    rw [e3, e4]
    exact hM
  · have rr1 : ER τ τ1 lo i := r0.tr f1 (by omega) (by omega) (by omega) (by omega)
    obtain ⟨s1, s2, s3, s4, s5, s6, _⟩ := rr1.sh
    have ox : τ1.2.2.1.2.2.1 x = nI i := by rw [f3]; exact pk_us
    have xx : ¬ nI x = nI x1 := fun c => by
      have := (nI_eq (by omega) (by omega)).mp c
      omega
    show wb_X12_eval_12 (wg_ev n) post (fun a => wp_X12_eval_12 (wg_ev n) post M0 a.1 a.2.1 a.2.2.1 a.2.2.2) τ1 (nI x1) (nI x) v1
    refine ⟨fun c => absurd c xx, fun _ => ⟨in_k (by omega) (by omega), fun y5 e5 => ?_⟩⟩
    rw [nI_clamp (by omega)] at e5
    have e5 : y5 = nI i := e5.trans ox
    have fi : τ1.1.1.2.2.2.2 i = nI x := by
      show τ1.1.1.2.2.2.2 i = _
      rw [s3]
      exact q5
    have nx : τ1.1.2.1.1.1 x = nI y := by
      show τ1.1.2.1.1.1 x = _
      rw [s4]
      exact q7
    rw [e5, nI_clamp (show i < 2 ^ 31 by omega), fi, nI_clamp (show x < 2 ^ 31 by omega), nx]
    refine ⟨in_k (by omega) (by omega), in_k (by omega) (by omega), ?_⟩
    refine hB n lb hb y τ1 _ hnb (rr1.me q8) (rr1.mj (by omega) q8 hmj.2) w4 (by omega) (rr1.mji hj) (fun v2 τ2 g1 g2 => ?_)
    have rr2 : ER τ τ2 lo hi := rr1.tr g1 (by omega) (by omega) (by omega) (by omega)
    obtain ⟨t1, t2, t3, t4, t5, t6, _⟩ := rr2.sh
    have ki2 : τ2.1.1.2.2.1 i = nI (kM (TK T (p / 2))) := by
      show τ2.1.1.2.2.1 i = _
      rw [t1]
      exact k1
    have ov2 : τ2.2.2.1.2.2.1 i = τ.2.2.1.2.2.1 i := (g1.out i (by omega)).trans ((f1.out i (by omega)).trans (r0.out i (by omega)))
    have s6' : τ1.2.1.2.1.2.2 = τ.2.1.2.1.2.2 := s6
    have f2v : ((τ.1, (τ.2.1, ((τ.2.2.1.1, (τ.2.2.1.2.1, ((upd τ.2.2.1.2.2.1 x (nI i)), τ.2.2.1.2.2.2))), τ.2.2.2))) : SX12).2.1.2.1.2.2 = τ.2.1.2.1.2.2 := rfl
    -- how both parts come out
    have evb : ev T g τ.2.1.2.1.2.2 (.branch p a b) = (match ev T g τ.2.1.2.1.2.2 a with
      | .error z => .error z
      | .ok x => match ev T g τ.2.1.2.1.2.2 b with
        | .error z => .error z
        | .ok y => .ok (two (TK T (p / 2)) x y)) := by rw [ev, if_pos q] <;> rfl
    refine ⟨fun c => ?_, fun c => ⟨in_k (by omega) (by omega), ?_⟩⟩
    · -- it has ended
      have c : ¬ τ2.2.2.1.1.2.1 = 0 := c
      refine hp 0 τ2 rr2 ?_ ov2
      refine ⟨fun c0 => ?_, fun c0 => ⟨fun xx hxx => ?_, fun tt htt => ?_⟩⟩
      · obtain ⟨z1, z2⟩ := f2.1 c0
        have n1 : ¬ τ1.2.2.1.1.2.1 = 0 := by rw [z1]; exact c0
        obtain ⟨y1, y2⟩ := g2.1 n1
        exact ⟨y1.trans z1, y2.trans z2⟩
      · exfalso
        rw [evb] at hxx
        cases ha' : ev T g τ.2.1.2.1.2.2 a with
        | error z => rw [ha'] at hxx; cases hxx
        | ok xa =>
          rw [ha'] at hxx
          dsimp only at hxx
          cases hb' : ev T g τ.2.1.2.1.2.2 b with
          | error z => rw [hb'] at hxx; cases hxx
          | ok xb =>
            obtain ⟨z1, z2, z3⟩ := (f2.2 c0).1 xa ha'
            obtain ⟨y1, y2, y3⟩ := (g2.2 z1).1 xb (by rw [s6']; exact hb')
            exact c y1
      · rw [evb] at htt
        cases ha' : ev T g τ.2.1.2.1.2.2 a with
        | error z =>
          rw [ha'] at htt
          cases htt
          obtain ⟨z1, z2⟩ := (f2.2 c0).2 _ ha'
          have n1 : ¬ τ1.2.2.1.1.2.1 = 0 := by rw [z1]; decide
          obtain ⟨y1, y2⟩ := g2.1 n1
          exact ⟨y1.trans z1, y2.trans z2⟩
        | ok xa =>
          rw [ha'] at htt
          dsimp only at htt
          cases hb' : ev T g τ.2.1.2.1.2.2 b with
          | error z =>
            rw [hb'] at htt
            cases htt
            obtain ⟨z1, z2, z3⟩ := (f2.2 c0).1 xa ha'
            exact (g2.2 z1).2 _ (by rw [s6']; exact hb')
          | ok xb => rw [hb'] at htt; cases htt
    · have c : τ2.2.2.1.1.2.1 = 0 := c
      have c1 : τ1.2.2.1.1.2.1 = 0 := by
        by_cases z : τ1.2.2.1.1.2.1 = 0
        · exact z
        · exact absurd ((g2.1 z).1.symm.trans c) z
      have c0 : τ.2.2.1.1.2.1 = 0 := by
        by_cases z : τ.2.2.1.1.2.1 = 0
        · exact z
        · exact absurd ((f2.1 z).1.symm.trans c1) z
      obtain ⟨xa, ha', z2, z3⟩ : ∃ xa, ev T g τ.2.1.2.1.2.2 a = .ok xa ∧ τ1.2.2.1.1.2.2 = τ.2.2.1.1.2.2 ∧ v1 = xa := by
        cases ha' : ev T g τ.2.1.2.1.2.2 a with
        | error z => exact absurd (((f2.2 c0).2 z ha').1.symm.trans c1) (by decide)
        | ok xa => exact ⟨xa, rfl, ((f2.2 c0).1 xa ha').2⟩
      obtain ⟨xb, hb', y2, y3⟩ : ∃ xb, ev T g τ.2.1.2.1.2.2 b = .ok xb ∧ τ2.2.2.1.1.2.2 = τ1.2.2.1.1.2.2 ∧ v2 = xb := by
        cases hb' : ev T g τ.2.1.2.1.2.2 b with
        | error z => exact absurd (((g2.2 c1).2 z (by rw [s6']; exact hb')).1.symm.trans c) (by decide)
        | ok xb => exact ⟨xb, rfl, ((g2.2 c1).1 xb (by rw [s6']; exact hb')).2⟩
      rw [ki2, z3, y3]
      refine m_two w2 (hp _ τ2 rr2 ?_ ov2)
      refine ⟨fun z => absurd c0 z, fun _ => ⟨fun xx hxx => ?_, fun tt htt => ?_⟩⟩
      · rw [evb, ha'] at hxx
        dsimp only at hxx
        rw [hb'] at hxx
        cases hxx
        exact ⟨c, y2.trans z2, rfl⟩
      · rw [evb, ha'] at htt
        dsimp only at htt
        rw [hb'] at htt
        cases htt
theorem le_un {T : TX} {N : Nat} {g : List DD} (p : Nat) (a b : Tr) (q : ¬ p % 2 = 1) (q2 : ¬ TK T (p / 2) = 2) (hA : EVp T N g a) : LEp T N g (.branch p a b) := by
  refine le_stop (fun n lo hi i τ post hn hm hmj hw hh hj => ?_)
  obtain ⟨m1, m2, m3⟩ := id hm
  rw [if_neg q, if_neg q2] at m3
  obtain ⟨k1, k2, la, ha, x, r1, r2, r3, r4, r5⟩ := m3
  have bx := r4.bd
  rw [WF, if_neg q, if_neg q2] at hw
  obtain ⟨w1, w2, w3⟩ := hw
  rw [hc, if_neg q] at hn
  have ex : c1 τ i = x := by unfold c1; rw [r3, nI_clamp (by omega)]
  rw [MJ, if_neg q, if_neg q2, ex] at hmj
  have h2 := hc_2 a
  obtain ⟨n', rfl⟩ : ∃ n', n = n' + 1 := ⟨n - 1, by omega⟩
  have k1' : τ.1.1.2.2.1 i = nI (if TK T (p / 2) = 45 then 304 else TK T (p / 2)) := k1
  have ks : (TK T (p / 2) = 45 ∧ τ.1.1.2.2.1 i = 304) ∨ (TK T (p / 2) = 126 ∧ τ.1.1.2.2.1 i = nI (kM 126)) ∨ (TK T (p / 2) = 33 ∧ τ.1.1.2.2.1 i = nI (kM 33)) := by
    rcases w2 with z | z | z
    · exact Or.inl ⟨z, by rw [k1', if_pos z]; rfl⟩
    · exact Or.inr (Or.inl ⟨z, by rw [k1', if_neg (by omega), z]; rfl⟩)
    · exact Or.inr (Or.inr ⟨z, by rw [k1', if_neg (by omega), z]; rfl⟩)
  refine ⟨fun P h => ?_, fun hp => ?_⟩
  · show wp_X12_rank (τ.1.1.2.2.1 i) P
    rcases ks with ⟨_, z⟩ | ⟨_, z⟩ | ⟨_, z⟩
    · rw [z]
      exact rank_no (Or.inr rfl) h
    · rw [z]
      exact m_rank (by omega) (by omega) h
    · rw [z]
      exact m_rank (by omega) (by omega) h
  · refine ⟨fun c0 => ⟨in_k (by omega) (by omega), ?_⟩, fun c => hp 0 τ (ER.rf _ _ _) (OE.ended c) rfl⟩
    rw [nI_clamp (by omega)]
    have r3' : τ.1.1.2.2.2.2 i = nI x := r3
    have evu : ev T g τ.2.1.2.1.2.2 (.branch p a b) = (match ev T g τ.2.1.2.1.2.2 a with
      | .error z => .error z
      | .ok x => .ok (one (TK T (p / 2)) x)) := by rw [ev, if_neg q, if_neg q2] <;> rfl
    have fin : ∀ (v v1 : Int32) (τ1 : SX12), ER τ τ1 la ha → OE T g τ τ1 v1 a → v = one (TK T (p / 2)) v1 → post v τ1 := by
      intro v v1 τ1 g1 g2 hv1
      refine hp v τ1 (g1.wd (by omega) (by omega)) ⟨g2.1, fun c => ⟨fun xx hxx => ?_, fun tt htt => ?_⟩⟩ (g1.out i (by omega))
      · rw [evu] at hxx
        cases ha' : ev T g τ.2.1.2.1.2.2 a with
        | error z => rw [ha'] at hxx; cases hxx
        | ok xa =>
          rw [ha'] at hxx
          cases hxx
          obtain ⟨z1, z2, z3⟩ := (g2.2 c).1 xa ha'
          exact ⟨z1, z2, by rw [hv1, z3]⟩
      · rw [evu] at htt
        cases ha' : ev T g τ.2.1.2.1.2.2 a with
        | error z =>
          rw [ha'] at htt
          cases htt
          exact (g2.2 c).2 _ ha'
        | ok xa => rw [ha'] at htt; cases htt
    rcases ks with ⟨K, z⟩ | ⟨K, z⟩ | ⟨K, z⟩
    · rw [z, r3']
      refine ⟨fun c => absurd c (by decide), fun _ => ⟨fun c => absurd c (by decide), fun _ => ⟨fun c => absurd c (by decide), fun _ => ⟨fun c => absurd c (by decide), fun _ => ⟨fun _ => ⟨in_k (by omega) (by omega), ?_⟩, fun c => absurd rfl c⟩⟩⟩⟩⟩
      refine hA n' la ha x τ _ (by omega) r4 hmj w3 (by omega) hj (fun v1 τ1 g1 g2 => fin _ v1 τ1 g1 g2 ?_)
      rw [K]
      exact (Int32.zero_sub v1).symm
    · rw [z, r3']
      refine ⟨fun c => absurd c (by decide), fun _ => ⟨fun c => absurd c (by decide), fun _ => ⟨fun _ => ⟨in_k (by omega) (by omega), ?_⟩, fun c => absurd rfl c⟩⟩⟩
      refine hA n' la ha x τ _ (by omega) r4 hmj w3 (by omega) hj (fun v1 τ1 g1 g2 => fin _ v1 τ1 g1 g2 ?_)
      rw [K]
      rfl
    · rw [z, r3']
      refine ⟨fun c => absurd c (by decide), fun _ => ⟨fun c => absurd c (by decide), fun _ => ⟨fun c => absurd c (by decide), fun _ => ⟨fun c => absurd c (by decide), fun _ => ⟨fun c => absurd c (by decide), fun _ => ⟨in_k (by omega) (by omega), ?_⟩⟩⟩⟩⟩⟩
      have e33 : ∀ v, one 33 v = if v = 0 then 1 else 0 := fun v => jv3 v
      refine hA n' la ha x τ _ (by omega) r4 hmj w3 (by omega) hj (fun v1 τ1 g1 g2 => ⟨fun c => fin _ v1 τ1 g1 g2 ?_, fun c => fin _ v1 τ1 g1 g2 ?_⟩)
      · rw [K, e33, if_neg c]
      · rw [K, e33, if_pos c]
theorem le_item {T : TX} {N : Nat} {g : List DD} (hv : GV T N g) (hN : N ≤ 3001) (p : Nat) (a b : Tr) (q : ¬ p % 2 = 1) (q2 : TK T (p / 2) = 2) (hA : EVp T N g a) : LEp T N g (.branch p a b) := by
  refine le_stop (fun n lo hi i τ post hn hm hmj hw hh hj => ?_)
  obtain ⟨m1, m2, m3⟩ := id hm
  rw [if_neg q, if_pos q2] at m3
  obtain ⟨k1, k2, w, la, ha, x, r1, r2, r3, r4, r5, r6, r7, r8⟩ := m3
  have bx := r7.bd
  rw [WF, if_neg q, if_pos q2] at hw
  obtain ⟨w1, w2, w3⟩ := hw
  rw [hc, if_neg q] at hn
  have ex : c1 τ i = w := by unfold c1; rw [r4, nI_clamp (by omega)]
  have ey : c2 τ i = x := by unfold c2; rw [ex, r6, nI_clamp (by omega)]
  rw [MJ, if_neg q, if_pos q2, ey] at hmj
  obtain ⟨⟨k, hk, hmk⟩, hmj⟩ := hmj
  have hkl := fdI_lt g _ k hk
  have n6 := wds_take (T := T) hkl
  have n6 : fw T g k + dsz T (gx g k) ≤ wds T g := n6
  have n7 := hv.1 _ (gx_mem hkl)
  have n8 := hv.2
  have n9 := hv.len
  have h2 := hc_2 a
  obtain ⟨n', rfl⟩ : ∃ n', n = n' + 1 := ⟨n - 1, by omega⟩
  have k1' : τ.1.1.2.2.1 i = 303 := k1
  refine ⟨fun P h => ?_, fun hp => ?_⟩
  · show wp_X12_rank (τ.1.1.2.2.1 i) P
    rw [k1']
    exact rank_no (Or.inl rfl) h
  · refine ⟨fun c0 => ⟨in_k (by omega) (by omega), ?_⟩, fun c => hp 0 τ (ER.rf _ _ _) (OE.ended c) rfl⟩
    rw [nI_clamp (by omega)]
    have r4' : τ.1.1.2.2.2.2 i = nI w := r4
    have r6' : τ.1.2.1.1.1 w = nI x := r6
    rw [k1', r4', nI_clamp (show w < 2 ^ 31 by omega), r6']
    refine ⟨fun c => absurd c (by decide), fun _ => ⟨fun c => absurd c (by decide), fun _ => ⟨fun c => absurd c (by decide), fun _ => ⟨fun _ => ⟨in_k (by omega) (by omega), in_k (by omega) (by omega), ?_⟩, fun c => absurd rfl c⟩⟩⟩⟩
    have evi : ev T g τ.2.1.2.1.2.2 (.branch p a b) = (match ev T g τ.2.1.2.1.2.2 a with
      | .error z => .error z
      | .ok x => if x.toBitVec.toNat < dsz T (gx g k) then .ok (τ.2.1.2.1.2.2 (fw T g k + x.toBitVec.toNat)) else .error (p / 2 + 1)) := by
      rw [ev, if_neg q, if_pos q2, nmk, hk] <;> rfl
    refine hA n' la ha x τ _ (by omega) r7 hmj w3 (by omega) hj (fun v1 τ1 g1 g2 => ⟨in_k (by omega) (by omega), fun y11 e11 => ?_⟩)
    obtain ⟨s1, s2, s3, s4, s5, s6, s7⟩ := g1.sh
    have hmk1 : τ1.1.2.1.1.2.2 i = nI k := by
      show τ1.1.2.1.1.2.2 i = _
      rw [s5]
      exact hmk
    rw [hmk1] at e11
    rw [e11]
    have gW : ER τ τ1 lo hi := g1.wd (by omega) (by omega)
    have oi := g1.out i (by omega)
    obtain ⟨q1, q2', q3, q4, q5⟩ := (g1.mji hj).2.2.2.2.1 k hkl
    have q3' : τ1.1.2.2.1.1 k = nI (fw T g k) := q3
    have q2'' : τ1.1.2.1.2.2.2 k = nI (dsz T (gx g k)) := q2'
    refine ⟨fun c => ⟨fun _ => ?_, fun z => absurd z c⟩, fun c => ?_⟩
    · have c : ¬ τ1.2.2.1.1.2.1 = 0 := c
      refine hp 0 τ1 gW ⟨g2.1, fun c0 => ⟨fun xx hxx => ?_, fun tt htt => ?_⟩⟩ oi
      · exfalso
        rw [evi] at hxx
        cases ha' : ev T g τ.2.1.2.1.2.2 a with
        | error z => rw [ha'] at hxx; cases hxx
        | ok xa => exact c ((g2.2 c0).1 xa ha').1
      · rw [evi] at htt
        cases ha' : ev T g τ.2.1.2.1.2.2 a with
        | error z =>
          rw [ha'] at htt
          cases htt
          exact (g2.2 c0).2 _ ha'
        | ok xa => exact absurd ((g2.2 c0).1 xa ha').1 c
    · have c : τ1.2.2.1.1.2.1 = 0 := c
      obtain ⟨xa, ha', z2, z3⟩ : ∃ xa, ev T g τ.2.1.2.1.2.2 a = .ok xa ∧ τ1.2.2.1.1.2.2 = τ.2.2.1.1.2.2 ∧ v1 = xa := by
        cases ha' : ev T g τ.2.1.2.1.2.2 a with
        | error z => exact absurd (((g2.2 c0).2 z ha').1.symm.trans c) (by decide)
        | ok xa => exact ⟨xa, rfl, ((g2.2 c0).1 xa ha').2⟩
      rw [ha'] at evi
      dsimp only at evi
      rw [z3]
      have hbv := xa.toBitVec.isLt
      have p152 : xa.toBitVec.toNat < dsz T (gx g k) → wp_X12_evalPart_152 (wg_ev n') post τ1 xa (nI k) := by
        intro hx
        rw [if_pos hx] at evi
        refine ⟨fun z => absurd c z, fun _ => ⟨in_k (by omega) (by omega), ?_⟩⟩
        have e5 : nI (fw T g k) + xa = nI (fw T g k + xa.toBitVec.toNat) := by
          rw [← nI_add, ← of_tn]
        rw [nI_clamp (by omega), q3', e5]
        refine ⟨in_k (by omega) (by omega), hp _ τ1 gW ⟨fun z => absurd c0 z, fun _ => ⟨fun xx hxx => ?_, fun tt htt => ?_⟩⟩ oi⟩
        · rw [evi] at hxx
          cases hxx
          refine ⟨c, z2, ?_⟩
          rw [nI_clamp (by omega)]
          show τ1.2.1.2.1.2.2 _ = _
          rw [s6]
        · rw [evi] at htt
          cases htt
      have p136 : ¬ xa.toBitVec.toNat < dsz T (gx g k) → wp_X12_evalPart_136 (wg_ev n') post τ1 (nI i) xa (nI k) := by
        intro hx
        rw [if_neg hx] at evi
        have f1 : τ1.1.1.2.2.2.2 i = nI w := by
          show τ1.1.1.2.2.2.2 i = _
          rw [s3]
          exact r4
        have f2 : τ1.1.1.2.2.2.1 w = nI (p / 2 + 1) := by
          show τ1.1.1.2.2.2.1 w = _
          rw [s2]
          exact r5
        refine ⟨in_k (by omega) (by omega), ?_⟩
        rw [nI_clamp (by omega), f1, nI_clamp (show w < 2 ^ 31 by omega), f2]
        refine ⟨in_k (by omega) (by omega), fun z => absurd c z, fun _ => ⟨in_k (by omega) (by omega), fun y1 ey1 => ?_⟩⟩
        have hpl : τ1.1.1.1.2.2.1 (p / 2 + 1) = nI (PL T (p / 2 + 1)) := ((g1.mji hj).2.1 _ (by omega)).2.1
        rw [nI_clamp (by omega), hpl] at ey1
        rw [ey1]
        refine ⟨fun _ => hp 0 _ (gW.tr (ER.st τ1 1 (nI (PL T (p / 2 + 1))) lo hi) (Nat.le_refl _) (Nat.le_refl _) (Nat.le_refl _) (Nat.le_refl _)) ⟨fun z => absurd c0 z, fun _ => ⟨fun xx hxx => ?_, fun tt htt => ?_⟩⟩ oi, fun z => absurd z (by decide : ¬ (1 : Int32) = 0)⟩
        · rw [evi] at hxx
          cases hxx
        · rw [evi] at htt
          cases htt
          exact ⟨rfl, rfl⟩
      have hlt0 : xa < 0 ↔ 2147483648 ≤ xa.toBitVec.toNat := by
        rw [Int32.lt_iff_toInt_lt]
        have e0 : (0 : Int32).toInt = 0 := rfl
        rw [e0]
        rcases i32_toInt xa with ⟨a1, a2⟩ | ⟨a1, a2, a3⟩ <;> omega
      refine ⟨fun z => p136 (by have := hlt0.mp z; omega), fun z => ⟨in_k (by omega) (by omega), ?_⟩⟩
      rw [nI_clamp (by omega), q2'']
      have hlt : xa < nI (dsz T (gx g k)) ↔ xa.toBitVec.toNat < dsz T (gx g k) := by
        have z2 : xa.toBitVec.toNat < 2147483648 := by
          by_cases y : xa.toBitVec.toNat < 2147483648
          · exact y
          · exact absurd (hlt0.mpr (by omega)) z
        have e6 : xa = nI xa.toBitVec.toNat := of_tn xa
        have := nI_ltI (a := xa.toBitVec.toNat) (b := dsz T (gx g k)) (by omega) (by omega)
        rw [← e6] at this
        exact this
      exact ⟨fun y => p152 (hlt.mp y), fun y => p136 (fun y2 => y (hlt.mpr y2))⟩
theorem m_le {T : TX} {N : Nat} {g : List DD} (hv : GV T N g) (hN : N ≤ 3001) : ∀ e : Tr, LEp T N g e := by
  intro e
  induction e with
  | leaf t => exact le_leaf hv hN t
  | branch p a b iha ihb =>
    by_cases q : p % 2 = 1
    · exact le_op p a b q iha (ev_of ihb)
    · by_cases q2 : TK T (p / 2) = 2
      · exact le_item hv hN p a b q q2 (ev_of iha)
      · exact le_un p a b q q2 (ev_of iha)
theorem m_ev {T : TX} {N : Nat} {g : List DD} (hv : GV T N g) (hN : N ≤ 3001) (e : Tr) : EVp T N g e := ev_of (m_le hv hN e)
end Mev
