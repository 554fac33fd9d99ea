section Mck
theorem rank_no {a : Int32} {P : Int32 → Unit → Prop} (ha : a = 303 ∨ a = 304) (h : P (-1) ()) : wp_X12_rank a P := by
  have z : ∀ b : Int32, (b = 124 ∨ b = 94 ∨ b = 38 ∨ b = 201 ∨ b = 60 ∨ b = 200 ∨ b = 202 ∨ b = 203 ∨ b = 43 ∨ b = 45 ∨ b = 42 ∨ b = 47 ∨ b = 37) → ¬ a = b := by
    intro b hb e
    rcases ha with q | q <;> rcases hb with r | r | r | r | r | r | r | r | r | r | r | r | r <;> (rw [q, r] at e; exact absurd e (by decide))
  exact ⟨fun _ => ⟨fun _ => ⟨fun _ => ⟨fun c => absurd c (z _ (by simp)), fun _ => ⟨fun c => absurd c (z _ (by simp)), fun _ => ⟨fun _ => ⟨fun c => absurd c (z _ (by simp)), fun _ => ⟨fun _ => ⟨fun c => absurd c (z _ (by simp)), fun _ => ⟨fun _ => ⟨fun c => absurd c (z _ (by simp)), fun _ => ⟨fun c => absurd c (z _ (by simp)), fun _ => ⟨fun _ => h, fun c => absurd c (z _ (by simp))⟩⟩⟩, fun c => absurd c (z _ (by simp))⟩⟩, fun c => absurd c (z _ (by simp))⟩⟩, fun c => absurd c (z _ (by simp))⟩⟩⟩, fun c => absurd c (z _ (by simp))⟩, fun c => absurd c (z _ (by simp))⟩, fun c => absurd c (z _ (by simp))⟩
/-- the check of an EXPR -/
def CKp (T : TX) (N : Nat) (g : List DD) (e : Tr) : Prop := ∀ (n lo hi i : Nat) (w : Bool) (τ : SX12) (post : Int32 → SX12 → Prop), hc e ≤ n → ME T τ e lo hi i → WF T N e → hi ≤ 9000 → MJI T N g τ → (∀ j, lo ≤ j → j < hi → τ.1.2.1.1.2.1 j = 0) → (∀ τ', JR τ τ' lo hi → RJ T g w τ τ' e i → post 0 τ') → wg_ck n 0 τ [nI i, bi w] post
def LMp (T : TX) (N : Nat) (g : List DD) (e : Tr) : Prop := ∀ (n lo hi i : Nat) (w : Bool) (τ : SX12) (x1 M0 : Nat) (post : SX12 → Prop), hc e ≤ n + 1 → ME T τ e lo hi i → WF T N e → hi ≤ 9000 → MJI T N g τ → (∀ j, lo ≤ j → j < hi → τ.1.2.1.1.2.1 j = 0) → (x1 = i ∨ x1 < lo ∨ hi ≤ x1) → x1 < 9000 →
  (∀ τ', JR τ τ' lo hi → RJ T g w τ τ' e i → τ'.2.2.1.2.2.1 i = τ.2.2.1.2.2.1 i → wp_X12_check_12 (wg_ck n) post M0 τ' (nI x1) (bi w) (nI i)) → ∃ M, wp_X12_leftmost_2 (fun r1 τ2 => wg_ck n 1 τ2 [r1, bi w] (fun _ τ4 => ∃ n21, wp_X12_check_12 (wg_ck n) post n21 τ4 (nI x1) (bi w) r1)) M τ (nI i)
theorem ck_of {T : TX} {N : Nat} {g : List DD} {e : Tr} (h2 : 2 ≤ hc e) (h : LMp T N g e) : CKp T N g e := by
  intro n lo hi i w τ post hn hm hw hh hj hz hp
  obtain ⟨n', rfl⟩ : ∃ n', n = n' + 1 := ⟨n - 1, by omega⟩
  have bi' := hm.bd
  exact h n' lo hi i w τ i 1 (post 0) hn hm hw hh hj hz (Or.inl rfl) (by omega) (fun τ' r1 r2 _ => ⟨fun _ => hp τ' r1 r2, fun c => absurd rfl c⟩)
theorem hc_2 : ∀ e : Tr, 2 ≤ hc e := by
  intro e
  induction e with
  | leaf t => exact Nat.le_refl _
  | branch p a b iha ihb =>
    unfold hc
    split
    · omega
    · omega
/-- where the leftmost part is the EXPR itself -/
theorem lm_stop {T : TX} {N : Nat} {g : List DD} {e : Tr} (h : ∀ (n lo hi i : Nat) (w : Bool) (τ : SX12) (post : Int32 → SX12 → Prop), hc e ≤ n + 1 → ME T τ e lo hi i → WF T N e → hi ≤ 9000 → MJI T N g τ → (∀ j, lo ≤ j → j < hi → τ.1.2.1.1.2.1 j = 0) → (∀ P : Int32 → Unit → Prop, P (-1) () → wp_X12_rank (τ.1.1.2.2.1 i) P) ∧ ((∀ τ', JR τ τ' lo hi → RJ T g w τ τ' e i → τ'.2.2.1.2.2.1 i = τ.2.2.1.2.2.1 i → post 0 τ') → wg_ck n 1 τ [nI i, bi w] post)) : LMp T N g e := by
  intro n lo hi i w τ x1 M0 post hn hm hw hh hj hz hx hx9 hp
  have bi' := hm.bd
  obtain ⟨r1, r2⟩ := h n lo hi i w τ (fun _ τ4 => ∃ n21, wp_X12_check_12 (wg_ck n) post n21 τ4 (nI x1) (bi w) (nI i)) hn hm hw hh hj hz
  have key : wb_X12_leftmost_2 (fun r1 τ2 => wg_ck n 1 τ2 [r1, bi w] (fun _ τ4 => ∃ n21, wp_X12_check_12 (wg_ck n) post n21 τ4 (nI x1) (bi w) r1)) (fun _ => False) τ (nI i) := by
    refine ⟨in_k (by omega) (by omega), ?_⟩
    rw [nI_clamp (by omega)]
    exact r1 _ ⟨fun _ => r2 (fun τ' q1 q2 q3 => ⟨M0, hp τ' q1 q2 q3⟩), fun c => absurd rfl c⟩
  exact ⟨1, key⟩
theorem one_ne : ¬ (1 : Int32) = 0 := by decide
/-- keeping a meaning and whether it is secret, in node i -/
theorem JR.ms {τ : SX12} (s v : Int32) (i : Nat) : JR τ ((τ.1.1, (((τ.1.2.1.1.1, ((upd τ.1.2.1.1.2.1 i s), (upd τ.1.2.1.1.2.2 i v))), τ.1.2.1.2), τ.1.2.2)), τ.2) i (i + 1) := ⟨_, _, _, _, _, rfl, fun j hj => ⟨pk_un (by omega), pk_un (by omega), rfl⟩⟩
theorem JR.s1 {τ : SX12} (s : Int32) (i : Nat) : JR τ ((τ.1.1, (((τ.1.2.1.1.1, ((upd τ.1.2.1.1.2.1 i s), τ.1.2.1.1.2.2)), τ.1.2.1.2), τ.1.2.2)), τ.2) i (i + 1) := ⟨_, _, _, _, _, rfl, fun j hj => ⟨pk_un (by omega), rfl, rfl⟩⟩
theorem JR.o1 {τ : SX12} (s : Int32) (i : Nat) : JR τ (τ.1, (τ.2.1, ((τ.2.2.1.1, (τ.2.2.1.2.1, ((upd τ.2.2.1.2.2.1 i s), τ.2.2.1.2.2.2))), τ.2.2.2))) i (i + 1) := ⟨_, _, _, _, _, rfl, fun j hj => ⟨rfl, rfl, pk_un (by omega)⟩⟩
theorem JR.wr (τ : SX12) (y x : Int32) (lo hi : Nat) : JR τ (τ.1, (((τ.2.1.1.1, (τ.2.1.1.2.1, (τ.2.1.1.2.2.1, x))), ((y, τ.2.1.2.1.2), τ.2.1.2.2)), τ.2.2)) lo hi := ⟨_, _, _, _, _, rfl, fun j hj => ⟨rfl, rfl, rfl⟩⟩
theorem lm_leaf {T : TX} {N : Nat} {g : List DD} (hv : GV T N g) (hN : N ≤ 3001) (t : Nat) : LMp T N g (.leaf t) := by
  refine lm_stop (fun n lo hi i w τ post hn hm hw hh hj hz => ?_)
  obtain ⟨m1, m2, m3, m4, m5⟩ := id hm
  have hn2 : 2 ≤ n + 1 := hn
  obtain ⟨n', rfl⟩ : ∃ n', n = n' + 1 := ⟨n - 1, by omega⟩
  have hkr := TK_r T t
  have hl := hv.len
  have hw2 := hv.2
  refine ⟨fun P h => ?_, fun hp => ?_⟩
  · rw [m3]
    refine m_rank hkr.1 hkr.2 ?_
    have : lv32 (TK T t) = -1 := by
      rcases hw.2 with q | q <;> (rw [q]; rfl)
    rw [this]
    exact h
  · have done0 : ¬ τ.2.1.2.1.1 = 0 → post 0 τ := fun c => hp τ (JR.rf _ _ _) ⟨fun _ => ⟨rfl, rfl⟩, fun z => absurd z c⟩ rfl
    refine ⟨fun c0 => ⟨in_k (by omega) (by omega), ?_⟩, fun c => done0 c⟩
    rw [nI_clamp (by omega)]
    have m3' : τ.1.1.2.2.1 i = nI (kM (TK T t)) := m3
    rcases hw.2 with K | K
    · -- a NAME
      rw [m3', K]
      refine ⟨fun c => absurd rfl c, fun _ => ⟨in_k (by omega) (by omega), ?_⟩⟩
      have m4' : τ.1.1.2.2.2.1 i = nI t := m4
      rw [m4']
      have jle : je T g w (.leaf t) = (match fdI T g t with
        | none => .error (1, t)
        | some k => if (gx g k).2.2 = true then .error (3, t) else .ok (dsec T (gx g k))) := by rw [je, if_neg (by omega)] <;> rfl
      -- what is kept at the end, if something was wrong
      have bad : ∀ (τ1 : SX12) (v : Int32), JR τ τ1 lo hi → ¬ τ1.2.1.2.1.1 = 0 → τ1.2.2.1.2.2.1 i = τ.2.2.1.2.2.1 i → (∀ τ', τ'.2.1.2.1.1 = τ1.2.1.2.1.1 → τ'.2.1.1.2.2.2 = τ1.2.1.1.2.2.2 → RJ T g w τ τ' (.leaf t) i) → wp_X12_checkPart_56 (wg_ck n') (post 0) τ1 (nI i) v := by
        intro τ1 v r1 c1 o1 hr
        refine ⟨in_k (by omega) (by omega), fun y ey => ⟨fun _ => ⟨in_k (by omega) (by omega), fun y2 ey2 => ?_⟩, fun c => absurd c c1⟩⟩
        rw [nI_clamp (by omega)] at ey ey2
        rw [ey, ey2]
        exact hp _ (r1.tr (JR.ms (vp_nar .boolean 0) v i) (Nat.le_refl _) (by omega) (Nat.le_refl _) (by omega)) (hr _ rfl rfl) o1
      refine m_findN hj.1 hj.2.1 hN hv hj.2.2 K (by have := hw.1; omega) ?_
      cases hf : fdI T g t with
      | none =>
        rw [hf] at jle
        dsimp only at jle
        refine ⟨fun c => absurd rfl c, fun _ => m_wrong (fun _ => ?_) (fun c => absurd c0 c)⟩
        refine ⟨fun _ => bad _ _ (JR.wr τ 1 (nI t) lo hi) one_ne rfl (fun τ' e1 e2 => ⟨fun c => absurd c0 c, fun _ => ⟨fun s hs => ?_, fun z hz => ?_⟩⟩), fun c => absurd c one_ne⟩
        · rw [jle] at hs
          cases hs
        · rw [jle] at hz
          cases hz
          exact ⟨e1, e2⟩
      | some k =>
        rw [hf] at jle
        dsimp only at jle
        have hk := fdI_lt g t k hf
        have ek : rI 0 (some k) = nI k := by show nI (0 + k) = _; rw [Nat.zero_add]
        rw [ek]
        refine ⟨fun _ => ⟨fun c => absurd c0 c, fun _ => ⟨in_k (by omega) (by omega), ?_⟩⟩, fun c => absurd c (nI_nem1 (by omega))⟩
        rw [nI_clamp (show k < 2 ^ 31 by omega)]
        obtain ⟨q1, q2, q3, q4, q5⟩ := hj.2.2.2.2.1 k hk
        have q4' : τ.1.2.2.1.2.1 k = bi (gx g k).2.2 := q4
        have q5' : τ.1.2.2.1.2.2 k = bi (dsec T (gx g k)) := q5
        rw [q4']
        refine ⟨fun c => ?_, fun c => ⟨in_k (by omega) (by omega), ?_⟩⟩
        · rw [if_neg (by rw [eq0_f c]; decide)] at jle
          refine ⟨in_k (by omega) (by omega), fun y ey => ⟨fun c => absurd c0 c, fun _ => ⟨in_k (by omega) (by omega), ?_⟩⟩⟩
          rw [nI_clamp (by omega)] at ey
          rw [nI_clamp (show k < 2 ^ 31 by omega)]
          show (τ.1.2.2.1.2.2 k = 0 → _) ∧ (¬ τ.1.2.2.1.2.2 k = 0 → _)
          rw [q5']
          have fin : ∀ b : Bool, b = dsec T (gx g k) → post 0 ((τ.1.1, (((τ.1.2.1.1.1, ((upd τ.1.2.1.1.2.1 i (bi b)), y)), τ.1.2.1.2), τ.1.2.2)), τ.2) := by
            intro b hb
            rw [ey]
            refine hp _ ((JR.ms (bi b) (nI k) i).wd (by omega) (by omega)) ⟨fun c => absurd c0 c, fun _ => ⟨fun s hs => ?_, fun z hz => ?_⟩⟩ rfl
            · rw [jle, ← hb] at hs
              cases hs
              exact ⟨c0, pk_us, Or.inr ⟨k, hf, pk_us⟩⟩
            · rw [jle] at hz
              cases hz
          refine ⟨fun c => ⟨in_k (by omega) (by omega), fun y2 ey2 => ?_⟩, fun c => ⟨in_k (by omega) (by omega), fun y2 ey2 => ?_⟩⟩
          · rw [nI_clamp (by omega)] at ey2
            rw [ey2]
            exact fin false (eq0_f c).symm
          · rw [nI_clamp (by omega)] at ey2
            rw [ey2]
            exact fin true (ne0_t c).symm
        · rw [if_pos (ne0_t c)] at jle
          rw [m4']
          refine m_wrong (fun _ => bad _ _ (JR.wr τ 3 (nI t) lo hi) (by decide : ¬ (3 : Int32) = 0) rfl (fun τ' e1 e2 => ⟨fun c => absurd c0 c, fun _ => ⟨fun s hs => ?_, fun z hz => ?_⟩⟩)) (fun c => absurd c0 c)
          · rw [jle] at hs
            cases hs
          · rw [jle] at hz
            cases hz
            exact ⟨e1, e2⟩
    · -- a NUMBER
      rw [m3', K]
      refine ⟨fun _ => ⟨in_k (by omega) (by omega), fun _ => ⟨in_k (by omega) (by omega), fun y ey => ⟨1, ?_⟩⟩, fun c => absurd c (by decide)⟩, fun c => absurd c (by decide)⟩
      have m5' : τ.1.1.2.2.2.2 i = -1 := m5
      rw [m5'] at ey
      rw [ey]
      show wb_X12_checkPart_265 (wg_ck n') (post 0) (fun _ => False) τ (nI i) (bi w) (-1)
      refine ⟨fun _ => hp τ (JR.rf _ _ _) ⟨fun c => absurd c0 c, fun _ => ⟨fun s hs => ?_, fun z hz => ?_⟩⟩ rfl, fun c => absurd rfl c⟩
      · rw [je, if_pos K] at hs
        cases hs
        exact ⟨c0, hz i m1 m2, Or.inl K⟩
      · rw [je, if_pos K] at hz
        cases hz
theorem lm_op {T : TX} {N : Nat} {g : List DD} (p : Nat) (a b : Tr) (q : p % 2 = 1) (hA : LMp T N g a) (hB : CKp T N g b) : LMp T N g (.branch p a b) := by
  intro n lo hi i w τ x1 M0 post hn hm hw hh hj hz hx hx9 hp
  have hm0 := hm
  obtain ⟨m1, m2, m3⟩ := hm
  rw [if_pos q] at m3
  obtain ⟨k1, k2, la, ha, x, lb, hb, y, q1, q2, q3, q4, q5, q6, q7, q8, q9⟩ := m3
  have bx := q6.bd
  have bb := q8.bd
  rw [WF, if_pos q] at hw
  obtain ⟨w1, w2, w3, w4⟩ := hw
  rw [hc, if_pos q] at hn
  have hna : hc a ≤ n + 1 := by omega
  have hnb : hc b ≤ n := by omega
  have hkr := TK_r T (p / 2)
  -- down
  have r0 : JR τ (τ.1, (τ.2.1, ((τ.2.2.1.1, (τ.2.2.1.2.1, ((upd τ.2.2.1.2.2.1 x (nI i)), τ.2.2.1.2.2.2))), τ.2.2.2))) x (x + 1) := JR.o1 (nI i) x
  have key := hA n la ha x w (τ.1, (τ.2.1, ((τ.2.2.1.1, (τ.2.2.1.2.1, ((upd τ.2.2.1.2.2.1 x (nI i)), τ.2.2.1.2.2.2))), τ.2.2.2))) x1 (M0 + 1) post hna (r0.me q6) w3 (by omega) (r0.mji hj) (fun j j1 j2 => hz j (by omega) (by omega)) (by omega) hx9 (fun τ1 f1 f2 f3 => ?_)
  · obtain ⟨M, hM⟩ := key
    refine ⟨M + 1, ?_⟩
    show wb_X12_leftmost_2 (fun r1 τ2 => wg_ck n 1 τ2 [r1, bi w] (fun _ τ4 => ∃ n21, wp_X12_check_12 (wg_ck n) post n21 τ4 (nI x1) (bi w) r1)) (fun a => wp_X12_leftmost_2 (fun r1 τ2 => wg_ck n 1 τ2 [r1, bi w] (fun _ τ4 => ∃ n21, wp_X12_check_12 (wg_ck n) post n21 τ4 (nI x1) (bi w) r1)) M a.1 a.2) τ (nI i)
    refine ⟨in_k (by omega) (by omega), ?_⟩
    rw [nI_clamp (by omega)]
    have k1' : τ.1.1.2.2.1 i = nI (kM (TK T (p / 2))) := k1
    have q5' : τ.1.1.2.2.2.2 i = nI x := q5
    rw [k1']
    refine m_rank hkr.1 hkr.2 ?_
    unfold lv32
    rw [if_pos w2]
    refine ⟨fun c => absurd c (nI_nem1 (by omega)), fun _ => ⟨in_k (by omega) (by omega), ?_⟩⟩
    rw [q5', nI_clamp (by omega)]
    refine ⟨in_k (by omega) (by omega), fun y3 e3 => ⟨in_k (by omega) (by omega), fun y4 e4 => ?_⟩⟩
    rw [e3, e4]
    exact hM
  · -- one step up
    have rr1 : JR τ τ1 lo i := r0.tr f1 (by omega) (by omega) (by omega) (by omega)
    obtain ⟨s1, s2, s3, s4⟩ := rr1.sh
    have ox : τ1.2.2.1.2.2.1 x = nI i := by rw [f3]; exact pk_us
    have xx : ¬ nI x = nI x1 := fun c => by
      have := (nI_eq (by omega) (by omega)).mp c
      omega
    show wb_X12_check_12 (wg_ck n) post (fun a => wp_X12_check_12 (wg_ck n) post M0 a.1 a.2.1 a.2.2.1 a.2.2.2) τ1 (nI x1) (bi w) (nI x)
    refine ⟨fun c => absurd c xx, fun _ => ⟨in_k (by omega) (by omega), fun y5 e5 => ?_⟩⟩
    rw [nI_clamp (by omega)] at e5
    have e5 : y5 = nI i := e5.trans ox
    have fi : τ1.1.1.2.2.2.2 i = nI x := by
      show τ1.1.1.2.2.2.2 i = _
      rw [s3]
      exact q5
    have nx : τ1.1.2.1.1.1 x = nI y := by
      show τ1.1.2.1.1.1 x = _
      rw [s4]
      exact q7
    rw [e5, nI_clamp (show i < 2 ^ 31 by omega), fi, nI_clamp (show x < 2 ^ 31 by omega), nx]
    refine ⟨in_k (by omega) (by omega), in_k (by omega) (by omega), ?_⟩
    refine hB n lb hb y w τ1 _ hnb (rr1.me q8) w4 (by omega) (rr1.mji hj) (fun j j1 j2 => (rr1.out j (by omega)).1.trans (hz j (by omega) (by omega))) (fun τ2 g1 g2 => ?_)
    have rr2 : JR τ τ2 lo hi := rr1.tr g1 (by omega) (by omega) (by omega) (by omega)
    obtain ⟨t1, t2, t3, t4⟩ := rr2.sh
    have fi2 : τ2.1.1.2.2.2.2 i = nI x := by
      show τ2.1.1.2.2.2.2 i = _
      rw [t3]
      exact q5
    have nx2 : τ2.1.2.1.1.1 x = nI y := by
      show τ2.1.2.1.1.1 x = _
      rw [t4]
      exact q7
    have ki2 : τ2.1.1.2.2.1 i = nI (kM (TK T (p / 2))) := by
      show τ2.1.1.2.2.1 i = _
      rw [t1]
      exact k1
    have ai2 : τ2.1.1.2.2.2.1 i = nI (p / 2) := by
      show τ2.1.1.2.2.2.1 i = _
      rw [t2]
      exact k2
    have ov2 : τ2.2.2.1.2.2.1 i = τ.2.2.1.2.2.1 i := ((g1.out i (by omega)).2.2).trans (((f1.out i (by omega)).2.2).trans ((r0.out i (by omega)).2.2))
    have sx2 : τ2.1.2.1.1.2.1 x = τ1.1.2.1.1.2.1 x := (g1.out x (by omega)).1
    -- how it ends, once the secret is kept: nothing changes where it was bad
    have ex : c1 τ2 i = x := by unfold c1; rw [show τ2.1.1.2.2.2.2 i = nI x from fi2, nI_clamp (by omega)]
    have ey : c2 τ2 i = y := by unfold c2; rw [ex, show τ2.1.2.1.1.1 x = nI y from nx2, nI_clamp (by omega)]
    have c83 : ∀ sb : Bool, (τ2.2.1.2.1.1 = 0 → ∀ sa s2, je T g w a = .ok sa → je T g w b = .ok s2 → sb = (sa || s2)) → wp_X12_check_83 (wg_ck n) (fun a => wp_X12_check_12 (wg_ck n) post M0 a.1 a.2.1 a.2.2.1 a.2.2.2) post τ2 (nI x1) (bi w) (nI i) (bi sb) (nI i) := by
      intro sb hsb
      refine ⟨in_k (by omega) (by omega), fun y8 e8 => ?_⟩
      rw [nI_clamp (by omega)] at e8
      have e8 : y8 = upd τ2.1.2.1.1.2.1 i (bi sb) := by
        rw [e8]
        cases sb <;> rfl
      have rr3 : JR τ ((τ2.1.1, (((τ2.1.2.1.1.1, ((upd τ2.1.2.1.1.2.1 i (bi sb)), τ2.1.2.1.1.2.2)), τ2.1.2.1.2), τ2.1.2.2)), τ2.2) lo hi := rr2.tr (JR.s1 (bi sb) i) (Nat.le_refl _) (by omega) (Nat.le_refl _) (by omega)
      have mjo : MJ T g τ1 a x → MJ T g τ2 b y → MJ T g ((τ2.1.1, (((τ2.1.2.1.1.1, ((upd τ2.1.2.1.1.2.1 i (bi sb)), τ2.1.2.1.1.2.2)), τ2.1.2.1.2), τ2.1.2.2)), τ2.2) (.branch p a b) i := by
        intro z1 z2
        have : MJ T g τ2 (.branch p a b) i := by
          unfold MJ
          rw [if_pos q, ex, ey]
          refine ⟨MJ.fr (τ := τ1) g1.sh.2.2.1 g1.sh.2.2.2 a la ha x (by omega) (rr1.me q6) (fun j j1 j2 => (g1.out j (by omega)).2.1) z1, z2⟩
        refine MJ.fr (τ := τ2) (τ' := ((τ2.1.1, (((τ2.1.2.1.1.1, ((upd τ2.1.2.1.1.2.1 i (bi sb)), τ2.1.2.1.1.2.2)), τ2.1.2.1.2), τ2.1.2.2)), τ2.2)) rfl rfl _ lo hi i hh (rr2.me hm0) (fun j _ _ => rfl) this
      -- the state behind an error
      have err : ∀ (z : Nat × Nat) (τ3 : SX12), JR τ τ3 lo hi → τ3.2.2.1.2.2.1 i = τ.2.2.1.2.2.1 i → τ.2.1.2.1.1 = 0 → je T g w (.branch p a b) = .error z → τ3.2.1.2.1.1 = nI z.1 → τ3.2.1.1.2.2.2 = nI z.2 → wp_X12_check_12 (wg_ck n) post M0 τ3 (nI x1) (bi w) (nI i) := by
        intro z τ3 r3 o3 c0 ez h1 h2
        refine hp τ3 r3 ⟨fun c => absurd c0 c, fun _ => ⟨fun s hs => ?_, fun z2 hz2 => ?_⟩⟩ o3
        · rw [ez] at hs
          cases hs
        · rw [ez] at hz2
          cases hz2
          exact ⟨h1, h2⟩
      have jb : je T g w (.branch p a b) = (match je T g w a with
        | .error z => .error z
        | .ok s => match je T g w b with
          | .error z => .error z
          | .ok s2 => if isDv (TK T (p / 2)) = true then (if w = true then .error (8, p / 2) else if (s || s2) = true then .error (5, p / 2) else .ok (s || s2)) else .ok (s || s2)) := by rw [je, if_pos q] <;> rfl
      rw [e8]
      refine ⟨fun c => ?_, fun c => ?_⟩
      · -- something was wrong
        by_cases c0 : τ.2.1.2.1.1 = 0
        · have f2' := f2.2 c0
          cases hja : je T g w a with
          | error z =>
            obtain ⟨z1, z2⟩ := f2'.2 z hja
            have n1 : ¬ τ1.2.1.2.1.1 = 0 := by rw [z1]; exact nI_ne0 (je_z a z hja).1 (by have := (je_z a z hja).2; omega)
            obtain ⟨y1, y2⟩ := g2.1 n1
            exact err z _ rr3 ov2 c0 (by rw [jb, hja]) (y1.trans z1) (y2.trans z2)
          | ok sa =>
            obtain ⟨z1, z2, z3⟩ := f2'.1 sa hja
            have g2' := g2.2 z1
            cases hjb : je T g w b with
            | error z =>
              obtain ⟨y1, y2⟩ := g2'.2 z hjb
              exact err z _ rr3 ov2 c0 (by rw [jb, hja, hjb]) y1 y2
            | ok s2 => exact absurd (g2'.1 s2 hjb).1 c
        · obtain ⟨z1, z2⟩ := f2.1 c0
          have n1 : ¬ τ1.2.1.2.1.1 = 0 := fun z => c0 (z1.symm.trans z)
          obtain ⟨y1, y2⟩ := g2.1 n1
          exact hp _ rr3 ⟨fun _ => ⟨y1.trans z1, y2.trans z2⟩, fun z => absurd z c0⟩ ov2
      · -- all is well so far
        have c1 : τ1.2.1.2.1.1 = 0 := by
          by_cases z : τ1.2.1.2.1.1 = 0
          · exact z
          · exact absurd ((g2.1 z).1.symm.trans c) z
        have c0 : τ.2.1.2.1.1 = 0 := by
          by_cases z : τ.2.1.2.1.1 = 0
          · exact z
          · exact absurd ((f2.1 z).1.symm.trans c1) z
        obtain ⟨sa, hja, sa2, sa3⟩ : ∃ sa, je T g w a = .ok sa ∧ τ1.1.2.1.1.2.1 x = bi sa ∧ MJ T g τ1 a x := by
          cases hja : je T g w a with
          | error z =>
            exact absurd (((f2.2 c0).2 z hja).1.symm.trans c1) (nI_ne0 (je_z a z hja).1 (by have := (je_z a z hja).2; omega))
          | ok sa => exact ⟨sa, rfl, ((f2.2 c0).1 sa hja).2⟩
        obtain ⟨s2, hjb, sb2, sb3⟩ : ∃ s2, je T g w b = .ok s2 ∧ τ2.1.2.1.1.2.1 y = bi s2 ∧ MJ T g τ2 b y := by
          cases hjb : je T g w b with
          | error z =>
            exact absurd (((g2.2 c1).2 z hjb).1.symm.trans c) (nI_ne0 (je_z b z hjb).1 (by have := (je_z b z hjb).2; omega))
          | ok s2 => exact ⟨s2, rfl, ((g2.2 c1).1 s2 hjb).2⟩
        have esb := hsb c sa s2 hja hjb
        rw [hja, hjb] at jb
        dsimp only at jb
        rw [← esb] at jb
        have good : je T g w (.branch p a b) = .ok sb → wp_X12_check_12 (wg_ck n) post M0 ((τ2.1.1, (((τ2.1.2.1.1.1, ((upd τ2.1.2.1.1.2.1 i (bi sb)), τ2.1.2.1.1.2.2)), τ2.1.2.1.2), τ2.1.2.2)), τ2.2) (nI x1) (bi w) (nI i) := by
          intro er
          refine hp _ rr3 ⟨fun c => absurd c0 c, fun _ => ⟨fun s hs => ?_, fun z hz2 => ?_⟩⟩ ov2
          · rw [er] at hs
            cases hs
            exact ⟨c, pk_us, mjo sa3 sb3⟩
          · rw [er] at hz2
            cases hz2
        have hk47 : (τ2.1.1.2.2.1 i = (47 : Int32)) ↔ TK T (p / 2) = 47 := by
          rw [ki2]
          exact ⟨fun z => kM_inj (b := 47) hkr.1 hkr.2 (by omega) (by omega) z, fun z => by rw [z]; rfl⟩
        have hk37 : (τ2.1.1.2.2.1 i = (37 : Int32)) ↔ TK T (p / 2) = 37 := by
          rw [ki2]
          exact ⟨fun z => kM_inj (b := 37) hkr.1 hkr.2 (by omega) (by omega) z, fun z => by rw [z]; rfl⟩
        have c113 : isDv (TK T (p / 2)) = true → wp_X12_check_113 (wg_ck n) (fun a => wp_X12_check_12 (wg_ck n) post M0 a.1 a.2.1 a.2.2.1 a.2.2.2) post ((τ2.1.1, (((τ2.1.2.1.1.1, ((upd τ2.1.2.1.1.2.1 i (bi sb)), τ2.1.2.1.1.2.2)), τ2.1.2.1.2), τ2.1.2.2)), τ2.2) (nI x1) (bi w) (nI i) := by
          intro dv
          rw [if_pos dv] at jb
          cases w with
          | false =>
            rw [if_neg (by decide)] at jb
            refine ⟨fun _ => ⟨in_k (by omega) (by omega), ?_⟩, fun c => absurd rfl c⟩
            show (upd τ2.1.2.1.1.2.1 i (bi sb) (nI i).toNatClampNeg = 0 → _) ∧ (¬ upd τ2.1.2.1.1.2.1 i (bi sb) (nI i).toNatClampNeg = 0 → _)
            rw [nI_clamp (by omega), pk_us]
            refine ⟨fun cz => good (by rw [jb, if_neg (by rw [eq0_f cz]; decide)]), fun cz => ⟨in_k (by omega) (by omega), ?_⟩⟩
            rw [ne0_t cz, if_pos rfl] at jb
            show wp_X12_wrong _ 5 (τ2.1.1.2.2.2.1 i) _
            rw [ai2]
            exact m_wrong (fun _ => err (5, p / 2) _ (rr3.tr (JR.wr _ _ _ lo hi) (Nat.le_refl _) (Nat.le_refl _) (Nat.le_refl _) (Nat.le_refl _)) ov2 c0 jb rfl rfl) (fun z => absurd c z)
          | true =>
            rw [if_pos rfl] at jb
            refine ⟨fun c => absurd c (by decide), fun _ => ⟨in_k (by omega) (by omega), ?_⟩⟩
            rw [nI_clamp (by omega)]
            show wp_X12_wrong _ 8 (τ2.1.1.2.2.2.1 i) _
            rw [ai2]
            refine m_wrong (fun _ => ?_) (fun z => absurd c z)
            have fin := err (8, p / 2) ((((τ2.1.1, (((τ2.1.2.1.1.1, ((upd τ2.1.2.1.1.2.1 i (bi sb)), τ2.1.2.1.1.2.2)), τ2.1.2.1.2), τ2.1.2.2)), τ2.2)).1, ((((((τ2.1.1, (((τ2.1.2.1.1.1, ((upd τ2.1.2.1.1.2.1 i (bi sb)), τ2.1.2.1.1.2.2)), τ2.1.2.1.2), τ2.1.2.2)), τ2.2)).2.1.1.1, ((((τ2.1.1, (((τ2.1.2.1.1.1, ((upd τ2.1.2.1.1.2.1 i (bi sb)), τ2.1.2.1.1.2.2)), τ2.1.2.1.2), τ2.1.2.2)), τ2.2)).2.1.1.2.1, ((((τ2.1.1, (((τ2.1.2.1.1.1, ((upd τ2.1.2.1.1.2.1 i (bi sb)), τ2.1.2.1.1.2.2)), τ2.1.2.1.2), τ2.1.2.2)), τ2.2)).2.1.1.2.2.1, (nI (p / 2))))), ((8, (((τ2.1.1, (((τ2.1.2.1.1.1, ((upd τ2.1.2.1.1.2.1 i (bi sb)), τ2.1.2.1.1.2.2)), τ2.1.2.1.2), τ2.1.2.2)), τ2.2)).2.1.2.1.2), (((τ2.1.1, (((τ2.1.2.1.1.1, ((upd τ2.1.2.1.1.2.1 i (bi sb)), τ2.1.2.1.1.2.2)), τ2.1.2.1.2), τ2.1.2.2)), τ2.2)).2.1.2.2)), (((τ2.1.1, (((τ2.1.2.1.1.1, ((upd τ2.1.2.1.1.2.1 i (bi sb)), τ2.1.2.1.1.2.2)), τ2.1.2.1.2), τ2.1.2.2)), τ2.2)).2.2)) (rr3.tr (JR.wr _ _ _ lo hi) (Nat.le_refl _) (Nat.le_refl _) (Nat.le_refl _) (Nat.le_refl _)) ov2 c0 jb rfl rfl
            refine ⟨in_k (by omega) (by omega), fun _ => fin, fun _ => ⟨in_k (by omega) (by omega), m_wrong (fun z => absurd z (by decide : ¬ (8 : Int32) = 0)) (fun _ => fin)⟩⟩
        refine ⟨in_k (by omega) (by omega), ?_⟩
        rw [nI_clamp (by omega)]
        refine ⟨fun z => c113 (decide_eq_true (Or.inl (hk47.mp z))), fun z => ⟨in_k (by omega) (by omega), fun z2 => good ?_, fun z2 => c113 (decide_eq_true (Or.inr (hk37.mp z2)))⟩⟩
        rw [jb, if_neg]
        have : isDv (TK T (p / 2)) = false := decide_eq_false (fun zz => zz.elim (fun a => z (hk47.mpr a)) (fun a => z2 (hk37.mpr a)))
        rw [this]
        decide
    have c1w : τ2.2.1.2.1.1 = 0 → ∀ sa, je T g w a = .ok sa → τ2.1.2.1.1.2.1 x = bi sa := by
      intro c sa hja
      have c1 : τ1.2.1.2.1.1 = 0 := by
        by_cases z : τ1.2.1.2.1.1 = 0
        · exact z
        · exact absurd ((g2.1 z).1.symm.trans c) z
      have c0 : τ.2.1.2.1.1 = 0 := by
        by_cases z : τ.2.1.2.1.1 = 0
        · exact z
        · exact absurd ((f2.1 z).1.symm.trans c1) z
      exact sx2.trans ((f2.2 c0).1 sa hja).2.1
    have c2w : τ2.2.1.2.1.1 = 0 → ∀ s2, je T g w b = .ok s2 → τ2.1.2.1.1.2.1 y = bi s2 := by
      intro c s2 hjb
      have c1 : τ1.2.1.2.1.1 = 0 := by
        by_cases z : τ1.2.1.2.1.1 = 0
        · exact z
        · exact absurd ((g2.1 z).1.symm.trans c) z
      exact ((g2.2 c1).1 s2 hjb).2.1
    rw [fi2, nI_clamp (show x < 2 ^ 31 by omega), nx2, nI_clamp (show y < 2 ^ 31 by omega)]
    refine ⟨in_k (by omega) (by omega), in_k (by omega) (by omega), fun z => c83 true (fun c sa s2 hja hjb => ?_), fun z => ⟨in_k (by omega) (by omega), in_k (by omega) (by omega), in_k (by omega) (by omega), fun z2 => c83 false (fun c sa s2 hja hjb => ?_), fun z2 => c83 true (fun c sa s2 hja hjb => ?_)⟩⟩
    · have z : ¬ τ2.1.2.1.1.2.1 x = 0 := z
      rw [c1w c sa hja] at z
      rw [ne0_t z, Bool.true_or]
    · have z : τ2.1.2.1.1.2.1 x = 0 := z
      have z2 : τ2.1.2.1.1.2.1 y = 0 := z2
      rw [c1w c sa hja] at z
      rw [c2w c s2 hjb] at z2
      rw [eq0_f z, eq0_f z2]
      rfl
    · have z2 : ¬ τ2.1.2.1.1.2.1 y = 0 := z2
      rw [c2w c s2 hjb] at z2
      rw [ne0_t z2, Bool.or_true]
end Mck
