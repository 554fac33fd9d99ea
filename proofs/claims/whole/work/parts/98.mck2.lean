section Mck2
theorem RJ.bad {T : TX} {g : List DD} {w : Bool} {τ τ' : SX12} {e : Tr} {i : Nat} (h : RJ T g w τ τ' e i) (c : ¬ τ.2.1.2.1.1 = 0) : τ'.2.1.2.1.1 = τ.2.1.2.1.1 ∧ τ'.2.1.1.2.2.2 = τ.2.1.1.2.2.2 := h.1 c
theorem lm_un {T : TX} {N : Nat} {g : List DD} (p : Nat) (a b : Tr) (q : ¬ p % 2 = 1) (q2 : ¬ TK T (p / 2) = 2) (hA : CKp T N g a) : LMp T N g (.branch p a b) := by
  refine lm_stop (fun n lo hi i w τ post hn hm hw hh hj hz => ?_)
  obtain ⟨m1, m2, m3⟩ := id hm
  rw [if_neg q, if_neg q2] at m3
  obtain ⟨k1, k2, la, ha, x, r1, r2, r3, r4, r5⟩ := m3
  have bx := r4.bd
  rw [WF, if_neg q, if_neg q2] at hw
  obtain ⟨w1, w2, w3⟩ := hw
  rw [hc, if_neg q] at hn
  have h2 := hc_2 a
  obtain ⟨n', rfl⟩ : ∃ n', n = n' + 1 := ⟨n - 1, by omega⟩
  have ks : τ.1.1.2.2.1 i = 304 ∨ τ.1.1.2.2.1 i = nI (kM 126) ∨ τ.1.1.2.2.1 i = nI (kM 33) := by
    have k1' : τ.1.1.2.2.1 i = nI (if TK T (p / 2) = 45 then 304 else TK T (p / 2)) := k1
    rcases w2 with z | z | z
    · exact Or.inl (by rw [k1', if_pos z]; rfl)
    · exact Or.inr (Or.inl (by rw [k1', if_neg (by omega), z]; rfl))
    · exact Or.inr (Or.inr (by rw [k1', if_neg (by omega), z]; rfl))
  refine ⟨fun P h => ?_, fun hp => ?_⟩
  · show wp_X12_rank (τ.1.1.2.2.1 i) P
    rcases ks with z | z | z
    · rw [z]
      exact rank_no (Or.inr rfl) h
    · rw [z]
      exact m_rank (by omega) (by omega) h
    · rw [z]
      exact m_rank (by omega) (by omega) h
  · refine ⟨fun c0 => ⟨in_k (by omega) (by omega), ?_⟩, fun c => hp τ (JR.rf _ _ _) ⟨fun _ => ⟨rfl, rfl⟩, fun z => absurd z c⟩ rfl⟩
    rw [nI_clamp (by omega)]
    have n1 : ¬ τ.1.1.2.2.1 i = 1 := by rcases ks with z | z | z <;> (rw [z]; decide)
    have n3 : ¬ τ.1.1.2.2.1 i = 303 := by rcases ks with z | z | z <;> (rw [z]; decide)
    refine ⟨fun _ => ⟨in_k (by omega) (by omega), fun _ => ⟨in_k (by omega) (by omega), fun y ey => ⟨2, ?_⟩⟩, fun c => absurd c n3⟩, fun c => absurd c n1⟩
    have r3' : τ.1.1.2.2.2.2 i = nI x := r3
    rw [r3'] at ey
    rw [ey]
    show wb_X12_checkPart_265 (wg_ck n') (post 0) (fun a => wp_X12_checkPart_265 (wg_ck n') (post 0) 1 a.1 a.2.1 a.2.2.1 a.2.2.2) τ (nI i) (bi w) (nI x)
    refine ⟨fun c => absurd c (nI_nem1 (by omega)), fun _ => ?_⟩
    refine hA n' la ha x w τ _ (by omega) r4 w3 (by omega) hj (fun j j1 j2 => hz j (by omega) (by omega)) (fun τ1 g1 g2 => ?_)
    obtain ⟨s1, s2, s3, s4⟩ := g1.sh
    have si : τ1.1.2.1.1.2.1 i = 0 := (g1.out i (by omega)).1.trans (hz i m1 m2)
    have nx : τ1.1.2.1.1.1 x = -1 := by
      show τ1.1.2.1.1.1 x = _
      rw [s4]
      exact r5
    have jb : je T g w (.branch p a b) = je T g w a := by rw [je, if_neg q, if_neg q2]
    have fin : ∀ sb : Bool, (∀ s, τ1.1.2.1.1.2.1 x = bi s → sb = s) → wp_X12_checkPart_304 (wg_ck n') (fun a => wp_X12_checkPart_265 (wg_ck n') (post 0) 1 a.1 a.2.1 a.2.2.1 a.2.2.2) (post 0) τ1 (nI i) (bi w) (nI x) (bi sb) (nI i) := by
      intro sb hsb
      refine ⟨in_k (by omega) (by omega), fun y4 e4 => ⟨in_k (by omega) (by omega), fun y5 e5 => ?_⟩⟩
      rw [nI_clamp (by omega)] at e4 e5
      have e4 : y4 = upd τ1.1.2.1.1.2.1 i (bi sb) := by
        rw [e4]
        cases sb <;> rfl
      have e5 : y5 = -1 := e5.trans nx
      rw [e4, e5]
      show wb_X12_checkPart_265 (wg_ck n') (post 0) (fun a => wp_X12_checkPart_265 (wg_ck n') (post 0) 0 a.1 a.2.1 a.2.2.1 a.2.2.2) _ (nI i) (bi w) (-1)
      refine ⟨fun _ => hp _ (g1.tr (JR.s1 (bi sb) i) (by omega) (by omega) (by omega) (by omega)) ⟨fun c => absurd c0 c, fun _ => ⟨fun s hs => ?_, fun z hz2 => ?_⟩⟩ ((g1.out i (by omega)).2.2), fun c => absurd rfl c⟩
      · rw [jb] at hs
        obtain ⟨y1, y2, y3⟩ := (g2.2 c0).1 s hs
        refine ⟨y1, ?_, ?_⟩
        · rw [← hsb s y2]
          exact pk_us
        · have ex : c1 τ1 i = x := by unfold c1; rw [s3, r3, nI_clamp (by omega)]
          have mj1 : MJ T g τ1 (.branch p a b) i := by
            unfold MJ
            rw [if_neg q, if_neg q2, ex]
            exact y3
          exact MJ.fr (τ := τ1) (τ' := ((τ1.1.1, (((τ1.1.2.1.1.1, ((upd τ1.1.2.1.1.2.1 i (bi sb)), τ1.1.2.1.1.2.2)), τ1.1.2.1.2), τ1.1.2.2)), τ1.2)) rfl rfl _ lo hi i hh (g1.me hm) (fun j _ _ => rfl) mj1
      · rw [jb] at hz2
        exact (g2.2 c0).2 z hz2
    refine ⟨in_k (by omega) (by omega), ?_⟩
    rw [nI_clamp (by omega), si]
    refine ⟨fun c => absurd rfl c, fun _ => ⟨in_k (by omega) (by omega), ?_⟩⟩
    rw [nI_clamp (by omega)]
    refine ⟨fun c => fin false (fun s hs => ?_), fun c => fin true (fun s hs => ?_)⟩
    · have c : τ1.1.2.1.1.2.1 x = 0 := c
      rw [hs] at c
      exact (eq0_f c).symm
    · have c : ¬ τ1.1.2.1.1.2.1 x = 0 := c
      rw [hs] at c
      exact (ne0_t c).symm
theorem lm_item {T : TX} {N : Nat} {g : List DD} (hv : GV T N g) (hN : N ≤ 3001) (p : Nat) (a b : Tr) (q : ¬ p % 2 = 1) (q2 : TK T (p / 2) = 2) (hA : CKp T N g a) : LMp T N g (.branch p a b) := by
  refine lm_stop (fun n lo hi i w τ post hn hm hw hh hj hz => ?_)
  obtain ⟨m1, m2, m3⟩ := id hm
  rw [if_neg q, if_pos q2] at m3
  obtain ⟨k1, k2, v, la, ha, x, r1, r2, r3, r4, r5, r6, r7, r8⟩ := m3
  have bx := r7.bd
  rw [WF, if_neg q, if_pos q2] at hw
  obtain ⟨w1, w2, w3⟩ := hw
  rw [hc, if_neg q] at hn
  have h2 := hc_2 a
  have hl := hv.len
  have hw2 := hv.2
  obtain ⟨n', rfl⟩ : ∃ n', n = n' + 1 := ⟨n - 1, by omega⟩
  have k1' : τ.1.1.2.2.1 i = 303 := k1
  refine ⟨fun P h => ?_, fun hp => ?_⟩
  · show wp_X12_rank (τ.1.1.2.2.1 i) P
    rw [k1']
    exact rank_no (Or.inl rfl) h
  · refine ⟨fun c0 => ⟨in_k (by omega) (by omega), ?_⟩, fun c => hp τ (JR.rf _ _ _) ⟨fun _ => ⟨rfl, rfl⟩, fun z => absurd z c⟩ rfl⟩
    have k2' : τ.1.1.2.2.2.1 i = nI (p / 2) := k2
    rw [nI_clamp (by omega), k1', k2']
    refine ⟨fun _ => ⟨in_k (by omega) (by omega), fun c => absurd rfl c, fun _ => ⟨in_k (by omega) (by omega), ?_⟩⟩, fun c => absurd c (by decide)⟩
    have jb : je T g w (.branch p a b) = (match fdI T g (p / 2) with
      | none => .error (1, p / 2)
      | some k => if w = true then .error (8, p / 2 + 1) else if (gx g k).2.2 = true then
          (match je T g w a with
          | .error z => .error z
          | .ok s => if s = true then .error (4, p / 2 + 1) else .ok (dsec T (gx g k)))
        else .error (3, p / 2)) := by rw [je, if_neg q, if_pos q2] <;> rfl
    -- the end, where something is wrong by now
    have e221 : ∀ (z : Nat × Nat) (k : Int32) (τ1 : SX12), JR τ τ1 lo hi → τ1.2.2.1.2.2.1 i = τ.2.2.1.2.2.1 i → je T g w (.branch p a b) = .error z → τ1.2.1.2.1.1 = nI z.1 → τ1.2.1.1.2.2.2 = nI z.2 → wp_X12_checkPart_221 (wg_ck n') (post 0) τ1 (nI i) k := by
      intro z k τ1 g1 o1 ez h1 h3
      have hz1 := je_z (.branch p a b) z ez
      have nw : ¬ τ1.2.1.2.1.1 = 0 := by rw [h1]; exact nI_ne0 hz1.1 (by omega)
      refine ⟨in_k (by omega) (by omega), fun y ey => ⟨fun _ => ⟨in_k (by omega) (by omega), fun y2 ey2 => ?_⟩, fun c => absurd c nw⟩⟩
      rw [nI_clamp (by omega)] at ey ey2
      rw [ey, ey2]
      refine hp _ (g1.tr (JR.ms (vp_nar .boolean 0) k i) (Nat.le_refl _) (by omega) (Nat.le_refl _) (by omega)) ⟨fun c => absurd c0 c, fun _ => ⟨fun s hs => ?_, fun z2 hz2 => ?_⟩⟩ o1
      · rw [ez] at hs
        cases hs
      · rw [ez] at hz2
        cases hz2
        exact ⟨h1, h3⟩
    -- from the index on, where something is wrong by now
    have e175 : ∀ (z : Nat × Nat) (k : Int32) (τ1 : SX12), JR τ τ1 lo hi → τ1.2.2.1.2.2.1 i = τ.2.2.1.2.2.1 i → τ1.2.2.1.2.2.1 v = τ.2.2.1.2.2.1 v ∨ True → (∀ j, lo ≤ j → j < hi → τ1.1.2.1.1.2.1 j = 0) → je T g w (.branch p a b) = .error z → τ1.2.1.2.1.1 = nI z.1 → τ1.2.1.1.2.2.2 = nI z.2 → wp_X12_checkPart_175 (wg_ck n') (post 0) τ1 (nI i) (bi w) k (nI v) := by
      intro z k τ1 g1 o1 _ hz1 ez h1 h3
      have hzz := je_z (.branch p a b) z ez
      have nw : ¬ τ1.2.1.2.1.1 = 0 := by rw [h1]; exact nI_ne0 hzz.1 (by omega)
      have nv1 : τ1.1.2.1.1.1 v = nI x := by
        show τ1.1.2.1.1.1 v = _
        rw [g1.sh.2.2.2]
        exact r6
      refine ⟨in_k (by omega) (by omega), ?_⟩
      rw [nI_clamp (by omega), nv1]
      refine hA n' la ha x w τ1 _ (by omega) (g1.me r7) w3 (by omega) (g1.mji hj) (fun j j1 j2 => hz1 j (by omega) (by omega)) (fun τ2 f1 f2 => ?_)
      obtain ⟨y1, y2⟩ := f2.1 nw
      have nw2 : ¬ τ2.2.1.2.1.1 = 0 := fun c => nw (y1.symm.trans c)
      refine ⟨fun _ => e221 z k τ2 (g1.tr f1 (Nat.le_refl _) (by omega) (Nat.le_refl _) (by omega)) (((f1.out i (by omega)).2.2).trans o1) ez (y1.trans h1) (y2.trans h3), fun c => absurd c nw2⟩
    have at_v : ∀ τ1 : SX12, JR τ τ1 lo hi → τ1.1.1.2.2.2.1 v = nI (p / 2 + 1) := by
      intro τ1 g1
      show τ1.1.1.2.2.2.1 v = _
      rw [g1.sh.2.1]
      exact r5
    have fi : ∀ τ1 : SX12, JR τ τ1 lo hi → τ1.1.1.2.2.2.2 i = nI v := by
      intro τ1 g1
      show τ1.1.1.2.2.2.2 i = _
      rw [g1.sh.2.2.1]
      exact r4
    refine m_findN hj.1 hj.2.1 hN hv hj.2.2 q2 (by omega) ?_
    cases hf : fdI T g (p / 2) with
    | none =>
      rw [hf] at jb
      dsimp only at jb
      refine ⟨fun c => absurd rfl c, fun _ => m_wrong (fun _ => ?_) (fun c => absurd c0 c)⟩
      refine ⟨in_k (by omega) (by omega), fun y ey => ?_⟩
      have ey : y = nI v := ey.trans r4
      rw [ey]
      have go := e175 (1, p / 2) (-1) (τ.1, (((τ.2.1.1.1, (τ.2.1.1.2.1, (τ.2.1.1.2.2.1, (nI (p / 2))))), ((1, τ.2.1.2.1.2), τ.2.1.2.2)), τ.2.2)) (JR.wr τ _ _ lo hi) rfl (Or.inr trivial) hz jb rfl rfl
      exact ⟨fun _ => ⟨fun _ => go, fun c => absurd c one_ne⟩, fun c => absurd c one_ne⟩
    | some k =>
      rw [hf] at jb
      dsimp only at jb
      have hk := fdI_lt g _ k hf
      have ek : rI 0 (some k) = nI k := by show nI (0 + k) = _; rw [Nat.zero_add]
      rw [ek]
      obtain ⟨z1, z2, z3, z4, z5⟩ := hj.2.2.2.2.1 k hk
      have z4' : τ.1.2.2.1.2.1 k = bi (gx g k).2.2 := z4
      refine ⟨fun _ => ⟨in_k (by omega) (by omega), fun y ey => ?_⟩, fun c => absurd c (nI_nem1 (by omega))⟩
      have ey : y = nI v := ey.trans r4
      rw [ey]
      refine ⟨fun c => absurd c0 c, fun _ => ?_⟩
      cases w with
      | true =>
        rw [if_pos rfl] at jb
        refine ⟨fun c => absurd c (by decide), fun _ => ⟨in_k (by omega) (by omega), ?_⟩⟩
        rw [nI_clamp (by omega), at_v τ (JR.rf _ _ _)]
        refine m_wrong (fun _ => ?_) (fun c => absurd c0 c)
        have go := e175 (8, p / 2 + 1) (nI k) (τ.1, (((τ.2.1.1.1, (τ.2.1.1.2.1, (τ.2.1.1.2.2.1, (nI (p / 2 + 1))))), ((8, τ.2.1.2.1.2), τ.2.1.2.2)), τ.2.2)) (JR.wr τ _ _ lo hi) rfl (Or.inr trivial) hz jb rfl rfl
        exact ⟨fun _ => go, fun c => absurd c (by decide : ¬ (8 : Int32) = 0)⟩
      | false =>
        rw [if_neg (by decide)] at jb
        refine ⟨fun _ => ⟨fun c => absurd c0 c, fun _ => ⟨in_k (by omega) (by omega), ?_⟩⟩, fun c => absurd rfl c⟩
        rw [nI_clamp (show k < 2 ^ 31 by omega), z4']
        refine ⟨fun cr => ?_, fun cr => ⟨in_k (by omega) (by omega), ?_⟩⟩
        · -- a row: its index
          rw [if_pos (ne0_t cr)] at jb
          refine ⟨in_k (by omega) (by omega), ?_⟩
          have r6' : τ.1.2.1.1.1 v = nI x := r6
          rw [nI_clamp (by omega), r6']
          refine hA n' la ha x false τ _ (by omega) r7 w3 (by omega) hj (fun j j1 j2 => hz j (by omega) (by omega)) (fun τ2 f1 f2 => ?_)
          have g1 : JR τ τ2 lo hi := f1.wd (by omega) (by omega)
          have o1 : τ2.2.2.1.2.2.1 i = τ.2.2.1.2.2.1 i := (f1.out i (by omega)).2.2
          cases hja : je T g false a with
          | error z =>
            rw [hja] at jb
            dsimp only at jb
            obtain ⟨y1, y2⟩ := (f2.2 c0).2 z hja
            have hz1 := je_z a z hja
            have nw : ¬ τ2.2.1.2.1.1 = 0 := by rw [y1]; exact nI_ne0 hz1.1 (by omega)
            exact ⟨fun _ => e221 z (nI k) τ2 g1 o1 jb y1 y2, fun c => absurd c nw⟩
          | ok s =>
            rw [hja] at jb
            dsimp only at jb
            obtain ⟨y1, y2, y3⟩ := (f2.2 c0).1 s hja
            have nv2 : τ2.1.2.1.1.1 v = nI x := by
              show τ2.1.2.1.1.1 v = _
              rw [g1.sh.2.2.2]
              exact r6
            have sx : τ2.1.2.1.1.2.1 x = bi s := y2
            refine ⟨fun c => absurd y1 c, fun _ => ⟨in_k (by omega) (by omega), ?_⟩⟩
            rw [nv2, nI_clamp (show x < 2 ^ 31 by omega), sx, at_v τ2 g1]
            refine ⟨in_k (by omega) (by omega), fun c => ?_, fun c => ⟨in_k (by omega) (by omega), m_wrong (fun _ => ?_) (fun c => absurd y1 c)⟩⟩
            · rw [if_neg (by rw [eq0_f c]; decide)] at jb
              refine ⟨in_k (by omega) (by omega), fun yy eyy => ⟨fun c => absurd y1 c, fun _ => ⟨in_k (by omega) (by omega), ?_⟩⟩⟩
              rw [nI_clamp (by omega)] at eyy
              rw [nI_clamp (show k < 2 ^ 31 by omega)]
              have z5' : τ2.1.2.2.1.2.2 k = bi (dsec T (gx g k)) := ((g1.mji hj).2.2.2.2.1 k hk).2.2.2.2
              show (τ2.1.2.2.1.2.2 k = 0 → _) ∧ (¬ τ2.1.2.2.1.2.2 k = 0 → _)
              rw [z5']
              have fin : ∀ sb : Bool, sb = dsec T (gx g k) → post 0 ((τ2.1.1, (((τ2.1.2.1.1.1, ((upd τ2.1.2.1.1.2.1 i (bi sb)), yy)), τ2.1.2.1.2), τ2.1.2.2)), τ2.2) := by
                intro sb hb
                rw [eyy]
                refine hp _ (g1.tr (JR.ms (bi sb) (nI k) i) (Nat.le_refl _) (by omega) (Nat.le_refl _) (by omega)) ⟨fun c => absurd c0 c, fun _ => ⟨fun s2 hs => ?_, fun z hz2 => ?_⟩⟩ o1
                · rw [jb, ← hb] at hs
                  cases hs
                  refine ⟨y1, pk_us, ?_⟩
                  have ev : c1 τ2 i = v := by unfold c1; rw [show τ2.1.1.2.2.2.2 i = nI v from fi τ2 g1, nI_clamp (by omega)]
                  have ex : c2 τ2 i = x := by unfold c2; rw [ev, show τ2.1.2.1.1.1 v = nI x from nv2, nI_clamp (by omega)]
                  unfold MJ
                  rw [if_neg q, if_pos q2]
                  refine ⟨⟨k, hf, pk_us⟩, ?_⟩
                  show MJ T g _ a (c2 τ2 i)
                  rw [ex]
                  exact MJ.fr (τ := τ2) (τ' := ((τ2.1.1, (((τ2.1.2.1.1.1, ((upd τ2.1.2.1.1.2.1 i (bi sb)), (upd τ2.1.2.1.1.2.2 i (nI k)))), τ2.1.2.1.2), τ2.1.2.2)), τ2.2)) rfl rfl a la ha x (by omega) (g1.me r7) (fun j j1 j2 => pk_un (k := i) (by omega)) y3
                · rw [jb] at hz2
                  cases hz2
              refine ⟨fun c => ⟨in_k (by omega) (by omega), fun yz eyz => ?_⟩, fun c => ⟨in_k (by omega) (by omega), fun yz eyz => ?_⟩⟩
              · rw [nI_clamp (by omega)] at eyz
                rw [eyz]
                exact fin false (eq0_f c).symm
              · rw [nI_clamp (by omega)] at eyz
                rw [eyz]
                exact fin true (ne0_t c).symm
            · rw [if_pos (ne0_t c)] at jb
              exact e221 (4, p / 2 + 1) (nI k) (τ2.1, (((τ2.2.1.1.1, (τ2.2.1.1.2.1, (τ2.2.1.1.2.2.1, (nI (p / 2 + 1))))), ((4, τ2.2.1.2.1.2), τ2.2.1.2.2)), τ2.2.2)) (g1.tr (JR.wr _ _ _ lo hi) (Nat.le_refl _) (Nat.le_refl _) (Nat.le_refl _) (Nat.le_refl _)) o1 jb rfl rfl
        · have nr : ¬ (gx g k).2.2 = true := fun z => by rw [z] at cr; exact absurd cr (by decide)
          rw [if_neg nr] at jb
          rw [nI_clamp (show i < 2 ^ 31 by omega), k2']
          refine m_wrong (fun _ => ?_) (fun c => absurd c0 c)
          exact e175 (3, p / 2) (nI k) (τ.1, (((τ.2.1.1.1, (τ.2.1.1.2.1, (τ.2.1.1.2.2.1, (nI (p / 2))))), ((3, τ.2.1.2.1.2), τ.2.1.2.2)), τ.2.2)) (JR.wr τ _ _ lo hi) rfl (Or.inr trivial) hz jb rfl rfl
theorem m_ck {T : TX} {N : Nat} {g : List DD} (hv : GV T N g) (hN : N ≤ 3001) : ∀ e : Tr, CKp T N g e ∧ LMp T N g e := by
  intro e
  induction e with
  | leaf t =>
    have h := lm_leaf hv hN t
    exact ⟨ck_of (hc_2 _) h, h⟩
  | branch p a b iha ihb =>
    have h : LMp T N g (.branch p a b) := by
      by_cases q : p % 2 = 1
      · exact lm_op p a b q iha.2 ihb.1
      · by_cases q2 : TK T (p / 2) = 2
        · exact lm_item hv hN p a b q q2 iha.1
        · exact lm_un p a b q q2 iha.1
    exact ⟨ck_of (hc_2 _) h, h⟩
end Mck2
