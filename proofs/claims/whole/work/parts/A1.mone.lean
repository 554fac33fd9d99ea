section Mone
theorem st413 {rc : Nat → SX12 → List Int32 → (Int32 → SX12 → Prop) → Prop} {post : SX12 → Prop} {τ : SX12} {i z M : Nat} {w s : Bool} (hi : i < 9000) (hz : z < 9000) (hs : τ.1.2.1.1.2.1 i = bi s) (h : rc 0 τ [nI z, bi (w || s)] (fun _ τ55 => wp_X12_checkOne_413 rc post M τ55 (nI i) (bi w) (τ55.1.2.1.1.1 z))) : wp_X12_checkOne_413 rc post (M + 1) τ (nI i) (bi w) (nI z) := by
  show wb_X12_checkOne_413 rc post (fun a => wp_X12_checkOne_413 rc post M a.1 a.2.1 a.2.2.1 a.2.2.2) τ (nI i) (bi w) (nI z)
  have go : ∀ v : Bool, v = (w || s) → wp_X12_checkOne_440 rc (fun a => wp_X12_checkOne_413 rc post M a.1 a.2.1 a.2.2.1 a.2.2.2) post τ (nI i) (bi w) (nI z) (bi v) (nI z) := by
    intro v hv
    unfold wp_X12_checkOne_440
    rw [hv]
    have e : (fun (_ : Int32) (τ55 : SX12) => (vp_in (nI z) 9000 ∧ (∀ y56 : Int32, y56 = (τ55.1.2.1.1.1 (nI z).toNatClampNeg) → (fun a : SX12 × Int32 × Int32 × Int32 => wp_X12_checkOne_413 rc post M a.1 a.2.1 a.2.2.1 a.2.2.2) (τ55, nI i, bi w, y56)))) = (fun _ τ55 => wp_X12_checkOne_413 rc post M τ55 (nI i) (bi w) (τ55.1.2.1.1.1 z)) := by
      funext _ τ55
      apply propext
      rw [nI_clamp (by omega)]
      exact ⟨fun h => h.2 _ rfl, fun h => ⟨in_k hz (by omega), fun y ey => by rw [ey]; exact h⟩⟩
    rw [e]
    exact h
  have hs' : τ.1.2.1.1.2.1 i = bi s := hs
  refine ⟨fun c => absurd c (nI_nem1 (by omega)), fun _ => ⟨fun c => go true (by rw [ne0_t c]; rfl), fun c => ⟨in_k hi (by omega), ?_⟩⟩⟩
  rw [nI_clamp (by omega), hs']
  have hw := eq0_f c
  refine ⟨fun c2 => go false (by rw [hw, eq0_f c2]; rfl), fun c2 => go true (by rw [hw, ne0_t c2]; rfl)⟩
/-- a BLOCK's check -/
theorem blk {T : TX} {N : Nat} {g : List DD} {b : Tr} (hB : CA0 T N g b) {n lo hi z h t t' : Nat} {w : Bool} {τ : SX12} {post : Int32 → SX12 → Prop} (hn : fb b 0 + 1 ≤ n) (hz9 : z < 9000) (hm : MS T τ b 0 lo hi (τ.1.1.2.2.2.2 z)) (hw : WFS T N b 0) (hx : XS T b 0 t t' h) (hh : hi ≤ 9000) (hj : MJI T N g τ) (hz : ∀ j, lo ≤ j → j < hi → τ.1.2.1.1.2.1 j = 0) (hp : ∀ τ', JR τ τ' lo hi → RS T g w τ τ' b 0 (τ.1.1.2.2.2.2 z) → post 0 τ') : wg_ca n 0 τ [nI z, bi w] post := by
  obtain ⟨n', rfl⟩ : ∃ n', n = n' + 1 := ⟨n - 1, by omega⟩
  show wp_X12_checkAll (wg_ca n') τ (nI z) (bi w) (post 0)
  refine ⟨in_k hz9 (by omega), fun y ey => ⟨bl b + 1, ?_⟩⟩
  rw [nI_clamp (by omega)] at ey
  rw [ey]
  exact hB n' lo hi _ w τ (post 0) h t t' (bl b + 1) (by omega) hm hw hx hh hj hz (Nat.lt_succ_self _) hp
theorem ca_two {T : TX} {N : Nat} {g : List DD} (p : Nat) (a b : Tr) (hA : CA0 T N g a) (hB : CA0 T N g b) : CA2 T N g (.branch p a b) := by
  intro n lo hi i x w s τ post h t t' hn hm hw hx hh hj hz hi0 hs hp
  rw [MS, if_neg (by omega), if_neg (by omega)] at hm
  obtain ⟨y, la, ha, z, lb, hb, x1, x2, x3, x4, x5, x6, x7, x8, g1, g2, g3, g4⟩ := hm
  rw [WFS, if_neg (by omega), if_neg (by omega)] at hw
  rw [XS, if_neg (by omega), if_neg (by omega)] at hx
  obtain ⟨tm, xs1, xs2⟩ := hx
  rw [fb, if_neg (by omega), if_neg (by omega)] at hn
  have ej : js T g (.branch p a b) 2 (w || s) = (match js T g a 0 (w || s) with | .error z => Except.error z | .ok _ => js T g b 0 (w || s)) := by rw [js, if_neg (by omega), if_neg (by omega)] <;> rfl
  rw [x1]
  refine st413 (M := 2) (by omega) (by omega) hs ?_
  refine blk hA (h := h) (by omega) (by omega) g1 hw.1 xs1 (by omega) hj (fun j j1 j2 => hz j (by omega) (by omega)) (fun τ1 f1 f2 => ?_)
  have n1 : τ1.1.2.1.1.1 y = nI z := by rw [f1.sh.2.2.2]; exact g2
  have hs1 : τ1.1.2.1.1.2.1 i = bi s := (f1.out i (by omega)).1.trans hs
  have fz : τ1.1.1.2.2.2.2 z = τ.1.1.2.2.2.2 z := by rw [f1.sh.2.2.1]
  rw [n1]
  refine st413 (M := 1) (by omega) (by omega) hs1 ?_
  refine blk hB (h := h) (by omega) (by omega) (by rw [fz]; exact f1.mst (by omega) g3) hw.2 xs2 (by omega) (f1.mji hj) (fun j j1 j2 => (f1.out j (by omega)).1.trans (hz j (by omega) (by omega))) (fun τ2 k1 k2 => ?_)
  rw [fz] at k2
  have n2 : τ2.1.2.1.1.1 z = -1 := by rw [k1.sh.2.2.2, f1.sh.2.2.2]; exact g4
  rw [n2]
  have rr : JR τ τ2 lo hi := f1.tr k1 (by omega) (by omega) (by omega) (by omega)
  show wb_X12_checkOne_413 (wg_ca (n + 1)) post (fun a => wp_X12_checkOne_413 (wg_ca (n + 1)) post 0 a.1 a.2.1 a.2.2.1 a.2.2.2) τ2 (nI i) (bi w) (-1)
  refine ⟨fun _ => hp τ2 rr ⟨fun c => ?_, fun c0 => ⟨fun hok => ?_, fun z2 hz2 => ?_⟩⟩, fun c => absurd rfl c⟩
  · obtain ⟨w1, w2⟩ := f2.1 c
    have nw : ¬ τ1.2.1.2.1.1 = 0 := fun q => c (w1.symm.trans q)
    obtain ⟨v1, v2⟩ := k2.1 nw
    exact ⟨v1.trans w1, v2.trans w2⟩
  · rw [ej] at hok
    cases hja : js T g a 0 (w || s) with
    | error z3 =>
      rw [hja] at hok
      cases hok
    | ok u =>
      rw [hja] at hok
      dsimp only at hok
      obtain ⟨w1, w2⟩ := (f2.2 c0).1 hja
      obtain ⟨v1, v2⟩ := (k2.2 w1).1 hok
      refine ⟨v1, ?_⟩
      rw [MJS, if_neg (by omega), if_neg (by omega), x1, nI_clamp (by omega)]
      have fy2 : τ2.1.1.2.2.2.2 y = τ.1.1.2.2.2.2 y := by rw [rr.sh.2.2.1]
      have fz2 : τ2.1.1.2.2.2.2 z = τ.1.1.2.2.2.2 z := by rw [rr.sh.2.2.1]
      have ny2 : τ2.1.2.1.1.1 y = nI z := by rw [rr.sh.2.2.2]; exact g2
      rw [ny2, nI_clamp (by omega), fy2, fz2]
      exact ⟨MJS.fr (τ := τ1) k1.sh.2.2.1 k1.sh.2.2.2 a 0 la ha _ (by omega) (f1.mst (by omega) g1) (fun k j1 j2 => by
        obtain ⟨o1, o2, o3⟩ := k1.out k (by omega)
        exact ⟨o2, o1⟩) w2, v2⟩
  · rw [ej] at hz2
    cases hja : js T g a 0 (w || s) with
    | error z3 =>
      rw [hja] at hz2
      cases hz2
      obtain ⟨w1, w2⟩ := (f2.2 c0).2 z2 hja
      have hz1 := js_z a 0 _ z2 hja
      have nw : ¬ τ1.2.1.2.1.1 = 0 := by rw [w1]; exact nI_ne0 hz1.1 (by omega)
      obtain ⟨v1, v2⟩ := k2.1 nw
      exact ⟨v1.trans w1, v2.trans w2⟩
    | ok u =>
      rw [hja] at hz2
      dsimp only at hz2
      exact (k2.2 ((f2.2 c0).1 hja).1).2 z2 hz2
theorem ca_put {T : TX} {N : Nat} {g : List DD} (hv : GV T N g) (hN : N ≤ 3001) (p : Nat) (a b : Tr) (hp8 : p % 8 = 0 ∨ p % 8 = 1) : CA1 T N g (.branch p a b) := by
  intro n lo hi x w τ post h t t' hn hm hw hx hh hj hz hp c0
  rw [MS, if_neg (by omega), if_pos rfl] at hm
  obtain ⟨i, la, ha, y, x1, x2, x3, x4, x5, hm⟩ := hm
  rw [WFS, if_neg (by omega), if_pos rfl] at hw
  rw [XS, if_neg (by omega), if_pos rfl] at hx
  have hl := hv.len
  have hw2 := hv.2
  have hn1 : 1 ≤ n := by
    rw [fb, if_neg (by omega), if_pos rfl] at hn
    rcases hp8 with q | q
    · rw [if_pos q] at hn; exact hn
    · rw [if_neg (by omega), if_pos q] at hn; exact hn
  obtain ⟨n', rfl⟩ : ∃ n', n = n' + 1 := ⟨n - 1, by omega⟩
  have hi9 : i < hi := by
    rcases hp8 with q | q
    · rw [if_neg (by omega)] at hm
      have := hm.2.1.bd
      omega
    · rw [if_pos q] at hm
      obtain ⟨k0, v, lb, hb, z0, y1, y2, y3, y4, y5, y6, y7, y8, y9, y10, y11⟩ := hm
      have := y8.bd
      omega
  have K : TK T (p / 8) = 2 := by
    rcases hp8 with q | q
    · have := hw.2; rw [if_pos q] at this; exact this.1
    · have := hw.2; rw [if_neg (by omega), if_pos q] at this; exact this.1
  have htN : p / 8 < N := by have := hw.1; omega
  have hok : ∀ τ3, JR τ τ3 lo hi → js T g (.branch p a b) 1 w = .ok () → τ3.2.1.2.1.1 = 0 → MJS T g τ3 (.branch p a b) 1 x → post 0 τ3 := by
    intro τ3 r e0 e1 e2
    refine hp τ3 r ⟨fun c => absurd c0 c, fun _ => ⟨fun _ => ⟨e1, e2⟩, fun z hz => by rw [e0] at hz; cases hz⟩⟩
  have her : ∀ z τ3, JR τ τ3 lo hi → js T g (.branch p a b) 1 w = .error z → τ3.2.1.2.1.1 = nI z.1 → τ3.2.1.1.2.2.2 = nI z.2 → post 0 τ3 := by
    intro z τ3 r e0 e1 e2
    refine hp τ3 r ⟨fun c => absurd c0 c, fun _ => ⟨(fun hk => by rw [e0] at hk; cases hk), fun z2 hz => ?_⟩⟩
    rw [e0] at hz
    cases hz
    exact ⟨e1, e2⟩
  have nz : ∀ z, js T g (.branch p a b) 1 w = .error z → ¬ nI z.1 = 0 := fun z hz => nI_ne0 (js_z _ _ _ z hz).1 (by have := (js_z _ _ _ z hz).2; omega)
  have m1 : ∀ (τ3 : SX12) (v : Int32), JR τ3 ((τ3.1.1, (((τ3.1.2.1.1.1, (τ3.1.2.1.1.2.1, (upd τ3.1.2.1.1.2.2 i v))), τ3.1.2.1.2), τ3.1.2.2)), τ3.2) i (i + 1) := fun τ3 v => ⟨_, _, _, _, _, rfl, fun j hj => ⟨rfl, pk_un (by omega), rfl⟩⟩
  have e228 : ∀ z (k : Int32) τ3, JR τ τ3 lo hi → js T g (.branch p a b) 1 w = .error z → τ3.2.1.2.1.1 = nI z.1 → τ3.2.1.1.2.2.2 = nI z.2 → wp_X12_checkOne_228 (wg_ca n') (post 0) τ3 (nI i) k := by
    intro z k τ3 r e0 e1 e2
    refine ⟨in_k (by omega) (by omega), fun y8 e8 => ?_⟩
    rw [nI_clamp (by omega)] at e8
    rw [e8]
    exact her z _ (r.tr (m1 τ3 k) (Nat.le_refl _) (by omega) (Nat.le_refl _) (by omega)) e0 e1 e2
  -- the last EXPR, where something is wrong by now
  have b187 : ∀ z (k : Int32) τ1 ee l u y0, JR τ τ1 lo hi → js T g (.branch p a b) 1 w = .error z → τ1.2.1.2.1.1 = nI z.1 → τ1.2.1.1.2.2.2 = nI z.2 → ME T τ ee l u y0 → lo ≤ l → u ≤ hi → WF T N ee → hc ee ≤ 164 → (∀ j, l ≤ j → j < u → τ1.1.2.1.1.2.1 j = 0) → wp_X12_checkOne_187 (wg_ca n') (post 0) τ1 (nI i) (bi w) (nI (p / 8)) k (nI y0) := by
    intro z k τ1 ee l u y0 r e0 e1 e2 hme hl0 hu0 hwf hhc hz1
    refine ⟨164, by omega, (m_ck hv hN ee).1 164 l u y0 w τ1 _ hhc (r.me hme) hwf (by omega) (r.mji hj) hz1 (fun τ2 f1 f2 => ?_)⟩
    have nw : ¬ τ1.2.1.2.1.1 = 0 := by rw [e1]; exact nz z e0
    obtain ⟨v1, v2⟩ := f2.1 nw
    have nw2 : ¬ τ2.2.1.2.1.1 = 0 := fun c => nw (v1.symm.trans c)
    exact ⟨fun _ => e228 z k τ2 (r.tr f1 (Nat.le_refl _) hl0 (Nat.le_refl _) hu0) e0 (v1.trans e1) (v2.trans e2), fun c => absurd c nw2⟩
  have g187 : ∀ (k : Nat) τ1 ee l u y0, k < g.length → JR τ τ1 lo hi → τ1.2.1.2.1.1 = 0 → ME T τ ee l u y0 → lo ≤ l → u ≤ hi → WF T N ee → hc ee ≤ 164 → (∀ j, l ≤ j → j < u → τ1.1.2.1.1.2.1 j = 0) →
      (∀ z, je T g w ee = .error z → js T g (.branch p a b) 1 w = .error z) → (∀ s, je T g w ee = .ok s → (s && !(dsec T (gx g k))) = true → js T g (.branch p a b) 1 w = .error (7, p / 8)) →
      (∀ s τ2, je T g w ee = .ok s → ¬ (s && !(dsec T (gx g k))) = true → JR τ1 τ2 l u → τ2.2.1.2.1.1 = 0 → MJ T g τ2 ee y0 → post 0 ((τ2.1.1, (((τ2.1.2.1.1.1, (τ2.1.2.1.1.2.1, (upd τ2.1.2.1.1.2.2 i (nI k)))), τ2.1.2.1.2), τ2.1.2.2)), τ2.2)) → wp_X12_checkOne_187 (wg_ca n') (post 0) τ1 (nI i) (bi w) (nI (p / 8)) (nI k) (nI y0) := by
    intro k τ1 ee l u y0 hk r cw hme hl0 hu0 hwf hhc hz1 h1 h2 h3
    have by0 := hme.bd
    refine ⟨164, by omega, (m_ck hv hN ee).1 164 l u y0 w τ1 _ hhc (r.me hme) hwf (by omega) (r.mji hj) hz1 (fun τ2 f1 f2 => ?_)⟩
    have rr : JR τ τ2 lo hi := r.tr f1 (Nat.le_refl _) hl0 (Nat.le_refl _) hu0
    cases hje : je T g w ee with
    | error z =>
      obtain ⟨v1, v2⟩ := (f2.2 cw).2 z hje
      have nw2 : ¬ τ2.2.1.2.1.1 = 0 := by rw [v1]; exact nz z (h1 z hje)
      exact ⟨fun _ => e228 z (nI k) τ2 rr (h1 z hje) v1 v2, fun c => absurd c nw2⟩
    | ok s =>
      obtain ⟨v1, v2, v3⟩ := (f2.2 cw).1 s hje
      have good : ¬ (s && !(dsec T (gx g k))) = true → wp_X12_checkOne_228 (wg_ca n') (post 0) τ2 (nI i) (nI k) := by
        intro q
        refine ⟨in_k (by omega) (by omega), fun y8 e8 => ?_⟩
        rw [nI_clamp (by omega)] at e8
        rw [e8]
        exact h3 s τ2 hje q f1 v1 v3
      refine ⟨fun c => absurd v1 c, fun _ => ⟨in_k (by omega) (by omega), ?_⟩⟩
      have v2' : τ2.1.2.1.1.2.1 y0 = bi s := v2
      rw [nI_clamp (by omega), v2']
      refine ⟨fun c => good (by rw [eq0_f c, Bool.false_and]; decide), fun c => ⟨in_k (by omega) (by omega), ?_⟩⟩
      have q5 : τ2.1.2.2.1.2.2 k = bi (dsec T (gx g k)) := ((rr.mji hj).2.2.2.2.1 k hk).2.2.2.2
      rw [nI_clamp (by omega), q5]
      refine ⟨fun c2 => good (by rw [ne0_t c2]; cases s <;> decide), fun c2 => ?_⟩
      have e7 := h2 s hje (by rw [ne0_t c, eq0_f c2]; rfl)
      exact m_wrong (fun _ => e228 (7, p / 8) (nI k) _ (rr.tr (JR.wr _ _ _ lo hi) (Nat.le_refl _) (Nat.le_refl _) (Nat.le_refl _) (Nat.le_refl _)) e7 rfl rfl) (fun c => absurd v1 c)
  -- the target
  have head : ∀ r : Bool, (∀ z, jt T g w r (p / 8) = .error z → js T g (.branch p a b) 1 w = .error z) → (∀ z (k : Int32), js T g (.branch p a b) 1 w = .error z → wp_X12_checkOne_120 (wg_ca n') (post 0) (τ.1, (((τ.2.1.1.1, (τ.2.1.1.2.1, (τ.2.1.1.2.2.1, (nI z.2)))), (((nI z.1), τ.2.1.2.1.2), τ.2.1.2.2)), τ.2.2)) (nI i) (bi w) (nI (p / 8)) (bi r) k) → (∀ k, jt T g w r (p / 8) = .ok k → k < g.length → wp_X12_checkOne_120 (wg_ca n') (post 0) τ (nI i) (bi w) (nI (p / 8)) (bi r) (nI k)) → wp_X12_checkOne_48 (wg_ca n') (post 0) τ (nI i) (bi w) (nI (p / 8)) (bi r) := by
    intro r hE hB hG
    unfold jt at hE hG
    have b95 : ∀ z (k : Int32), js T g (.branch p a b) 1 w = .error z → wp_X12_checkOne_95 (wg_ca n') (post 0) (τ.1, (((τ.2.1.1.1, (τ.2.1.1.2.1, (τ.2.1.1.2.2.1, (nI z.2)))), (((nI z.1), τ.2.1.2.1.2), τ.2.1.2.2)), τ.2.2)) (nI i) (bi w) (nI (p / 8)) (bi r) k := fun z k e0 => ⟨fun _ => hB z k e0, fun c => absurd c (nz z e0)⟩
    refine m_findN hj.1 hj.2.1 hN hv hj.2.2 K htN ?_
    cases hf : fdI T g (p / 8) with
    | none =>
      rw [hf] at hE
      dsimp only at hE
      refine ⟨fun c => absurd rfl c, fun _ => m_wrong (fun _ => ?_) (fun c => absurd c0 c)⟩
      have e0 := hE (1, p / 8) rfl
      exact ⟨fun _ => b95 (1, p / 8) (-1) e0, fun c => absurd c one_ne⟩
    | some k =>
      rw [hf] at hE hG
      dsimp only at hE hG
      have hk := fdI_lt g _ k hf
      have ek : rI 0 (some k) = nI k := by show nI (0 + k) = _; rw [Nat.zero_add]
      rw [ek]
      obtain ⟨z1, z2, z3, z4, z5⟩ := hj.2.2.2.2.1 k hk
      have z4' : τ.1.2.2.1.2.1 k = bi (gx g k).2.2 := z4
      have z5' : τ.1.2.2.1.2.2 k = bi (dsec T (gx g k)) := z5
      refine ⟨fun _ => ?_, fun c => absurd c (nI_nem1 (by omega))⟩
      have g95 : ¬ (w && ((gx g k).2.2 || !(dsec T (gx g k)))) = true → wp_X12_checkOne_95 (wg_ca n') (post 0) τ (nI i) (bi w) (nI (p / 8)) (bi r) (nI k) := by
        intro q
        rw [if_neg q] at hE hG
        refine ⟨fun c => absurd c0 c, fun _ => ⟨in_k (by omega) (by omega), ?_⟩⟩
        rw [nI_clamp (by omega), z4']
        refine ⟨fun c => hG k ?_ hk, fun c => m_wrong (fun _ => ?_) (fun c => absurd c0 c)⟩
        · rw [if_pos]
          revert c
          cases (gx g k).2.2 <;> cases r <;> intro c <;> first | rfl | exact absurd c (by decide)
        · exact hB (3, p / 8) (nI k) (hE (3, p / 8) (by rw [if_neg (fun e => c (by rw [e]))]))
      have b88 : (w && ((gx g k).2.2 || !(dsec T (gx g k)))) = true → wp_X12_checkOne_88 (wg_ca n') (post 0) τ (nI i) (bi w) (nI (p / 8)) (bi r) (nI k) := by
        intro q
        rw [if_pos q] at hE
        exact m_wrong (fun _ => b95 (8, p / 8) (nI k) (hE (8, p / 8) rfl)) (fun c => absurd c0 c)
      refine ⟨fun c => absurd c0 c, fun _ => ⟨fun c => g95 (by rw [eq0_f c, Bool.false_and]; decide), fun c => ⟨in_k (by omega) (by omega), ?_⟩⟩⟩
      rw [nI_clamp (by omega), z4', z5']
      have wt := ne0_t c
      refine ⟨fun c2 => b88 (by rw [wt, ne0_t c2]; rfl), fun c2 => ⟨in_k (by omega) (by omega), fun c3 => g95 (by rw [wt, eq0_f c2, ne0_t c3]; decide), fun c3 => b88 (by rw [wt, eq0_f c3]; cases (gx g k).2.2 <;> rfl)⟩⟩
  show wp_X12_checkOne (wg_ca n') τ x (bi w) (post 0)
  rw [x1]
  have x5' : τ.1.1.2.2.2.1 i = nI (p / 8) := x5
  have MJi : ∀ (τ2 : SX12) (k : Nat) (e : Tr) (l u y0 : Nat), u ≤ 9000 → ME T τ2 e l u y0 → (i < l ∨ u ≤ i) → MJ T g τ2 e y0 → MJ T g ((τ2.1.1, (((τ2.1.2.1.1.1, (τ2.1.2.1.1.2.1, (upd τ2.1.2.1.1.2.2 i (nI k)))), τ2.1.2.1.2), τ2.1.2.2)), τ2.2) e y0 := by
    intro τ2 k e l u y0 hu0 hme hi0 hmj
    exact MJ.fr (τ := τ2) (τ' := ((τ2.1.1, (((τ2.1.2.1.1.1, (τ2.1.2.1.1.2.1, (upd τ2.1.2.1.1.2.2 i (nI k)))), τ2.1.2.1.2), τ2.1.2.2)), τ2.2)) rfl rfl e l u y0 hu0 hme (fun j j1 j2 => pk_un (k := i) (by omega)) hmj
  rcases hp8 with q | q
  · -- a single one
    rw [if_neg (by omega)] at hm
    obtain ⟨y1, y2, hm⟩ := hm
    rw [if_pos q] at hm
    have hwa : WF T N a := by have := hw.2; rw [if_pos q] at this; exact this.2
    have hxa : hc a ≤ 164 := by have := hx.2; rw [if_pos q] at this; exact this.2.2
    have by1 := y2.bd
    have kd : τ.1.1.2.2.1 i = 300 := hm.1
    have ej : js T g (.branch p a b) 1 w = (match jt T g w false (p / 8) with
        | .error z => .error z
        | .ok k => match je T g w a with
          | .error z => .error z
          | .ok s => if (s && !(dsec T (gx g k))) = true then .error (7, p / 8) else .ok ()) := by rw [js, if_neg (by omega), if_pos rfl, if_pos q] <;> rfl
    refine ⟨in_k (by omega) (by omega), fun yy eyy => ⟨in_k (by omega) (by omega), ?_⟩⟩
    rw [nI_clamp (by omega)] at eyy ⊢
    rw [eyy, x5', kd]
    refine ⟨fun _ => ⟨in_k (by omega) (by omega), ?_⟩, fun c => absurd rfl c⟩
    rw [nI_clamp (by omega), kd]
    refine ⟨fun _ => head false (fun z hz => by rw [ej, hz]) (fun z k e0 => ?_) (fun k hk hkl => ?_), fun c => absurd c (by decide)⟩
    · refine ⟨in_k (by omega) (by omega), fun y4 e4 => ?_⟩
      rw [nI_clamp (by omega)] at e4
      have e4 : y4 = nI y := e4.trans y1
      rw [e4]
      exact ⟨fun _ => b187 z k _ a la ha y (JR.wr τ _ _ lo hi) e0 rfl rfl y2 (by omega) (by omega) hwa hxa (fun j j1 j2 => hz j (by omega) (by omega)), fun c => absurd rfl c⟩
    · rw [hk] at ej
      dsimp only at ej
      refine ⟨in_k (by omega) (by omega), fun y4 e4 => ?_⟩
      rw [nI_clamp (by omega)] at e4
      have e4 : y4 = nI y := e4.trans y1
      rw [e4]
      refine ⟨fun _ => g187 k τ a la ha y hkl (JR.rf _ _ _) c0 y2 (by omega) (by omega) hwa hxa (fun j j1 j2 => hz j (by omega) (by omega)) (fun z hz => by rw [ej, hz]) (fun s hs e => by rw [ej, hs]; dsimp only; rw [if_pos e]) (fun s τ2 hs e f1 f2 f3 => ?_), fun c => absurd rfl c⟩
      have rr : JR τ ((τ2.1.1, (((τ2.1.2.1.1.1, (τ2.1.2.1.1.2.1, (upd τ2.1.2.1.1.2.2 i (nI k)))), τ2.1.2.1.2), τ2.1.2.2)), τ2.2) lo hi := (f1.wd (by omega) (by omega)).tr (m1 τ2 (nI k)) (Nat.le_refl _) (by omega) (Nat.le_refl _) (by omega)
      refine hok _ rr (by rw [ej, hs]; dsimp only; rw [if_neg e]) f2 ?_
      rw [MJS, if_neg (by omega), if_pos rfl, if_pos q, x1, nI_clamp (by omega)]
      refine ⟨⟨k, (jt_ok hk).1, pk_us⟩, ?_⟩
      have e1 : c1 ((τ2.1.1, (((τ2.1.2.1.1.1, (τ2.1.2.1.1.2.1, (upd τ2.1.2.1.1.2.2 i (nI k)))), τ2.1.2.1.2), τ2.1.2.2)), τ2.2) i = y := by
        unfold c1
        rw [rr.sh.2.2.1, y1, nI_clamp (by omega)]
      rw [e1]
      exact MJi τ2 k a la ha y (by omega) (f1.me y2) (Or.inl (by omega)) f3
  · -- one of a row
    rw [if_pos q] at hm
    obtain ⟨k0, v, lb, hb, z0, y1, y2, y3, y4, y5, y6, y7, y8, y9, y10, y11⟩ := hm
    have hw5 := hw.2
    rw [if_neg (by omega), if_pos q] at hw5
    have hx5 := hx.2
    rw [if_neg (by omega), if_pos q] at hx5
    obtain ⟨tm, xs1, xs2⟩ := hx5
    have by1 := y8.bd
    have by2 := y10.bd
    have kd : τ.1.1.2.2.1 i = 301 := k0
    have ej : js T g (.branch p a b) 1 w = (match jt T g w true (p / 8) with
        | .error z => .error z
        | .ok k => match je T g w a with
          | .error z => .error z
          | .ok s1 => if s1 = true then .error (4, p / 8 + 1) else match je T g w b with
            | .error z => .error z
            | .ok s => if (s && !(dsec T (gx g k))) = true then .error (7, p / 8) else .ok ()) := by rw [js, if_neg (by omega), if_pos rfl, if_neg (by omega), if_pos q] <;> rfl
    refine ⟨in_k (by omega) (by omega), fun yy eyy => ⟨in_k (by omega) (by omega), ?_⟩⟩
    rw [nI_clamp (by omega)] at eyy ⊢
    rw [eyy, x5', kd]
    refine ⟨fun c => absurd c (by decide), fun _ => ⟨in_k (by omega) (by omega), fun c => absurd rfl c, fun _ => ⟨in_k (by omega) (by omega), ?_⟩⟩⟩
    rw [nI_clamp (by omega), kd]
    -- what lies behind the index
    have b178 : ∀ z (k : Int32) τ1, JR τ τ1 la ha → js T g (.branch p a b) 1 w = .error z → τ1.2.1.2.1.1 = nI z.1 → τ1.2.1.1.2.2.2 = nI z.2 → wp_X12_checkOne_178 (wg_ca n') (post 0) τ1 (nI i) (bi w) (nI (p / 8)) k (nI y) := by
      intro z k τ1 r e0 e1 e2
      refine ⟨in_k (by omega) (by omega), fun y18 e18 => ?_⟩
      rw [nI_clamp (by omega)] at e18
      have e18 : y18 = nI z0 := by
        rw [e18]
        show τ1.1.2.1.1.1 y = _
        rw [r.sh.2.2.2]
        exact y9
      rw [e18]
      exact b187 z k τ1 b lb hb z0 (r.wd (by omega) (by omega)) e0 e1 e2 y10 (by omega) (by omega) hw5.2.2.2.2 xs2.2.2 (fun j j1 j2 => (r.out j (by omega)).1.trans (hz j (by omega) (by omega)))
    have y14f : ∀ (τ1 : SX12), JR τ τ1 lo hi → τ1.1.2.1.1.1 v = nI y ∧ τ1.1.1.2.2.2.2 i = nI v ∧ τ1.1.1.2.2.2.1 v = nI (p / 8 + 1) := by
      intro τ1 r
      refine ⟨?_, ?_, ?_⟩
      · show τ1.1.2.1.1.1 v = _
        rw [r.sh.2.2.2]
        exact y7
      · show τ1.1.1.2.2.2.2 i = _
        rw [r.sh.2.2.1]
        exact y5
      · show τ1.1.1.2.2.2.1 v = _
        rw [r.sh.2.1]
        exact y6
    refine ⟨fun c => absurd rfl c, fun _ => head true (fun z hz => by rw [ej, hz]) (fun z k e0 => ?_) (fun k hk hkl => ?_)⟩
    · refine ⟨in_k (by omega) (by omega), fun yv ev => ⟨fun c => absurd c (by decide), fun _ => ?_⟩⟩
      rw [nI_clamp (by omega)] at ev
      have ev : yv = nI v := ev.trans y5
      rw [ev]
      refine ⟨in_k (by omega) (by omega), fun y14 e14 => ?_⟩
      rw [nI_clamp (by omega)] at e14
      have e14 : y14 = nI y := e14.trans y7
      rw [e14]
      have r0 := JR.wr τ (nI z.1) (nI z.2) lo hi
      refine ⟨164, by omega, (m_ck hv hN a).1 164 la ha y w _ _ xs1.2.2 (r0.me y8) hw5.2.2.2.1 (by omega) (r0.mji hj) (fun j j1 j2 => hz j (by omega) (by omega)) (fun τ2 f1 f2 => ?_)⟩
      have nw : ¬ ((τ.1, (((τ.2.1.1.1, (τ.2.1.1.2.1, (τ.2.1.1.2.2.1, (nI z.2)))), (((nI z.1), τ.2.1.2.1.2), τ.2.1.2.2)), τ.2.2)) : SX12).2.1.2.1.1 = 0 := nz z e0
      obtain ⟨v1, v2⟩ := f2.1 nw
      have nw2 : ¬ τ2.2.1.2.1.1 = 0 := fun c => nw (v1.symm.trans c)
      have r2 : JR τ τ2 la ha := (JR.wr τ (nI z.1) (nI z.2) la ha).tr f1 (Nat.le_refl _) (Nat.le_refl _) (Nat.le_refl _) (Nat.le_refl _)
      exact ⟨fun _ => b178 z k τ2 r2 e0 v1 v2, fun c => absurd c nw2⟩
    · rw [hk] at ej
      dsimp only at ej
      refine ⟨in_k (by omega) (by omega), fun yv ev => ⟨fun c => absurd c (by decide), fun _ => ?_⟩⟩
      rw [nI_clamp (by omega)] at ev
      have ev : yv = nI v := ev.trans y5
      rw [ev]
      refine ⟨in_k (by omega) (by omega), fun y14 e14 => ?_⟩
      rw [nI_clamp (by omega)] at e14
      have e14 : y14 = nI y := e14.trans y7
      rw [e14]
      refine ⟨164, by omega, (m_ck hv hN a).1 164 la ha y w τ _ xs1.2.2 y8 hw5.2.2.2.1 (by omega) hj (fun j j1 j2 => hz j (by omega) (by omega)) (fun τ2 f1 f2 => ?_)⟩
      cases hje : je T g w a with
      | error z =>
        rw [hje] at ej
        dsimp only at ej
        obtain ⟨v1, v2⟩ := (f2.2 c0).2 z hje
        have nw2 : ¬ τ2.2.1.2.1.1 = 0 := by rw [v1]; exact nz z ej
        exact ⟨fun _ => b178 z (nI k) τ2 f1 ej v1 v2, fun c => absurd c nw2⟩
      | ok s1 =>
        rw [hje] at ej
        dsimp only at ej
        obtain ⟨v1, v2, v3⟩ := (f2.2 c0).1 s1 hje
        have rlo : JR τ τ2 lo hi := f1.wd (by omega) (by omega)
        obtain ⟨q1, q2, q3⟩ := y14f τ2 rlo
        have v2' : τ2.1.2.1.1.2.1 y = bi s1 := v2
        refine ⟨fun c => absurd v1 c, fun _ => ⟨in_k (by omega) (by omega), ?_⟩⟩
        rw [nI_clamp (by omega), v2', nI_clamp (by omega), q3]
        refine ⟨fun c => ?_, fun c => ⟨in_k (by omega) (by omega), m_wrong (fun _ => ?_) (fun c => absurd v1 c)⟩⟩
        · rw [if_neg (by rw [eq0_f c]; decide)] at ej
          refine ⟨in_k (by omega) (by omega), fun y18 e18 => ?_⟩
          rw [nI_clamp (by omega)] at e18
          have e18 : y18 = nI z0 := by
            rw [e18]
            show τ2.1.2.1.1.1 y = _
            rw [f1.sh.2.2.2]
            exact y9
          rw [e18]
          refine g187 k τ2 b lb hb z0 hkl rlo v1 y10 (by omega) (by omega) hw5.2.2.2.2 xs2.2.2 (fun j j1 j2 => (f1.out j (by omega)).1.trans (hz j (by omega) (by omega))) (fun z hz => by rw [ej, hz]) (fun s hs e => by rw [ej, hs]; dsimp only; rw [if_pos e]) (fun s τ3 hs e h1 h2 h3 => ?_)
          have r3 : JR τ τ3 lo hi := rlo.tr h1 (Nat.le_refl _) (by omega) (Nat.le_refl _) (by omega)
          have rr : JR τ ((τ3.1.1, (((τ3.1.2.1.1.1, (τ3.1.2.1.1.2.1, (upd τ3.1.2.1.1.2.2 i (nI k)))), τ3.1.2.1.2), τ3.1.2.2)), τ3.2) lo hi := r3.tr (m1 τ3 (nI k)) (Nat.le_refl _) (by omega) (Nat.le_refl _) (by omega)
          refine hok _ rr (by rw [ej, hs]; dsimp only; rw [if_neg e]) h2 ?_
          rw [MJS, if_neg (by omega), if_pos rfl, if_neg (by omega), if_pos q, x1, nI_clamp (by omega)]
          have e1 : c1 ((τ3.1.1, (((τ3.1.2.1.1.1, (τ3.1.2.1.1.2.1, (upd τ3.1.2.1.1.2.2 i (nI k)))), τ3.1.2.1.2), τ3.1.2.2)), τ3.2) i = v := by
            unfold c1
            rw [rr.sh.2.2.1, y5, nI_clamp (by omega)]
          have e2 : c2 ((τ3.1.1, (((τ3.1.2.1.1.1, (τ3.1.2.1.1.2.1, (upd τ3.1.2.1.1.2.2 i (nI k)))), τ3.1.2.1.2), τ3.1.2.2)), τ3.2) i = y := by
            unfold c2
            rw [e1, rr.sh.2.2.2, y7, nI_clamp (by omega)]
          have e3 : (τ3.1.2.1.1.1 y).toNatClampNeg = z0 := by rw [r3.sh.2.2.2, y9, nI_clamp (by omega)]
          rw [e2, e3]
          refine ⟨⟨k, (jt_ok hk).1, pk_us⟩, ?_, ?_⟩
          · refine MJi τ3 k a la ha y (by omega) (r3.me y8) (Or.inl (by omega)) ?_
            exact MJ.fr (τ := τ2) h1.sh.2.2.1 h1.sh.2.2.2 a la ha y (by omega) (f1.me y8) (fun j j1 j2 => (h1.out j (by omega)).2.1) v3
          · exact MJi τ3 k b lb hb z0 (by omega) (r3.me y10) (Or.inl (by omega)) h3
        · rw [if_pos (ne0_t c)] at ej
          exact b178 (4, p / 8 + 1) (nI k) _ (f1.tr (JR.wr _ _ _ la ha) (Nat.le_refl _) (Nat.le_refl _) (Nat.le_refl _) (Nat.le_refl _)) ej rfl rfl
end Mone
