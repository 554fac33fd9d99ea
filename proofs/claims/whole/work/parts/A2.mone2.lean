section Mone2
theorem ca_ow {T : TX} {N : Nat} {g : List DD} (hv : GV T N g) (hN : N ≤ 3001) (p : Nat) (a b : Tr) (hB : CA0 T N g b) (hp8 : p % 8 = 2 ∨ p % 8 = 3) : CA1 T N g (.branch p a b) := by
  intro n lo hi x w τ post h t t' hn hm hw hx hh hj hz hp c0
  rw [MS, if_neg (by omega), if_pos rfl] at hm
  obtain ⟨i, la, ha, y, x1, x2, x3, x4, x5, hm⟩ := hm
  rw [if_neg (by omega)] at hm
  obtain ⟨y1, y2, hm⟩ := hm
  rw [if_neg (by omega)] at hm
  have by1 := y2.bd
  rw [WFS, if_neg (by omega), if_pos rfl, if_neg (by omega), if_neg (by omega)] at hw
  rw [XS, if_neg (by omega), if_pos rfl, if_neg (by omega), if_neg (by omega)] at hx
  rw [fb, if_neg (by omega), if_pos rfl, if_neg (by omega), if_neg (by omega)] at hn
  have hn1 : 1 ≤ n := by
    rcases hp8 with q | q
    · rw [if_pos q] at hn; exact hn
    · rw [if_neg (by omega), if_pos q] at hn; omega
  obtain ⟨n', rfl⟩ : ∃ n', n = n' + 1 := ⟨n - 1, by omega⟩
  have hwa : WF T N a := by
    rcases hp8 with q | q
    · have := hw.2; rw [if_pos q] at this; exact this.2
    · have := hw.2; rw [if_neg (by omega), if_pos q] at this; exact this.2.1
  have hxa : hc a ≤ 164 := by
    rcases hp8 with q | q
    · have := hx.2; rw [if_pos q] at this; exact this.2.2
    · have := hx.2; rw [if_neg (by omega), if_pos q] at this; obtain ⟨t1, z1, z2⟩ := this; exact z1.2.2
  have hok : ∀ τ3, JR τ τ3 lo hi → js T g (.branch p a b) 1 w = .ok () → τ3.2.1.2.1.1 = 0 → MJS T g τ3 (.branch p a b) 1 x → post 0 τ3 := by
    intro τ3 r e0 e1 e2
    refine hp τ3 r ⟨fun c => absurd c0 c, fun _ => ⟨fun _ => ⟨e1, e2⟩, fun z hz => by rw [e0] at hz; cases hz⟩⟩
  have her : ∀ z τ3, JR τ τ3 lo hi → js T g (.branch p a b) 1 w = .error z → τ3.2.1.2.1.1 = nI z.1 → τ3.2.1.1.2.2.2 = nI z.2 → post 0 τ3 := by
    intro z τ3 r e0 e1 e2
    refine hp τ3 r ⟨fun c => absurd c0 c, fun _ => ⟨(fun hk => by rw [e0] at hk; cases hk), fun z2 hz => ?_⟩⟩
    rw [e0] at hz
    cases hz
    exact ⟨e1, e2⟩
  have nz : ∀ z, js T g (.branch p a b) 1 w = .error z → ¬ nI z.1 = 0 := fun z hz => nI_ne0 (js_z _ _ _ z hz).1 (by have := (js_z _ _ _ z hz).2; omega)
  show wp_X12_checkOne (wg_ca n') τ x (bi w) (post 0)
  rw [x1]
  have x5' : τ.1.1.2.2.2.1 i = nI (p / 8) := x5
  have kf : ∀ τ3, JR τ τ3 lo hi → τ3.1.1.2.2.1 i = τ.1.1.2.2.1 i ∧ τ3.1.1.2.2.2.2 i = nI y := by
    intro τ3 r
    refine ⟨?_, ?_⟩
    · show τ3.1.1.2.2.1 i = _
      rw [r.sh.1]
    · show τ3.1.1.2.2.2.2 i = _
      rw [r.sh.2.2.1]
      exact y1
  -- what both have in common; nm: the number if the EXPR is secret
  have com : ∀ (nm : Nat) (kd : Int32), τ.1.1.2.2.1 i = kd → (kd = 6 ∨ kd = 9) → nm = (if kd = 6 then 7 else 6) → (w = true → js T g (.branch p a b) 1 w = .error (8, p / 8)) → (¬ w = true → ∀ z, je T g w a = .error z → js T g (.branch p a b) 1 w = .error z) → (¬ w = true → je T g w a = .ok true → js T g (.branch p a b) 1 w = .error (nm, p / 8)) →
      (∀ z τ3, JR τ τ3 la ha → js T g (.branch p a b) 1 w = .error z → τ3.2.1.2.1.1 = nI z.1 → τ3.2.1.1.2.2.2 = nI z.2 → wp_X12_checkOne_327 (wg_ca n') (post 0) τ3 (nI i) (bi w)) →
      (∀ τ3, JR τ τ3 la ha → ¬ w = true → je T g w a = .ok false → τ3.2.1.2.1.1 = 0 → MJ T g τ3 a y → wp_X12_checkOne_327 (wg_ca n') (post 0) τ3 (nI i) (bi w)) → wp_X12_checkOne_261 (wg_ca n') (post 0) τ (nI i) (bi w) (nI (p / 8)) := by
    intro nm kd hkd hkd2 hnm h8 hje hjs hbad hgood
    have b272 : ∀ z τ1, JR τ τ1 la ha → js T g (.branch p a b) 1 w = .error z → τ1.2.1.2.1.1 = nI z.1 → τ1.2.1.1.2.2.2 = nI z.2 → (∀ j, la ≤ j → j < ha → τ1.1.2.1.1.2.1 j = 0) → wp_X12_checkOne_272 (wg_ca n') (post 0) τ1 (nI i) (bi w) (nI (p / 8)) := by
      intro z τ1 r e0 e1 e2 hz1
      refine ⟨in_k (by omega) (by omega), ?_⟩
      rw [nI_clamp (by omega), (kf τ1 (r.wd (by omega) (by omega))).2]
      refine ⟨164, by omega, (m_ck hv hN a).1 164 la ha y w τ1 _ hxa (r.me y2) hwa (by omega) (r.mji hj) hz1 (fun τ2 f1 f2 => ?_)⟩
      have nw : ¬ τ1.2.1.2.1.1 = 0 := by rw [e1]; exact nz z e0
      obtain ⟨v1, v2⟩ := f2.1 nw
      have nw2 : ¬ τ2.2.1.2.1.1 = 0 := fun c => nw (v1.symm.trans c)
      exact ⟨fun _ => hbad z τ2 (r.tr f1 (Nat.le_refl _) (Nat.le_refl _) (Nat.le_refl _) (Nat.le_refl _)) e0 (v1.trans e1) (v2.trans e2), fun c => absurd c nw2⟩
    cases w with
    | true =>
      refine ⟨fun c => absurd c (by decide), fun _ => m_wrong (fun _ => ?_) (fun c => absurd c0 c)⟩
      exact b272 (8, p / 8) _ (JR.wr τ _ _ la ha) (h8 rfl) rfl rfl (fun j j1 j2 => hz j (by omega) (by omega))
    | false =>
      have nt : ¬ false = true := by decide
      refine ⟨fun _ => ⟨in_k (by omega) (by omega), ?_⟩, fun c => absurd rfl c⟩
      rw [nI_clamp (by omega), (kf τ (JR.rf _ _ _)).2]
      refine ⟨164, by omega, (m_ck hv hN a).1 164 la ha y false τ _ hxa y2 hwa (by omega) hj (fun j j1 j2 => hz j (by omega) (by omega)) (fun τ2 f1 f2 => ?_)⟩
      have rr : JR τ τ2 lo hi := f1.wd (by omega) (by omega)
      obtain ⟨k1, k2⟩ := kf τ2 rr
      cases hja : je T g false a with
      | error z =>
        obtain ⟨v1, v2⟩ := (f2.2 c0).2 z hja
        have nw2 : ¬ τ2.2.1.2.1.1 = 0 := by rw [v1]; exact nz z (hje nt z hja)
        exact ⟨fun _ => hbad z τ2 f1 (hje nt z hja) v1 v2, fun c => absurd c nw2⟩
      | ok s =>
        obtain ⟨v1, v2, v3⟩ := (f2.2 c0).1 s hja
        have v2' : τ2.1.2.1.1.2.1 y = bi s := v2
        refine ⟨fun c => absurd v1 c, fun _ => ⟨in_k (by omega) (by omega), ?_⟩⟩
        rw [k2, nI_clamp (show y < 2 ^ 31 by omega), v2', k1, hkd]
        refine ⟨in_k (by omega) (by omega), fun c => hgood τ2 f1 nt (by rw [hja, eq0_f c]) v1 v3, fun c => ⟨in_k (by omega) (by omega), fun c6 => ?_, fun c6 => ?_⟩⟩
        · have e0 := hjs nt (by rw [hja, ne0_t c])
          rw [hnm, if_neg c6] at e0
          exact m_wrong (fun _ => hbad (6, p / 8) _ (f1.tr (JR.wr _ _ _ la ha) (Nat.le_refl _) (Nat.le_refl _) (Nat.le_refl _) (Nat.le_refl _)) e0 rfl rfl) (fun c => absurd v1 c)
        · have e0 := hjs nt (by rw [hja, ne0_t c])
          rw [hnm, if_pos c6] at e0
          exact m_wrong (fun _ => hbad (7, p / 8) _ (f1.tr (JR.wr _ _ _ la ha) (Nat.le_refl _) (Nat.le_refl _) (Nat.le_refl _) (Nat.le_refl _)) e0 rfl rfl) (fun c => absurd v1 c)
  refine ⟨in_k (by omega) (by omega), fun yy eyy => ⟨in_k (by omega) (by omega), ?_⟩⟩
  rw [nI_clamp (by omega)] at eyy ⊢
  rw [eyy, x5']
  rcases hp8 with q | q
  · -- out
    rw [if_pos q] at hm
    have kd : τ.1.1.2.2.1 i = 6 := hm.1
    have ej : js T g (.branch p a b) 1 w = (if w = true then .error (8, p / 8) else match je T g w a with
        | .error z => .error z
        | .ok s => if s = true then .error (7, p / 8) else .ok ()) := by rw [js, if_neg (by omega), if_pos rfl, if_neg (by omega), if_neg (by omega), if_pos q] <;> rfl
    rw [kd]
    refine ⟨fun c => absurd c (by decide), fun _ => ⟨in_k (by omega) (by omega), fun _ => ⟨in_k (by omega) (by omega), fun _ => ?_, fun c => absurd rfl c⟩, fun c => absurd c (by decide)⟩⟩
    refine com 7 6 hm.1 (Or.inl rfl) rfl (fun e => by rw [ej, if_pos e]) (fun e z hz => by rw [ej, if_neg e, hz]) (fun e hz => by rw [ej, if_neg e, hz]; rfl) (fun z τ3 r e0 e1 e2 => ?_) (fun τ3 r e hz v1 v3 => ?_)
    · have k6 := (kf τ3 (r.wd (by omega) (by omega))).1
      refine ⟨in_k (by omega) (by omega), ?_⟩
      rw [nI_clamp (by omega), k6, hm.1]
      exact ⟨fun _ => her z τ3 (r.wd (by omega) (by omega)) e0 e1 e2, fun c => absurd c (by decide)⟩
    · have rr : JR τ τ3 lo hi := r.wd (by omega) (by omega)
      refine ⟨in_k (by omega) (by omega), ?_⟩
      rw [nI_clamp (by omega), (kf τ3 rr).1, hm.1]
      refine ⟨fun _ => hok τ3 rr (by rw [ej, if_neg e, hz]; rfl) v1 ?_, fun c => absurd c (by decide)⟩
      rw [MJS, if_neg (by omega), if_pos rfl, if_neg (by omega), if_neg (by omega), if_pos q, x1, nI_clamp (by omega)]
      have e1 : c1 τ3 i = y := by unfold c1; rw [rr.sh.2.2.1, y1, nI_clamp (by omega)]
      rw [e1]
      exact v3
  · -- while
    rw [if_neg (by omega), if_pos q] at hm
    rw [if_neg (by omega), if_pos q] at hn
    have hw3 := hw.2
    rw [if_neg (by omega), if_pos q] at hw3
    have hx3 := hx.2
    rw [if_neg (by omega), if_pos q] at hx3
    obtain ⟨t1, xs1, xs2, xs3⟩ := hx3
    obtain ⟨k9, z0, lb, hb, z1, z2, z3, z4, z5, z6, z7⟩ := hm
    have kd : τ.1.1.2.2.1 i = 9 := k9
    have ej : js T g (.branch p a b) 1 w = (if w = true then .error (8, p / 8) else match je T g w a with
        | .error z => .error z
        | .ok s => if s = true then .error (6, p / 8) else js T g b 0 w) := by rw [js, if_neg (by omega), if_pos rfl, if_neg (by omega), if_neg (by omega), if_neg (by omega), if_pos q] <;> rfl
    have fz : ∀ τ3, JR τ τ3 la ha → τ3.1.1.2.2.2.2 z0 = τ.1.1.2.2.2.2 z0 ∧ τ3.1.2.1.1.1 y = nI z0 := by
      intro τ3 r
      refine ⟨by rw [r.sh.2.2.1], ?_⟩
      show τ3.1.2.1.1.1 y = _
      rw [r.sh.2.2.2]
      exact z5
    have body : ∀ τ3, JR τ τ3 la ha → (∀ τ4, JR τ τ4 lo hi → JR τ3 τ4 lb hb → RS T g w τ3 τ4 b 0 (τ.1.1.2.2.2.2 z0) → post 0 τ4) → wp_X12_checkOne_327 (wg_ca n') (post 0) τ3 (nI i) (bi w) := by
      intro τ3 r hf
      have rr : JR τ τ3 lo hi := r.wd (by omega) (by omega)
      obtain ⟨f1, f2⟩ := fz τ3 r
      refine ⟨in_k (by omega) (by omega), ?_⟩
      rw [nI_clamp (by omega), (kf τ3 rr).1, k9]
      refine ⟨fun c => absurd rfl c, fun _ => ⟨in_k (by omega) (by omega), ?_⟩⟩
      rw [(kf τ3 rr).2, nI_clamp (by omega), f2]
      refine ⟨in_k (by omega) (by omega), ?_⟩
      refine blk hB (h := h - 1) (by omega) (by omega) (by rw [f1]; exact r.mst (by omega) z6) hw3.2.2 xs3 (by omega) (r.mji hj) (fun j j1 j2 => (r.out j (by omega)).1.trans (hz j (by omega) (by omega))) (fun τ4 g1 g2 => ?_)
      rw [f1] at g2
      exact hf τ4 (rr.tr g1 (Nat.le_refl _) (by omega) (Nat.le_refl _) (by omega)) g1 g2
    rw [kd]
    refine ⟨fun c => absurd c (by decide), fun _ => ⟨in_k (by omega) (by omega), fun _ => ⟨in_k (by omega) (by omega), fun c => absurd c (by decide), fun _ => ⟨in_k (by omega) (by omega), fun c => absurd rfl c, fun _ => ?_⟩⟩, fun c => absurd c (by decide)⟩⟩
    refine com 6 9 k9 (Or.inr rfl) rfl (fun e => by rw [ej, if_pos e]) (fun e z hz => by rw [ej, if_neg e, hz]) (fun e hz => by rw [ej, if_neg e, hz]; rfl) (fun z τ3 r e0 e1 e2 => ?_) (fun τ3 r e hz2 v1 v3 => ?_)
    · refine body τ3 r (fun τ4 g1 g2 g3 => ?_)
      have nw : ¬ τ3.2.1.2.1.1 = 0 := by rw [e1]; exact nz z e0
      obtain ⟨v1, v2⟩ := g3.1 nw
      exact her z τ4 g1 e0 (v1.trans e1) (v2.trans e2)
    · refine body τ3 r (fun τ4 g1 g2 g3 => ?_)
      have ej2 : js T g (.branch p a b) 1 w = js T g b 0 w := by rw [ej, if_neg e, hz2]; rfl
      cases hjb : js T g b 0 w with
      | error z =>
        obtain ⟨u1, u2⟩ := (g3.2 v1).2 z hjb
        exact her z τ4 g1 (ej2.trans hjb) u1 u2
      | ok u =>
        obtain ⟨u1, u2⟩ := (g3.2 v1).1 hjb
        refine hok τ4 g1 (ej2.trans hjb) u1 ?_
        rw [MJS, if_neg (by omega), if_pos rfl, if_neg (by omega), if_neg (by omega), if_neg (by omega), if_pos q, x1, nI_clamp (by omega)]
        have e1 : c1 τ4 i = y := by unfold c1; rw [g1.sh.2.2.1, y1, nI_clamp (by omega)]
        have e2 : c2 τ4 i = z0 := by unfold c2; rw [e1, g1.sh.2.2.2, z5, nI_clamp (by omega)]
        have e3 : τ4.1.1.2.2.2.2 z0 = τ.1.1.2.2.2.2 z0 := by rw [g1.sh.2.2.1]
        rw [e1, e2, e3]
        exact ⟨MJ.fr (τ := τ3) g2.sh.2.2.1 g2.sh.2.2.2 a la ha y (by omega) (r.me y2) (fun j j1 j2 => (g2.out j (by omega)).2.1) v3, u2⟩
theorem ca_if {T : TX} {N : Nat} {g : List DD} (hv : GV T N g) (hN : N ≤ 3001) (p : Nat) (a b : Tr) (hB : CA0 T N g b) (hB2 : CA2 T N g b) (hp8 : 4 ≤ p % 8) : CA1 T N g (.branch p a b) := by
  intro n lo hi x w τ post h t t' hn hm hw hx hh hj hz hp c0
  rw [MS, if_neg (by omega), if_pos rfl] at hm
  obtain ⟨i, la, ha, y, x1, x2, x3, x4, x5, hm⟩ := hm
  rw [if_neg (by omega)] at hm
  obtain ⟨y1, y2, hm⟩ := hm
  rw [if_neg (by omega), if_neg (by omega), if_neg (by omega)] at hm
  have by1 := y2.bd
  rw [WFS, if_neg (by omega), if_pos rfl, if_neg (by omega), if_neg (by omega), if_neg (by omega), if_neg (by omega)] at hw
  rw [XS, if_neg (by omega), if_pos rfl, if_neg (by omega), if_neg (by omega), if_neg (by omega), if_neg (by omega)] at hx
  rw [fb, if_neg (by omega), if_pos rfl, if_neg (by omega), if_neg (by omega), if_neg (by omega), if_neg (by omega)] at hn
  have hok : ∀ τ3, JR τ τ3 lo hi → js T g (.branch p a b) 1 w = .ok () → τ3.2.1.2.1.1 = 0 → MJS T g τ3 (.branch p a b) 1 x → post 0 τ3 := by
    intro τ3 r e0 e1 e2
    refine hp τ3 r ⟨fun c => absurd c0 c, fun _ => ⟨fun _ => ⟨e1, e2⟩, fun z hz => by rw [e0] at hz; cases hz⟩⟩
  have her : ∀ z τ3, JR τ τ3 lo hi → js T g (.branch p a b) 1 w = .error z → τ3.2.1.2.1.1 = nI z.1 → τ3.2.1.1.2.2.2 = nI z.2 → post 0 τ3 := by
    intro z τ3 r e0 e1 e2
    refine hp τ3 r ⟨fun c => absurd c0 c, fun _ => ⟨(fun hk => by rw [e0] at hk; cases hk), fun z2 hz => ?_⟩⟩
    rw [e0] at hz
    cases hz
    exact ⟨e1, e2⟩
  have nz : ∀ z, js T g (.branch p a b) 1 w = .error z → ¬ nI z.1 = 0 := fun z hz => nI_ne0 (js_z _ _ _ z hz).1 (by have := (js_z _ _ _ z hz).2; omega)
  -- the two shapes in one: mb, and the link x4 to the BLOCKs
  have all : ∀ (mb lb : Nat), fb b mb + 2 ≤ n → WF T N a → hc a ≤ 164 → τ.1.1.2.2.1 i = 7 → i < lb → ha ≤ lb → lb ≤ hi → js T g (.branch p a b) 1 w = (match je T g w a with | .error z => .error z | .ok s => js T g b mb (w || s)) →
      (∀ (n' : Nat) (s : Bool) (τ1 : SX12) (post' : SX12 → Prop), n = n' + 1 → JR τ τ1 lo lb → τ1.1.2.1.1.2.1 i = bi s → (∀ τ', JR τ1 τ' lb hi → (¬ τ1.2.1.2.1.1 = 0 → τ'.2.1.2.1.1 = τ1.2.1.2.1.1 ∧ τ'.2.1.1.2.2.2 = τ1.2.1.1.2.2.2) → (τ1.2.1.2.1.1 = 0 → (js T g b mb (w || s) = .ok () → τ'.2.1.2.1.1 = 0 ∧ (MJ T g τ' a (c1 τ' i) → τ'.1.2.1.1.2.1 i = bi (esc T g a) → MJS T g τ' (.branch p a b) 1 x)) ∧ (∀ z, js T g b mb (w || s) = .error z → τ'.2.1.2.1.1 = nI z.1 ∧ τ'.2.1.1.2.2.2 = nI z.2)) → post' τ') → ∃ M, wp_X12_checkOne_413 (wg_ca n') post' M τ1 (nI i) (bi w) (τ.1.2.1.1.1 y)) → wg_ca n 1 τ [x, bi w] post := by
    intro mb lb hn2 hwa hxa kd hib hlb hlh ej hloop
    obtain ⟨n', rfl⟩ : ∃ n', n = n' + 1 := ⟨n - 1, by omega⟩
    show wp_X12_checkOne (wg_ca n') τ x (bi w) (post 0)
    rw [x1]
    have kd' : τ.1.1.2.2.1 i = 7 := kd
    have y1' : τ.1.1.2.2.2.2 i = nI y := y1
    refine ⟨in_k (by omega) (by omega), fun yy eyy => ⟨in_k (by omega) (by omega), ?_⟩⟩
    rw [nI_clamp (by omega), kd']
    refine ⟨fun c => absurd c (by decide), fun _ => ⟨in_k (by omega) (by omega), fun _ => ⟨in_k (by omega) (by omega), fun c => absurd c (by decide), fun _ => ⟨in_k (by omega) (by omega), fun _ => ⟨in_k (by omega) (by omega), ?_⟩, fun c => absurd c (by decide)⟩⟩, fun c => absurd c (by decide)⟩⟩
    rw [y1']
    refine ⟨164, by omega, (m_ck hv hN a).1 164 la ha y w τ _ hxa y2 hwa (by omega) hj (fun j j1 j2 => hz j (by omega) (by omega)) (fun τ2 f1 f2 => ?_)⟩
    have fi2 : τ2.1.1.2.2.2.2 i = nI y := by
      show τ2.1.1.2.2.2.2 i = _
      rw [f1.sh.2.2.1]
      exact y1
    have ny2 : τ2.1.2.1.1.1 y = τ.1.2.1.1.1 y := by
      show τ2.1.2.1.1.1 y = _
      rw [f1.sh.2.2.2]
    -- the BLOCKs, once it is kept whether the EXPR is secret
    have e399 : ∀ s : Bool, (∀ τ', JR ((τ2.1.1, (((τ2.1.2.1.1.1, ((upd τ2.1.2.1.1.2.1 i (bi s)), τ2.1.2.1.1.2.2)), τ2.1.2.1.2), τ2.1.2.2)), τ2.2) τ' lb hi → (¬ τ2.2.1.2.1.1 = 0 → τ'.2.1.2.1.1 = τ2.2.1.2.1.1 ∧ τ'.2.1.1.2.2.2 = τ2.2.1.1.2.2.2) → (τ2.2.1.2.1.1 = 0 → (js T g b mb (w || s) = .ok () → τ'.2.1.2.1.1 = 0 ∧ (MJ T g τ' a (c1 τ' i) → τ'.1.2.1.1.2.1 i = bi (esc T g a) → MJS T g τ' (.branch p a b) 1 x)) ∧ (∀ z, js T g b mb (w || s) = .error z → τ'.2.1.2.1.1 = nI z.1 ∧ τ'.2.1.1.2.2.2 = nI z.2)) → post 0 τ') → wp_X12_checkOne_399 (wg_ca n') (post 0) τ2 (nI i) (bi w) (bi s) (nI i) := by
      intro s hf
      refine ⟨in_k (by omega) (by omega), fun y52 e52 => ⟨in_k (by omega) (by omega), ?_⟩⟩
      rw [nI_clamp (by omega)] at e52 ⊢
      rw [fi2]
      refine ⟨in_k (by omega) (by omega), fun y53 e53 => ?_⟩
      rw [nI_clamp (by omega)] at e53
      have e52 : y52 = upd τ2.1.2.1.1.2.1 i (bi s) := by
        rw [e52]
        cases s <;> rfl
      have e53 : y53 = τ.1.2.1.1.1 y := e53.trans ny2
      rw [e52, e53]
      exact hloop n' s ((τ2.1.1, (((τ2.1.2.1.1.1, ((upd τ2.1.2.1.1.2.1 i (bi s)), τ2.1.2.1.1.2.2)), τ2.1.2.1.2), τ2.1.2.2)), τ2.2) (post 0) rfl ((f1.tr (JR.s1 (bi s) i) (l := lo) (m := lb) (by omega) (by omega) (by omega) (by omega))) pk_us hf
    have rfin : ∀ (s : Bool) (τ' : SX12), JR ((τ2.1.1, (((τ2.1.2.1.1.1, ((upd τ2.1.2.1.1.2.1 i (bi s)), τ2.1.2.1.1.2.2)), τ2.1.2.1.2), τ2.1.2.2)), τ2.2) τ' lb hi → JR τ τ' lo hi := by
      intro s τ' r
      exact ((f1.tr (JR.s1 (bi s) i) (l := lo) (m := lb) (by omega) (by omega) (by omega) (by omega))).tr r (Nat.le_refl _) (by omega) (by omega) (Nat.le_refl _)
    cases hja : je T g w a with
    | error z =>
      rw [hja] at ej
      dsimp only at ej
      obtain ⟨v1, v2⟩ := (f2.2 c0).2 z hja
      have nw2 : ¬ τ2.2.1.2.1.1 = 0 := by rw [v1]; exact nz z ej
      refine ⟨fun _ => e399 false (fun τ' r h1 h2 => ?_), fun c => absurd c nw2⟩
      obtain ⟨u1, u2⟩ := h1 nw2
      exact her z τ' (rfin false τ' r) ej (u1.trans v1) (u2.trans v2)
    | ok s =>
      rw [hja] at ej
      dsimp only at ej
      obtain ⟨v1, v2, v3⟩ := (f2.2 c0).1 s hja
      have es := je_esc a s hja
      have v2' : τ2.1.2.1.1.2.1 y = bi s := v2
      have fin : wp_X12_checkOne_399 (wg_ca n') (post 0) τ2 (nI i) (bi w) (bi s) (nI i) := by
        refine e399 s (fun τ' r h1 h2 => ?_)
        have rr := rfin s τ' r
        cases hjb : js T g b mb (w || s) with
        | error z =>
          obtain ⟨u1, u2⟩ := (h2 v1).2 z hjb
          exact her z τ' rr (ej.trans hjb) u1 u2
        | ok u =>
          obtain ⟨u1, u2⟩ := (h2 v1).1 hjb
          refine hok τ' rr (ej.trans hjb) u1 (u2 ?_ ?_)
          · have e1 : c1 τ' i = y := by unfold c1; rw [rr.sh.2.2.1, y1, nI_clamp (by omega)]
            rw [e1]
            have rs := r.sh
            refine MJ.fr (τ := τ2) rs.2.2.1 rs.2.2.2 a la ha y (by omega) (f1.me y2) (fun j j1 j2 => ?_) v3
            exact (r.out j (by omega)).2.1
          · rw [← es]
            exact (r.out i (by omega)).1.trans pk_us
      refine ⟨fun c => absurd v1 c, fun _ => ⟨in_k (by omega) (by omega), ?_⟩⟩
      rw [fi2, nI_clamp (by omega), v2']
      cases s with
      | false => exact ⟨in_k (by omega) (by omega), fun _ => fin, fun c => absurd rfl c⟩
      | true => exact ⟨in_k (by omega) (by omega), fun c => absurd c (by decide), fun _ => fin⟩
  by_cases q4 : p % 8 = 4
  · rw [if_pos q4] at hm hn
    have hw4 := hw.2
    rw [if_pos q4] at hw4
    have hx4 := hx.2
    rw [if_pos q4] at hx4
    obtain ⟨t1, xs1, xs2, xs3⟩ := hx4
    obtain ⟨k7, z0, lb, hb, z1, z2, z3, z4, z5, z6, z7⟩ := hm
    refine all 0 z0 hn hw4.2.1 xs1.2.2 k7 (by omega) z1 (by omega) (by rw [js, if_neg (by omega), if_pos rfl, if_neg (by omega), if_neg (by omega), if_neg (by omega), if_neg (by omega), if_pos q4] <;> rfl) (fun n' s τ1 post' en r hs hf => ⟨2, ?_⟩)
    have f1 : τ1.1.1.2.2.2.2 z0 = τ.1.1.2.2.2.2 z0 := by rw [r.sh.2.2.1]
    rw [z5]
    refine st413 (M := 1) (by omega) (by omega) hs ?_
    refine blk hB (h := h - 1) (by omega) (by omega) (by rw [f1]; exact r.mst (by omega) z6) hw4.2.2 xs3 (by omega) (r.mji hj) (fun j j1 j2 => (r.out j (by omega)).1.trans (hz j (by omega) (by omega))) (fun τ2 g1 g2 => ?_)
    rw [f1] at g2
    have n2 : τ2.1.2.1.1.1 z0 = -1 := by rw [g1.sh.2.2.2, r.sh.2.2.2]; exact z7
    rw [n2]
    show wb_X12_checkOne_413 (wg_ca n') post' (fun a => wp_X12_checkOne_413 (wg_ca n') post' 0 a.1 a.2.1 a.2.2.1 a.2.2.2) τ2 (nI i) (bi w) (-1)
    refine ⟨fun _ => hf τ2 (g1.wd (by omega) (by omega)) g2.1 (fun c => ⟨fun hk => ⟨((g2.2 c).1 hk).1, fun mj sc => ?_⟩, (g2.2 c).2⟩), fun c => absurd rfl c⟩
    rw [MJS, if_neg (by omega), if_pos rfl, if_neg (by omega), if_neg (by omega), if_neg (by omega), if_neg (by omega), if_pos q4, x1, nI_clamp (by omega)]
    have rr : JR τ τ2 lo hi := r.tr g1 (Nat.le_refl _) (by omega) (by omega) (by omega)
    have e1 : c1 τ2 i = y := by unfold c1; rw [rr.sh.2.2.1, y1, nI_clamp (by omega)]
    have e2 : c2 τ2 i = z0 := by unfold c2; rw [e1, rr.sh.2.2.2, z5, nI_clamp (by omega)]
    have e3 : τ2.1.1.2.2.2.2 z0 = τ.1.1.2.2.2.2 z0 := by rw [rr.sh.2.2.1]
    rw [e2, e3]
    exact ⟨mj, sc, ((g2.2 c).1 hk).2⟩
  · rw [if_neg q4] at hm hn
    have hw5 := hw.2
    rw [if_neg q4] at hw5
    have hx5 := hx.2
    rw [if_neg q4] at hx5
    obtain ⟨t1, xs1, xs2, xs3⟩ := hx5
    obtain ⟨k7, lb, z1, z2⟩ := hm
    have hlb : i < lb := by omega
    have hlh : lb ≤ hi := by
      cases b with
      | leaf t =>
        have : (2 : Nat) = 0 := hw5.2.2.2
        omega
      | branch p2 a2 b2 =>
        rw [MS, if_neg (by omega), if_neg (by omega)] at z2
        obtain ⟨y, la, ha, z, lb, hb, x1, x2, x3, x4, x5, x6, x7, x8, _⟩ := z2
        omega
    refine all 2 lb hn hw5.2.2.1 xs1.2.2 k7 hlb z1 hlh (by rw [js, if_neg (by omega), if_pos rfl, if_neg (by omega), if_neg (by omega), if_neg (by omega), if_neg (by omega), if_neg q4] <;> rfl) (fun n' s τ1 post' en r hs hf => ⟨3, ?_⟩)
    obtain ⟨n2, rfl⟩ : ∃ n2, n' = n2 + 1 := ⟨n' - 1, by omega⟩
    refine hB2 n2 lb hi i (τ.1.2.1.1.1 y) w s τ1 post' (h - 1) _ _ (by omega) (r.mst (by omega) z2) hw5.2.2.2 xs3 hh (r.mji hj) (fun j j1 j2 => (r.out j (by omega)).1.trans (hz j (by omega) (by omega))) hlb hs (fun τ2 g1 g2 => ?_)
    refine hf τ2 g1 g2.1 (fun c => ⟨fun hk => ⟨((g2.2 c).1 hk).1, fun mj sc => ?_⟩, (g2.2 c).2⟩)
    rw [MJS, if_neg (by omega), if_pos rfl, if_neg (by omega), if_neg (by omega), if_neg (by omega), if_neg (by omega), if_neg q4, x1, nI_clamp (by omega)]
    have s1 := g1.sh
    have s2 := r.sh
    have e1 : c1 τ2 i = y := by unfold c1; rw [s1.2.2.1, s2.2.2.1, y1, nI_clamp (by omega)]
    have e3 : τ2.1.2.1.1.1 y = τ.1.2.1.1.1 y := by rw [s1.2.2.2, s2.2.2.2]
    refine ⟨mj, sc, ?_⟩
    rw [e1, e3]
    exact ((g2.2 c).1 hk).2
theorem one_kind {T : TX} {N : Nat} {e : Tr} {τ : SX12} {lo hi j : Nat} (hm : MS T τ e 1 lo hi (nI j)) (hw : WFS T N e 1) (hj : j < 9000) (hh : hi ≤ 9000) : ¬ τ.1.1.2.2.1 j = 3 ∧ ¬ τ.1.1.2.2.1 j = 4 := by
  cases e with
  | leaf t =>
    have : (1 : Nat) = 0 := hw
    omega
  | branch p a b =>
    rw [MS, if_neg (by omega), if_pos rfl] at hm
    obtain ⟨i, la, ha, y, x1, x2, x3, x4, x5, hm⟩ := hm
    split at hm
    · obtain ⟨k0, v, lb, hb, z0, y1, y2, y3, y4, y5, y6, y7, y8, y9, y10, y11⟩ := hm
      have := y8.bd
      have e := (nI_eq (by omega) (by omega)).mp x1
      rw [e, k0]
      decide
    · obtain ⟨y1, y2, hm⟩ := hm
      have := y2.bd
      have e := (nI_eq (by omega) (by omega)).mp x1
      rw [e]
      split at hm
      · rw [hm.1]
        decide
      · split at hm
        · rw [hm.1]
          decide
        · split at hm
          · rw [hm.1]
            decide
          · split at hm
            · rw [hm.1]
              decide
            · rw [hm.1]
              decide
end Mone2
