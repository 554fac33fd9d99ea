section Cje
def isDv (k : Nat) : Bool := decide (k = 47 ∨ k = 37)
/-- what is wrong in an EXPR (its number, the token), or whether it is secret -/
def je (T : TX) (g : List DD) (w : Bool) : Tr → Except (Nat × Nat) Bool
  | .leaf t => if TK T t = 3 then .ok false else match fdI T g t with
    | none => .error (1, t)
    | some k => if (gx g k).2.2 = true then .error (3, t) else .ok (dsec T (gx g k))
  | .branch p a b => if p % 2 = 1 then
      (match je T g w a with
      | .error z => .error z
      | .ok s => match je T g w b with
        | .error z => .error z
        | .ok s2 => if isDv (TK T (p / 2)) = true then (if w = true then .error (8, p / 2) else if (s || s2) = true then .error (5, p / 2) else .ok (s || s2)) else .ok (s || s2))
    else if TK T (p / 2) = 2 then
      (match fdI T g (p / 2) with
      | none => .error (1, p / 2)
      | some k => if w = true then .error (8, p / 2 + 1) else if (gx g k).2.2 = true then
          (match je T g w a with
          | .error z => .error z
          | .ok s => if s = true then .error (4, p / 2 + 1) else .ok (dsec T (gx g k)))
        else .error (3, p / 2))
    else je T g w a
/-- the class's nodes of an EXPR with what their names mean -/
def CJ (T : TX) (g : List DD) (σ : SX4) : Tr → Nat → Prop
  | .leaf t, i => if TK T t = 3 then σ.1.2.2.1 i = nI (NB T t) else ∃ k, fdI T g t = some k ∧ σ.1.2.2.1 i = nI k
  | .branch p a b, i => if p % 2 = 1 then CJ T g σ b (i - 1) ∧ CJ T g σ a (i - 1 - sz T b)
      else if TK T (p / 2) = 2 then (∃ k, fdI T g (p / 2) = some k ∧ σ.1.2.2.1 i = nI k) ∧ CJ T g σ a (i - 1)
      else CJ T g σ a (i - 1)
theorem CJ.fr {T : TX} {g : List DD} {σ σ' : SX4} {lo hi : Nat} (ha : ∀ j, lo ≤ j → j < hi → σ'.1.2.2.1 j = σ.1.2.2.1 j) : ∀ (e : Tr) (i : Nat), CJ T g σ e i → sz T e ≤ i + 1 → lo + sz T e ≤ i + 1 → i < hi → CJ T g σ' e i := by
  intro e
  induction e with
  | leaf t =>
    intro i h _ h1 h2
    have e1 : sz T (.leaf t) = 1 := rfl
    have := ha i (by omega) h2
    unfold CJ at h ⊢
    rw [this]
    exact h
  | branch p a b iha ihb =>
    intro i h h0 h1 h2
    have pa := sz_pos T a
    have pb := sz_pos T b
    have hsp := sz_pos T (.branch p a b)
    have hv := ha i (by omega) h2
    unfold CJ at h ⊢
    split
    · rename_i q
      rw [if_pos q] at h
      have hs : sz T (.branch p a b) = sz T a + sz T b + 1 := by rw [sz, if_pos q]
      exact ⟨ihb (i - 1) h.1 (by omega) (by omega) (by omega), iha (i - 1 - sz T b) h.2 (by omega) (by omega) (by omega)⟩
    · rename_i q
      rw [if_neg q] at h
      split
      · rename_i q2
        rw [if_pos q2] at h
        have hs : sz T (.branch p a b) = sz T a + 2 := by rw [sz, if_neg q, if_pos q2]
        rw [hv]
        exact ⟨h.1, iha (i - 1) h.2 (by omega) (by omega) (by omega)⟩
      · rename_i q2
        rw [if_neg q2] at h
        have hs : sz T (.branch p a b) = sz T a + 1 := by rw [sz, if_neg q, if_neg q2]
        exact iha (i - 1) h (by omega) (by omega) (by omega)
/-- nodes whose values the judge leaves -/
def kN (k : Int32) : Bool := decide (k = 15 ∨ k = 16 ∨ k = 18 ∨ k = 19 ∨ k = 20 ∨ k = 23 ∨ k = 24)
/-- only values and secrets from lo to hi have changed -/
def JN (s s' : SX4) (lo hi : Nat) : Prop := (s'.1.1.1 = s.1.1.1 ∧ s'.1.1.2 = s.1.1.2 ∧ s'.1.2.1 = s.1.2.1 ∧ s'.1.2.2.2 = s.1.2.2.2 ∧ s'.2.1.1 = s.2.1.1 ∧ s'.2.1.2.1 = s.2.1.2.1 ∧ s'.2.1.2.2 = s.2.1.2.2 ∧ s'.2.2.2.1 = s.2.2.2.1 ∧ s'.2.2.2.2 = s.2.2.2.2) ∧ (∀ j, (j < lo ∨ hi ≤ j) → s'.1.2.2.1 j = s.1.2.2.1 j ∧ s'.2.2.1 j = s.2.2.1 j) ∧ ∀ j, kN (s.1.1.2 j) = true → s'.1.2.2.1 j = s.1.2.2.1 j
theorem JN.rf (s : SX4) (lo hi : Nat) : JN s s lo hi := ⟨⟨rfl, rfl, rfl, rfl, rfl, rfl, rfl, rfl, rfl⟩, fun _ _ => ⟨rfl, rfl⟩, fun _ _ => rfl⟩
theorem JN.tr {a b c : SX4} {lo hi lo' hi' l m : Nat} (h : JN a b lo hi) (k : JN b c lo' hi') (h1 : l ≤ lo) (h2 : l ≤ lo') (h3 : hi ≤ m) (h4 : hi' ≤ m) : JN a c l m := by
  obtain ⟨⟨a1, a2, a3, a4, a5, a6, a7, a8, a9⟩, a10, a11⟩ := h
  obtain ⟨⟨b1, b2, b3, b4, b5, b6, b7, b8, b9⟩, b10, b11⟩ := k
  refine ⟨⟨b1.trans a1, b2.trans a2, b3.trans a3, b4.trans a4, b5.trans a5, b6.trans a6, b7.trans a7, b8.trans a8, b9.trans a9⟩, fun j hj => ?_, fun j hj => (b11 j (by rw [a2]; exact hj)).trans (a11 j hj)⟩
  obtain ⟨x1, x2⟩ := a10 j (by omega)
  obtain ⟨y1, y2⟩ := b10 j (by omega)
  exact ⟨y1.trans x1, y2.trans x2⟩
theorem JN.nw {s s' : SX4} {lo hi u L : Nat} (h : JN s s' lo hi) (k : NW0 s u L) : NW0 s' u L := by
  obtain ⟨⟨a1, a2, a3, a4, a5, a6, a7, a8, a9⟩, a10, a11⟩ := h
  exact ⟨a9.trans k.1, a1.trans k.2.1, k.2.2⟩
theorem JN.ag {s s' : SX4} {lo hi : Nat} (h : JN s s' lo hi) (l m : Nat) : AG s s' l m := by
  obtain ⟨⟨a1, a2, a3, a4, a5, a6, a7, a8, a9⟩, a10, a11⟩ := h
  intro j _ _
  rw [a2, a3, a4, a5, a8]
  exact ⟨rfl, rfl, rfl, rfl, rfl⟩
theorem JN.up (s : SX4) (j : Nat) (v w : Int32) (hk : kN (s.1.1.2 j) = false) : JN s ((s.1.1, (s.1.2.1, ((upd s.1.2.2.1 j v), s.1.2.2.2))), (s.2.1, ((upd s.2.2.1 j w), s.2.2.2))) j (j + 1) := ⟨⟨rfl, rfl, rfl, rfl, rfl, rfl, rfl, rfl, rfl⟩, fun k hk => ⟨pk_un (by omega), pk_un (by omega)⟩, fun k h => pk_un (fun e => by rw [e] at h; rw [h] at hk; cases hk)⟩
theorem JN.v (s : SX4) (j : Nat) (v : Int32) (hk : kN (s.1.1.2 j) = false) : JN s ((s.1.1, (s.1.2.1, ((upd s.1.2.2.1 j v), s.1.2.2.2))), s.2) j (j + 1) := ⟨⟨rfl, rfl, rfl, rfl, rfl, rfl, rfl, rfl, rfl⟩, fun k hk => ⟨pk_un (by omega), rfl⟩, fun k h => pk_un (fun e => by rw [e] at h; rw [h] at hk; cases hk)⟩
theorem JN.s (s : SX4) (j : Nat) (w : Int32) : JN s (s.1, (s.2.1, ((upd s.2.2.1 j w), s.2.2.2))) j (j + 1) := ⟨⟨rfl, rfl, rfl, rfl, rfl, rfl, rfl, rfl, rfl⟩, fun k hk => ⟨rfl, pk_un (by omega)⟩, fun _ _ => rfl⟩
def JF (σ σ' : WSX1) (lo hi : Nat) : Prop := σ'.1.1 = σ.1.1 ∧ σ'.2 = σ.2 ∧ JN σ.1.2 σ'.1.2 lo hi
theorem JF.tr {a b c : WSX1} {lo hi lo' hi' l m : Nat} (h : JF a b lo hi) (k : JF b c lo' hi') (h1 : l ≤ lo) (h2 : l ≤ lo') (h3 : hi ≤ m) (h4 : hi' ≤ m) : JF a c l m := ⟨k.1.trans h.1, k.2.1.trans h.2.1, h.2.2.tr k.2.2 h1 h2 h3 h4⟩
theorem JF.rf (σ : WSX1) (lo hi : Nat) : JF σ σ lo hi := ⟨rfl, rfl, JN.rf _ _ _⟩
/-- the judge at work -/
def JI (T : TX) (g : List DD) (L : Nat) (σ : WSX1) (u hid : Nat) : Prop := NW0 σ.1.2 u L ∧ TC σ.2.2 T ∧ NC T g σ.2.1 ∧ σ.1.1.2 = nI hid ∧ hid < 5000
theorem JF.ji {T : TX} {g : List DD} {L : Nat} {σ σ' : WSX1} {u hid lo hi : Nat} (h : JF σ σ' lo hi) (k : JI T g L σ u hid) : JI T g L σ' u hid := ⟨h.2.2.nw k.1, by rw [h.2.1]; exact k.2.1, by rw [h.2.1]; exact k.2.2.1, by rw [h.1]; exact k.2.2.2.1, k.2.2.2.2⟩
def JX (T : TX) (L : Nat) (σ σ' : WSX1) (z : Nat × Nat) : Prop := σ'.1.1.1 = nI (PL T z.2) ∧ (∃ u, NW0 σ'.1.2 u L) ∧ σ'.2.2 = σ.2.2 ∧ 0 < z.1 ∧ z.1 < 100
theorem c_w {σ : WSX1} {u L i M : Nat} {post : Int32 → WSX1 → Prop} (h : NW0 σ.1.2 u L) (hi : i < u) (w : wp_X1_look σ (nI i) (fun r τ4 => ((r = 0 → wp_X1_firstWrong_12 post M τ4 (nI (i + 1))) ∧ (¬ r = 0 → post r τ4)))) : wp_X1_firstWrong_12 post (M + 1) σ (nI i) := by
  show wb_X1_firstWrong_12 post _ σ (nI i)
  have e : σ.1.2.2.2.2.2 = nI u := h.1
  have hb : u < 2 ^ 31 := by have := h.2.2; omega
  show (σ.1.2.2.2.2.2 ≤ nI i → _) ∧ (¬ σ.1.2.2.2.2.2 ≤ nI i → _)
  rw [e]
  refine ⟨fun c => absurd c (nI_ge hi hb), fun _ => ?_⟩
  rw [← nI_1] at w
  exact w
theorem c_wrongIf {σ : WSX1} {u L i : Nat} {n : Int32} {b : Bool} {po : Int32 → WSX1 → Prop} (h : NW0 σ.1.2 u L) (hi : i < u) (h0 : b = false → po 0 σ) (h1 : b = true → po n (((σ.1.2.1.2.1 i, σ.1.1.2), σ.1.2), σ.2)) : wp_X1_wrongIf σ (bi b) n (nI i) po := by
  cases b with
  | false => exact ⟨fun _ => h0 rfl, fun c => absurd rfl c⟩
  | true => exact ⟨fun c => absurd c (by decide), fun _ => c_nplace h hi (h1 rfl)⟩
theorem hid_le {hid : Nat} (h : hid < 5000) : (nI hid ≤ 0) ↔ decide (0 < hid) = false := by
  by_cases q : 0 < hid
  · rw [decide_eq_true q]
    exact ⟨fun c => absurd c (nI_nle q (by omega)), fun c => absurd c (by decide)⟩
  · rw [decide_eq_false q, show hid = 0 by omega]
    exact ⟨fun _ => rfl, fun _ => by decide⟩
theorem c_je {T : TX} {N L : Nat} {g : List DD} (hv : GV T N g) : ∀ (e : Tr) (i0 u hid M : Nat) (σ : WSX1) (post : Int32 → WSX1 → Prop), WF T N e → JI T g L σ u hid → CS T σ.1.2 e (i0 + sz T e - 1) → CV T σ.1.2 e (i0 + sz T e - 1) → i0 + sz T e ≤ u → (∀ j, i0 ≤ j → j < i0 + sz T e → σ.1.2.2.2.1 j = 0) → u - i0 < M →
    (∀ s σ', je T g (decide (0 < hid)) e = .ok s → JF σ σ' i0 (i0 + sz T e) → CJ T g σ'.1.2 e (i0 + sz T e - 1) → σ'.1.2.2.2.1 (i0 + sz T e - 1) = bi s → ∀ M', u - (i0 + sz T e) < M' → wp_X1_firstWrong_12 post M' σ' (nI (i0 + sz T e))) →
    (∀ z σ', je T g (decide (0 < hid)) e = .error z → JX T L σ σ' z → post (nI z.1) σ') → wp_X1_firstWrong_12 post M σ (nI i0) := by
  intro e
  induction e with
  | leaf t =>
    intro i0 u hid M σ post hwf hj hcs hcv hu hz hM hY hF
    have e1 : sz T (.leaf t) = 1 := rfl
    rw [e1] at hcs hcv hu hz hY
    rw [show i0 + 1 - 1 = i0 by omega] at hcs hcv hY
    obtain ⟨M', rfl⟩ : ∃ M', M = M' + 1 := ⟨M - 1, by omega⟩
    obtain ⟨j1, j2, j3, j4, j5⟩ := id hj
    obtain ⟨k1, k2, k3⟩ := hcs
    have hl := hv.len
    have hw := hv.2
    refine c_w j1 (by omega) ?_
    by_cases K3 : TK T t = 3
    · rw [K3] at k2
      refine lk_zero j1 (by omega) k2 (Or.inl rfl) ⟨fun _ => ?_, fun c => absurd rfl c⟩
      refine hY false σ (by rw [je, if_pos K3]) (JF.rf _ _ _) ?_ (hz i0 (by omega) (by omega)) M' (by omega)
      unfold CJ
      rw [if_pos K3]
      exact hcv K3
    · have K2 : TK T t = 2 := by have := hwf.2; omega
      rw [K2] at k2
      refine lk_2 j1 (by omega) k2 ?_
      refine c_nplace j1 (by omega) ?_
      rw [k3]
      refine c_findN j2 hv j3 K2 ?_
      have jle : je T g (decide (0 < hid)) (.leaf t) = (match fdI T g t with
        | none => .error (1, t)
        | some k => if (gx g k).2.2 = true then .error (3, t) else .ok (dsec T (gx g k))) := by rw [je, if_neg K3]
      cases hf : fdI T g t with
      | none =>
        rw [hf] at jle
        dsimp only at jle
        refine ⟨fun c => absurd rfl c, fun _ => c_nplace j1 (by omega) ⟨fun c => absurd c (by decide), fun _ => ?_⟩⟩
        exact hF (1, t) _ jle ⟨k3, ⟨u, j1⟩, rfl, (by decide : 0 < 1), (by decide : 1 < 100)⟩
      | some k =>
        rw [hf] at jle
        dsimp only at jle
        have hk := fdI_lt g t k hf
        have ek : rI 0 (some k) = nI k := by show nI (0 + k) = _; rw [Nat.zero_add]
        rw [ek]
        refine ⟨fun _ => c_keepValue j1 (by omega) ?_, fun c => absurd c (nI_nem1 (by omega))⟩
        refine c_nsec j3 (by omega) hk ?_
        have kn : kN (σ.1.2.1.1.2 i0) = false := by rw [k2]; decide
        have nw1 : NW0 ((σ.1.2.1.1, (σ.1.2.1.2.1, ((upd σ.1.2.1.2.2.1 i0 (nI k)), σ.1.2.1.2.2.2))), σ.1.2.2) u L := (JN.v σ.1.2 i0 (nI k) kn).nw j1
        refine c_keepSecret nw1 (by omega) ?_
        refine c_nrow hv j3 hk ?_
        have nw2 : NW0 ((σ.1.2.1.1, (σ.1.2.1.2.1, ((upd σ.1.2.1.2.2.1 i0 (nI k)), σ.1.2.1.2.2.2))), (σ.1.2.2.1, ((upd σ.1.2.2.2.1 i0 (bi (dsec T (gx g k)))), σ.1.2.2.2.2))) u L := (JN.up σ.1.2 i0 (nI k) _ kn).nw j1
        refine c_wrongIf (σ := ((σ.1.1, ((σ.1.2.1.1, (σ.1.2.1.2.1, ((upd σ.1.2.1.2.2.1 i0 (nI k)), σ.1.2.1.2.2.2))), (σ.1.2.2.1, ((upd σ.1.2.2.2.1 i0 (bi (dsec T (gx g k)))), σ.1.2.2.2.2)))), σ.2)) nw2 (by omega) (fun q => ⟨fun _ => ?_, fun c => absurd rfl c⟩) (fun q => ⟨fun c => absurd c (by decide), fun _ => ?_⟩)
        · rw [if_neg (by rw [q]; decide)] at jle
          refine hY _ ((σ.1.1, ((σ.1.2.1.1, (σ.1.2.1.2.1, ((upd σ.1.2.1.2.2.1 i0 (nI k)), σ.1.2.1.2.2.2))), (σ.1.2.2.1, ((upd σ.1.2.2.2.1 i0 (bi (dsec T (gx g k)))), σ.1.2.2.2.2)))), σ.2) jle ⟨rfl, rfl, JN.up σ.1.2 i0 (nI k) _ kn⟩ ?_ pk_us M' (by omega)
          unfold CJ
          rw [if_neg K3]
          exact ⟨k, hf, pk_us⟩
        · rw [if_pos q] at jle
          exact hF (3, t) _ jle ⟨k3, ⟨u, nw2⟩, rfl, (by decide : 0 < 3), (by decide : 3 < 100)⟩
  | branch p a b iha ihb =>
    intro i0 u hid M σ post hwf hj hcs hcv hu hz hM hY hF
    have pa := sz_pos T a
    have pb := sz_pos T b
    have hl := hv.len
    have hw := hv.2
    by_cases q : p % 2 = 1
    · -- an operator
      have hs : sz T (.branch p a b) = sz T a + sz T b + 1 := by rw [sz, if_pos q]
      rw [hs] at hcs hcv hu hz hY
      rw [show i0 + (sz T a + sz T b + 1) - 1 = i0 + sz T a + sz T b by omega] at hcs hcv hY
      rw [show i0 + (sz T a + sz T b + 1) = i0 + sz T a + sz T b + 1 by omega] at hY
      rw [WF, if_pos q] at hwf
      obtain ⟨w1, w2, w3, w4⟩ := hwf
      obtain ⟨c0, c1⟩ := hcs
      rw [if_pos q] at c1
      obtain ⟨c1, c2, c3, c4⟩ := c1
      rw [show i0 + sz T a + sz T b - 1 - sz T b = i0 + sz T a - 1 by omega] at c4
      rw [CV, if_pos q] at hcv
      obtain ⟨v1, v2⟩ := hcv
      rw [show i0 + sz T a + sz T b - 1 - sz T b = i0 + sz T a - 1 by omega] at v2
      have jb : je T g (decide (0 < hid)) (.branch p a b) = (match je T g (decide (0 < hid)) a with
        | .error z => .error z
        | .ok s => match je T g (decide (0 < hid)) b with
          | .error z => .error z
          | .ok s2 => if isDv (TK T (p / 2)) = true then (if (decide (0 < hid)) = true then .error (8, p / 2) else if (s || s2) = true then .error (5, p / 2) else .ok (s || s2)) else .ok (s || s2)) := by rw [je, if_pos q]
      refine iha i0 u hid M σ post w3 hj c4 v2 (by omega) (fun j j1 j2 => hz j j1 (by omega)) hM (fun s σ1 r1 f1 cj1 s1 M1 hM1 => ?_) (fun z σ1 r1 x1 => hF z σ1 (by rw [jb, r1]) x1)
      have hj1 := f1.ji hj
      refine ihb (i0 + sz T a) u hid M1 σ1 post w4 hj1 (CS.fr (f1.2.2.ag 0 (u + 1)) b _ c3 (by omega) (by omega)) (CV.fr (lo := i0 + sz T a) (hi := u) (fun j j1 j2 => (f1.2.2.2.1 j (by omega)).1) b _ v1 (by omega) (by omega)) (by omega) (fun j j1 j2 => (f1.2.2.2.1 j (by omega)).2.trans (hz j (by omega) (by omega))) (by omega) (fun s2 σ2 r2 f2 cj2 sec2 M2 hM2 => ?_) (fun z σ2 r2 x2 => hF z σ2 (by rw [jb, r1, r2]) ⟨x2.1, x2.2.1, x2.2.2.1.trans (by rw [f1.2.1]), x2.2.2.2⟩)
      have hj2 := f2.ji hj1
      obtain ⟨j1, j2, j3, j4, j5⟩ := id hj2
      have f12 : JF σ σ2 i0 (i0 + sz T a + sz T b) := f1.tr f2 (Nat.le_refl _) (by omega) (by omega) (by omega)
      have ag2 := f12.2.2.ag 0 (u + 1)
      obtain ⟨M', rfl⟩ : ∃ M', M2 = M' + 1 := ⟨M2 - 1, by omega⟩
      obtain ⟨g1, g2, g3, g4, g5⟩ := ag2 (i0 + sz T a + sz T b) (by omega) (by omega)
      obtain ⟨h1, h2, h3, h4, h5⟩ := ag2 (i0 + sz T a + sz T b - 1) (by omega) (by omega)
      have sa : σ2.1.2.2.2.1 (i0 + sz T a - 1) = bi s := (f2.2.2.2.1 _ (by omega)).2.trans s1
      have sb : σ2.1.2.2.2.1 (i0 + sz T a + sz T b - 1) = bi s2 := sec2
      have szb : σ2.1.2.1.2.2.2 (i0 + sz T a + sz T b - 1) = nI (sz T b) := h3.trans c3.hd.1
      rw [r1, r2] at jb
      dsimp only at jb
      refine c_w j1 (by omega) (lk_pair j1 (by omega) (g1.trans c1) w2 ?_)
      unfold wp_X1_lookAtPair
      rw [sub1 (by omega)]
      -- what follows once it is known whether it is secret
      have p36 : ∀ c : Bool, c = (s || s2) → wp_X1_lookAtPair_36 (fun r τ4 => ((r = 0 → wp_X1_firstWrong_12 post M' τ4 (nI (i0 + sz T a + sz T b + 1))) ∧ (¬ r = 0 → post r τ4))) σ2 (nI (i0 + sz T a + sz T b)) (bi c) := by
        intro c hc
        rw [← hc] at jb
        unfold wp_X1_lookAtPair_36
        refine c_keepSecret j1 (by omega) ?_
        have nw3 : NW0 (σ2.1.2.1, (σ2.1.2.2.1, ((upd σ2.1.2.2.2.1 (i0 + sz T a + sz T b) (bi c)), σ2.1.2.2.2.2))) u L := (JN.s σ2.1.2 _ (bi c)).nw j1
        have pl : σ2.1.2.1.2.1 (i0 + sz T a + sz T b) = nI (PL T (p / 2)) := g2.trans c2
        -- the ends
        have good : je T g (decide (0 < hid)) (.branch p a b) = .ok c → wp_X1_firstWrong_12 post M' ((σ2.1.1, (σ2.1.2.1, (σ2.1.2.2.1, ((upd σ2.1.2.2.2.1 (i0 + sz T a + sz T b) (bi c)), σ2.1.2.2.2.2)))), σ2.2) (nI (i0 + sz T a + sz T b + 1)) := by
          intro r
          have f3 : JF σ2 ((σ2.1.1, (σ2.1.2.1, (σ2.1.2.2.1, ((upd σ2.1.2.2.2.1 (i0 + sz T a + sz T b) (bi c)), σ2.1.2.2.2.2)))), σ2.2) (i0 + sz T a + sz T b) (i0 + sz T a + sz T b + 1) := ⟨rfl, rfl, JN.s σ2.1.2 _ (bi c)⟩
          refine hY c _ r (f12.tr f3 (Nat.le_refl _) (by omega) (by omega) (by omega)) ?_ pk_us M' (by omega)
          unfold CJ
          rw [if_pos q]
          refine ⟨(by refine CJ.fr (σ := σ2.1.2) (lo := i0 + sz T a) (hi := u) ?_ b _ cj2 (by omega) (by omega) (by omega); intro j _ _; rfl), ?_⟩
          rw [show i0 + sz T a + sz T b - 1 - sz T b = i0 + sz T a - 1 by omega]
          refine CJ.fr (σ := σ1.1.2) (lo := i0) (hi := i0 + sz T a) ?_ a _ cj1 (by omega) (by omega) (by omega)
          intro j j1 j2
          exact (f2.2.2.2.1 j (by omega)).1
        have p104 : ∀ d : Bool, d = isDv (TK T (p / 2)) → (d = true → decide (0 < hid) = false) → wp_X1_lookAtPair_104 (fun r τ4 => ((r = 0 → wp_X1_firstWrong_12 post M' τ4 (nI (i0 + sz T a + sz T b + 1))) ∧ (¬ r = 0 → post r τ4))) ((σ2.1.1, (σ2.1.2.1, (σ2.1.2.2.1, ((upd σ2.1.2.2.2.1 (i0 + sz T a + sz T b) (bi c)), σ2.1.2.2.2.2)))), σ2.2) (nI (i0 + sz T a + sz T b)) (bi c) (bi d) := by
          intro d hd hw0
          have p117 : je T g (decide (0 < hid)) (.branch p a b) = .ok c → wp_X1_lookAtPair_117 (fun r τ4 => ((r = 0 → wp_X1_firstWrong_12 post M' τ4 (nI (i0 + sz T a + sz T b + 1))) ∧ (¬ r = 0 → post r τ4))) ((σ2.1.1, (σ2.1.2.1, (σ2.1.2.2.1, ((upd σ2.1.2.2.2.1 (i0 + sz T a + sz T b) (bi c)), σ2.1.2.2.2.2)))), σ2.2) (nI (i0 + sz T a + sz T b)) := fun r => ⟨fun _ => ⟨fun _ => good r, fun c2 => absurd rfl c2⟩, fun c2 => absurd rfl c2⟩
          rw [← hd] at jb
          cases d with
          | false =>
            rw [if_neg (by decide)] at jb
            exact ⟨fun _ => p117 jb, fun c2 => absurd rfl c2⟩
          | true =>
            rw [if_pos rfl, if_neg (by rw [hw0 rfl]; decide)] at jb
            refine ⟨fun c2 => absurd c2 (by decide), fun _ => ?_⟩
            cases c with
            | false =>
              rw [if_neg (by decide)] at jb
              exact ⟨fun _ => p117 jb, fun c2 => absurd rfl c2⟩
            | true =>
              rw [if_pos rfl] at jb
              refine ⟨fun c2 => absurd c2 (by decide), fun _ => ?_⟩
              refine c_wrongIf (b := true) nw3 (by omega) (fun c2 => absurd c2 (by decide)) (fun _ => ⟨fun c => absurd c (by decide), fun _ => ?_⟩)
              exact hF (5, p / 2) _ jb ⟨pl, ⟨u, nw3⟩, by show σ2.2.2 = _; rw [f12.2.1], (by decide : 0 < 5), (by decide : 5 < 100)⟩
        have p77 : ∀ d : Bool, d = isDv (TK T (p / 2)) → wp_X1_lookAtPair_77 (fun r τ4 => ((r = 0 → wp_X1_firstWrong_12 post M' τ4 (nI (i0 + sz T a + sz T b + 1))) ∧ (¬ r = 0 → post r τ4))) ((σ2.1.1, (σ2.1.2.1, (σ2.1.2.2.1, ((upd σ2.1.2.2.2.1 (i0 + sz T a + sz T b) (bi c)), σ2.1.2.2.2.2)))), σ2.2) (nI (i0 + sz T a + sz T b)) (bi c) (bi d) := by
          intro d hd
          cases d with
          | false => exact ⟨fun _ => p104 false hd (fun c2 => absurd c2 (by decide)), fun c2 => absurd rfl c2⟩
          | true =>
            refine ⟨fun c2 => absurd c2 (by decide), fun _ => ?_⟩
            show (σ2.1.1.2 ≤ 0 → _) ∧ (¬ σ2.1.1.2 ≤ 0 → _)
            rw [j4]
            refine ⟨fun c2 => p104 true hd (fun _ => (hid_le j5).mp c2), fun c2 => c_nplace nw3 (by omega) ⟨fun c => absurd c (by decide), fun _ => ?_⟩⟩
            have wt : decide (0 < hid) = true := by
              cases z : decide (0 < hid) with
              | true => rfl
              | false => exact absurd ((hid_le j5).mpr z) c2
            rw [← hd, if_pos rfl, if_pos wt] at jb
            exact hF (8, p / 2) _ jb ⟨pl, ⟨u, nw3⟩, by show σ2.2.2 = _; rw [f12.2.1], (by decide : 0 < 8), (by decide : 8 < 100)⟩
        have kk : ((σ2.1.2.1, (σ2.1.2.2.1, ((upd σ2.1.2.2.2.1 (i0 + sz T a + sz T b) (bi c)), σ2.1.2.2.2.2))) : SX4).1.1.2 (i0 + sz T a + sz T b) = nI (TK T (p / 2)) := g1.trans c1
        have hkr := (TK_r T (p / 2)).1
        refine c_nkind nw3 (by omega) ?_
        rw [kk]
        refine ⟨fun c2 => p77 true ?_, fun c2 => c_nkind nw3 (by omega) ?_⟩
        · have := (nI_eq (b := 47) (by omega) (by omega)).mp c2
          exact (decide_eq_true (Or.inl this)).symm
        · rw [kk]
          refine ⟨fun c3 => p77 false ?_, fun c3 => p77 true ?_⟩
          · refine (decide_eq_false ?_).symm
            rintro (z | z)
            · exact c2 (by rw [z]; rfl)
            · exact c3 (by rw [z]; rfl)
          · have := (nI_eq (b := 37) (by omega) (by omega)).mp c3
            exact (decide_eq_true (Or.inr this)).symm
      refine c_nsecret j1 (by omega) sb ⟨fun c => ?_, fun c => ?_⟩
      · exact p36 true (by rw [ne0_t c]; cases s <;> rfl)
      · have hs2 := eq0_f c
        have el : i0 + sz T a + sz T b - 1 - sz T b = i0 + sz T a - 1 := by omega
        unfold wp_X4_left
        rw [sub1 (by omega)]
        have jb2 := j1.2.2
        refine c_has j1 (by omega) (fun _ => ⟨fun c => absurd c (by decide), fun _ => ⟨?_, ?_⟩⟩) (fun q => absurd q (by omega))
        · rw [j1.2.1]
          exact in_k (by omega) j1.2.2.2
        · rw [nI_clamp (by omega)]
          show wp_X4_secret σ2.1.2 (nI (i0 + sz T a + sz T b - 1) - σ2.1.2.1.2.2.2 (i0 + sz T a + sz T b - 1)) _
          rw [szb, pk_sub (by omega), el]
          refine c_nsecret j1 (by omega) sa ⟨fun c => ?_, fun c => ?_⟩
          · exact p36 false (by rw [eq0_f c, hs2]; rfl)
          · exact p36 true (by rw [ne0_t c]; rfl)
    · by_cases q2 : TK T (p / 2) = 2
      · -- an item of a row
        have hs : sz T (.branch p a b) = sz T a + 2 := by rw [sz, if_neg q, if_pos q2]
        rw [hs] at hcs hcv hu hz hY
        rw [show i0 + (sz T a + 2) - 1 = i0 + sz T a + 1 by omega] at hcs hcv hY
        rw [show i0 + (sz T a + 2) = i0 + sz T a + 1 + 1 by omega] at hY
        rw [WF, if_neg q, if_pos q2] at hwf
        obtain ⟨w1, w2, w3⟩ := hwf
        obtain ⟨c0, c1⟩ := hcs
        rw [if_neg q, if_pos q2] at c1
        obtain ⟨c1, c2, c3, c4, c5⟩ := c1
        rw [show i0 + sz T a + 1 - 1 = i0 + sz T a by omega] at c3 c4 c5
        rw [show i0 + sz T a - sz T a = i0 by omega] at c4 c5
        rw [CV, if_neg q, if_pos q2] at hcv
        obtain ⟨v1, v2, v3⟩ := hcv
        rw [show i0 + sz T a + 1 - 1 = i0 + sz T a by omega] at v1 v2 v3
        rw [show i0 + sz T a - sz T a = i0 by omega] at v1 v2
        have jb : je T g (decide (0 < hid)) (.branch p a b) = (match fdI T g (p / 2) with
          | none => .error (1, p / 2)
          | some k => if (decide (0 < hid)) = true then .error (8, p / 2 + 1) else if (gx g k).2.2 = true then
              (match je T g (decide (0 < hid)) a with
              | .error z => .error z
              | .ok s => if s = true then .error (4, p / 2 + 1) else .ok (dsec T (gx g k)))
            else .error (3, p / 2)) := by rw [je, if_neg q, if_pos q2]
        obtain ⟨M', rfl⟩ : ∃ M', M = M' + 1 := ⟨M - 1, by omega⟩
        obtain ⟨j1, j2, j3, j4, j5⟩ := id hj
        refine c_w j1 (by omega) (lk_27 j1 (by omega) c4 ?_)
        unfold wp_X1_lookAtRow
        refine c_nvalue j1 (by omega) (c_nplace j1 (by omega) ?_)
        rw [v2, c5]
        refine c_findN j2 hv j3 q2 ?_
        cases hf : fdI T g (p / 2) with
        | none =>
          rw [hf] at jb
          dsimp only at jb
          refine ⟨fun c => absurd rfl c, fun _ => c_nplace j1 (by omega) ⟨fun c => absurd c (by decide), fun _ => ?_⟩⟩
          exact hF (1, p / 2) _ jb ⟨c5, ⟨u, j1⟩, rfl, (by decide : 0 < 1), (by decide : 1 < 100)⟩
        | some k =>
          rw [hf] at jb
          dsimp only at jb
          have hk := fdI_lt g _ k hf
          have ek : rI 0 (some k) = nI k := by show nI (0 + k) = _; rw [Nat.zero_add]
          rw [ek]
          refine ⟨fun _ => c_keepValue j1 (by omega) ?_, fun c => absurd c (nI_nem1 (by omega))⟩
          have kn : kN (σ.1.2.1.1.2 i0) = false := by rw [c4]; decide
          have nw1 : NW0 ((σ.1.2.1.1, (σ.1.2.1.2.1, ((upd σ.1.2.1.2.2.1 i0 (nI k)), σ.1.2.1.2.2.2))), σ.1.2.2) u L := (JN.v σ.1.2 i0 (nI k) kn).nw j1
          rw [j4]
          refine ⟨fun c => c_nrow hv j3 hk ?_, fun c => ⟨fun c => absurd c (by decide), fun _ => ?_⟩⟩
          · have w0 := (hid_le j5).mp c
            rw [if_neg (by rw [w0]; decide)] at jb
            refine ⟨fun c9 => ⟨fun _ => ⟨fun _ => ?_, fun c => absurd rfl c⟩, fun c => absurd rfl c⟩, fun c9 => ?_⟩
            · -- a row indeed: its index, then the item
              rw [if_pos (ne0_t c9)] at jb
              have f0 : JF σ ((σ.1.1, ((σ.1.2.1.1, (σ.1.2.1.2.1, ((upd σ.1.2.1.2.2.1 i0 (nI k)), σ.1.2.1.2.2.2))), σ.1.2.2)), σ.2) i0 (i0 + 1) := ⟨rfl, rfl, JN.v σ.1.2 i0 (nI k) kn⟩
              have hj0 := f0.ji hj
              refine iha (i0 + 1) u hid M' _ post w3 hj0 (CS.fr (f0.2.2.ag 0 (u + 1)) a _ (by rw [show i0 + 1 + sz T a - 1 = i0 + sz T a by omega]; exact c3) (by omega) (by omega)) (CV.fr (lo := i0 + 1) (hi := u) (fun j j1 j2 => (f0.2.2.2.1 j (by omega)).1) a _ (by rw [show i0 + 1 + sz T a - 1 = i0 + sz T a by omega]; exact v3) (by omega) (by omega)) (by omega) (fun j x1 x2 => hz j (by omega) (by omega)) (by omega) (fun s σ1 r1 f1 cj1 s1 M1 hM1 => ?_) (fun z σ1 r1 x1 => hF z σ1 (by rw [jb, r1]) ⟨x1.1, x1.2.1, x1.2.2.1, x1.2.2.2⟩)
              rw [r1] at jb
              dsimp only at jb
              have f01 : JF σ σ1 i0 (i0 + 1 + sz T a) := f0.tr f1 (Nat.le_refl _) (by omega) (by omega) (Nat.le_refl _)
              obtain ⟨k1, k2, k3, k4, k5⟩ := f1.ji hj0
              rw [show i0 + 1 + sz T a - 1 = i0 + sz T a by omega] at cj1 s1
              rw [show i0 + 1 + sz T a = i0 + sz T a + 1 by omega] at hM1 f01 ⊢
              obtain ⟨M2, rfl⟩ : ∃ M2, M1 = M2 + 1 := ⟨M1 - 1, by omega⟩
              obtain ⟨g1, g2, _⟩ := f01.2.2.ag 0 (u + 1) (i0 + sz T a + 1) (by omega) (by omega)
              have vi : σ1.1.2.1.2.2.1 (i0 + sz T a + 1) = nI i0 := ((f01.2.2.2.1 _ (by omega)).1).trans v1
              have vr : σ1.1.2.1.2.2.1 i0 = nI k := ((f1.2.2.2.1 i0 (by omega)).1).trans pk_us
              refine c_w k1 (by omega) (lk_28 k1 (by omega) (g1.trans c1) ?_)
              unfold wp_X1_lookAtItem
              refine c_nvalue k1 (by omega) ?_
              rw [vi]
              refine c_nvalue k1 (by omega) ?_
              rw [vr]
              refine c_keepValue k1 (by omega) (c_nsec k3 (by omega) hk ?_)
              have kn2 : kN (σ1.1.2.1.1.2 (i0 + sz T a + 1)) = false := by rw [g1.trans c1]; decide
              have nw2 : NW0 ((σ1.1.2.1.1, (σ1.1.2.1.2.1, ((upd σ1.1.2.1.2.2.1 (i0 + sz T a + 1) (nI k)), σ1.1.2.1.2.2.2))), σ1.1.2.2) u L := (JN.v σ1.1.2 _ (nI k) kn2).nw k1
              refine c_keepSecret nw2 (by omega) ?_
              have nw3 : NW0 ((σ1.1.2.1.1, (σ1.1.2.1.2.1, ((upd σ1.1.2.1.2.2.1 (i0 + sz T a + 1) (nI k)), σ1.1.2.1.2.2.2))), (σ1.1.2.2.1, ((upd σ1.1.2.2.2.1 (i0 + sz T a + 1) (bi (dsec T (gx g k)))), σ1.1.2.2.2.2))) u L := (JN.up σ1.1.2 _ (nI k) _ kn2).nw k1
              rw [sub1 (by omega), show i0 + sz T a + 1 - 1 = i0 + sz T a by omega]
              refine c_nsecret nw3 (by omega) ((pk_un (k := i0 + sz T a + 1) (by omega)).trans s1) ?_
              refine c_wrongIf (σ := ((σ1.1.1, ((σ1.1.2.1.1, (σ1.1.2.1.2.1, ((upd σ1.1.2.1.2.2.1 (i0 + sz T a + 1) (nI k)), σ1.1.2.1.2.2.2))), (σ1.1.2.2.1, ((upd σ1.1.2.2.2.1 (i0 + sz T a + 1) (bi (dsec T (gx g k)))), σ1.1.2.2.2.2)))), σ1.2)) nw3 (by omega) (fun z => ⟨fun _ => ?_, fun c => absurd rfl c⟩) (fun z => ⟨fun c => absurd c (by decide), fun _ => ?_⟩)
              · rw [if_neg (by rw [z]; decide)] at jb
                have f3 : JF σ1 ((σ1.1.1, ((σ1.1.2.1.1, (σ1.1.2.1.2.1, ((upd σ1.1.2.1.2.2.1 (i0 + sz T a + 1) (nI k)), σ1.1.2.1.2.2.2))), (σ1.1.2.2.1, ((upd σ1.1.2.2.2.1 (i0 + sz T a + 1) (bi (dsec T (gx g k)))), σ1.1.2.2.2.2)))), σ1.2) (i0 + sz T a + 1) (i0 + sz T a + 1 + 1) := ⟨rfl, rfl, JN.up σ1.1.2 _ (nI k) _ kn2⟩
                refine hY _ _ jb (f01.tr f3 (Nat.le_refl _) (by omega) (by omega) (by omega)) ?_ pk_us M2 (by omega)
                unfold CJ
                rw [if_neg q, if_pos q2, show i0 + sz T a + 1 - 1 = i0 + sz T a by omega]
                exact ⟨⟨k, hf, pk_us⟩, CJ.fr (σ := σ1.1.2) (lo := i0 + 1) (hi := i0 + sz T a + 1) (fun j j1 j2 => pk_un (k := i0 + sz T a + 1) (by omega)) a _ cj1 (by omega) (by omega) (by omega)⟩
              · rw [if_pos z] at jb
                exact hF (4, p / 2 + 1) _ jb ⟨g2.trans c2, ⟨u, nw3⟩, by show σ1.2.2 = _; rw [f01.2.1], (by decide : 0 < 4), (by decide : 4 < 100)⟩
            · have nr : ¬ (gx g k).2.2 = true := fun z => by rw [z] at c9; exact absurd c9 (by decide)
              rw [if_neg nr] at jb
              refine c_wrongIf (b := true) nw1 (by omega) (fun c2 => absurd c2 (by decide)) (fun _ => ⟨fun c => absurd c (by decide), fun _ => ?_⟩)
              exact hF (3, p / 2) _ jb ⟨c5, ⟨u, nw1⟩, rfl, (by decide : 0 < 3), (by decide : 3 < 100)⟩
          · have wt : decide (0 < hid) = true := by
              cases z : decide (0 < hid) with
              | true => rfl
              | false => exact absurd ((hid_le j5).mpr z) c
            rw [if_pos wt] at jb
            exact hF (8, p / 2 + 1) _ jb ⟨rfl, ⟨u, nw1⟩, rfl, (by decide : 0 < 8), (by decide : 8 < 100)⟩
      · -- a sign before a UNARY
        have hs : sz T (.branch p a b) = sz T a + 1 := by rw [sz, if_neg q, if_neg q2]
        rw [hs] at hcs hcv hu hz hY
        rw [show i0 + (sz T a + 1) - 1 = i0 + sz T a by omega] at hcs hcv hY
        rw [show i0 + (sz T a + 1) = i0 + sz T a + 1 by omega] at hY
        rw [WF, if_neg q, if_neg q2] at hwf
        obtain ⟨w1, w2, w3⟩ := hwf
        obtain ⟨c0, c1⟩ := hcs
        rw [if_neg q, if_neg q2] at c1
        obtain ⟨c1, c2, c3⟩ := c1
        rw [CV, if_neg q, if_neg q2] at hcv
        have jb : je T g (decide (0 < hid)) (.branch p a b) = je T g (decide (0 < hid)) a := by rw [je, if_neg q, if_neg q2]
        refine iha i0 u hid M σ post w3 hj c3 hcv (by omega) (fun j j1 j2 => hz j j1 (by omega)) hM (fun s σ1 r1 f1 cj1 s1 M1 hM1 => ?_) (fun z σ1 r1 x1 => hF z σ1 (by rw [jb, r1]) x1)
        obtain ⟨k1, k2, k3, k4, k5⟩ := f1.ji hj
        obtain ⟨M2, rfl⟩ : ∃ M2, M1 = M2 + 1 := ⟨M1 - 1, by omega⟩
        obtain ⟨g1, g2, _⟩ := f1.2.2.ag 0 (u + 1) (i0 + sz T a) (by omega) (by omega)
        have kd := g1.trans c1
        have fin : wp_X4_secret σ1.1.2 (nI (i0 + sz T a) - 1) (fun r72 τ73 => wp_X4_keepSecret τ73 (nI (i0 + sz T a)) r72 (fun τ75 => ((0 : Int32) = 0 → wp_X1_firstWrong_12 post M2 ((σ1.1.1, τ75), σ1.2) (nI (i0 + sz T a + 1))) ∧ (¬ (0 : Int32) = 0 → post 0 ((σ1.1.1, τ75), σ1.2)))) := by
          rw [sub1 (by omega)]
          refine c_nsecret k1 (by omega) s1 (c_keepSecret k1 (by omega) ⟨fun _ => ?_, fun c => absurd rfl c⟩)
          have f3 : JF σ1 ((σ1.1.1, (σ1.1.2.1, (σ1.1.2.2.1, ((upd σ1.1.2.2.2.1 (i0 + sz T a) (bi s)), σ1.1.2.2.2.2)))), σ1.2) (i0 + sz T a) (i0 + sz T a + 1) := ⟨rfl, rfl, JN.s σ1.1.2 _ (bi s)⟩
          refine hY s _ (by rw [jb, r1]) (f1.tr f3 (Nat.le_refl _) (by omega) (by omega) (by omega)) ?_ pk_us M2 (by omega)
          unfold CJ
          rw [if_neg q, if_neg q2]
          refine CJ.fr (σ := σ1.1.2) (lo := i0) (hi := u) ?_ a _ cj1 (by omega) (by omega) (by omega)
          intro j _ _
          rfl
        refine c_w k1 (by omega) ?_
        rcases w2 with z | z | z
        · rw [z] at kd
          exact lk_29 k1 (by omega) kd fin
        · rw [z] at kd
          exact lk_126 k1 (by omega) kd fin
        · rw [z] at kd
          exact lk_33 k1 (by omega) kd fin
end Cje
