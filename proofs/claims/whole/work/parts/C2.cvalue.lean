section CValue
variable {T : TX} {N : Nat} {g : List DD} {z : WSX0} {u L : Nat}
/-- what has changed when an EXPR's orders were written -/
def CG (T : TX) (g : List DD) (u : Nat) (e : Tr) (i f h a : Nat) (m ti ba m' ti' ba' : Nat → Int32) (b : Nat) : Prop := CX T g m' ba' e i f h a b ∧ (∀ j, j < a → m' j = m j) ∧ (∀ j, ¬ (i + 1 ≤ j + sz T e ∧ j < i) → ti' j = ti j) ∧ (∀ j, ¬ (i + 1 ≤ j + sz T e ∧ j ≤ i) → ba' j = ba j) ∧ b + (if cl T e = true then 2 else 0) ≤ a + wt T e ∧ BI u ba' b
theorem v121_end {rc : Nat → WSX0 → List Int32 → (Int32 → WSX0 → Prop) → Prop} {post : WSX0 → Prop} {M : Nat} {σ : WSX0} {x3 x4 x5 x6 : Int32} (hM : 0 < M) (hp : post σ) : wp_X0_writeValue_121 rc post M σ x4 x3 x4 x5 x6 := by
  obtain ⟨M', rfl⟩ : ∃ M', M = M' + 1 := ⟨M - 1, by omega⟩
  show wb_X0_writeValue_121 rc post _ σ x4 x3 x4 x5 x6
  exact ⟨fun _ => hp, fun _ => ⟨fun _ => hp, fun c => absurd rfl c⟩⟩
theorem v121_go {rc : Nat → WSX0 → List Int32 → (Int32 → WSX0 → Prop) → Prop} {post : WSX0 → Prop} {M : Nat} (hz : KZ T g z u L) {m ti ba : Nat → Int32} {a h q node l c i : Nat} {x3 x5 : Int32} (hM : 0 < M) (hc : c < u) (hl : l < u) (hn : ¬ l = node) (hn2 : node < u) (ht : ti l = nI i) (hi : i < u)
    (hp : wp_X4_kind (KS z m ti ba a h q).1.2 (nI i) (fun r9 τ10 => ((¬ r9 = (28 : Int32) → wp_X0_isPair (((KS z m ti ba a h q).1.1, τ10), (KS z m ti ba a h q).2) (nI i) (fun r11 τ12 => ((¬ r11 = 0 → wp_X0_rightFirst τ12 (nI i) (fun r13 τ14 => ((r13 = 0 → wp_X4_calls τ14.1.2 (nI i - (1 : Int32)) (fun r15 τ16 => ((r15 = 0 → rc 0 ((τ14.1.1, τ16), τ14.2) [(nI i - (1 : Int32)), (x5 + (1 : Int32)), (x3 + (1 : Int32))] (fun _ τ18 => wp_X0_writePair τ18 (nI i) x5 x5 (x5 + (1 : Int32)) (fun τ20 => wp_X0_writeValue_121 rc post (M - 1) τ20 (nI node) x3 (nI i) x5 (nI (c + 1))))) ∧ (¬ r15 = 0 → wp_X0_hold ((τ14.1.1, τ16), τ14.2) (6 : Int32) (fun τ22 => rc 0 τ22 [(nI i - (1 : Int32)), (0 : Int32), (x3 + (1 : Int32))] (fun _ τ24 => wp_X0_release τ24 (7 : Int32) (fun τ26 => wp_X0_writePair τ26 (nI i) (0 : Int32) (1 : Int32) (0 : Int32) (fun τ28 => wp_X0_writeValue_121 rc post (M - 1) τ28 (nI node) x3 (nI i) x5 (nI (c + 1)))))))))) ∧ (¬ r13 = 0 → wp_X0_writePair τ14 (nI i) (x5 + (-1)) ((x5 + (-1)) + (1 : Int32)) (x5 + (-1)) (fun τ31 => wp_X0_writeValue_121 rc post (M - 1) τ31 (nI node) x3 (nI i) (x5 + (-1)) (nI (c + 1))))))) ∧ (r11 = 0 → wp_X0_register x5 (fun r33 τ34 => wp_X0_writeUnary τ12 (nI i) r33 (fun τ36 => wp_X0_writeValue_121 rc post (M - 1) τ36 (nI node) x3 (nI i) x5 (nI (c + 1)))))))) ∧ (r9 = (28 : Int32) → wp_X4_value τ10 (nI i) (fun r38 τ39 => wp_X0_rowCall (((KS z m ti ba a h q).1.1, τ39), (KS z m ti ba a h q).2) (KS z m ti ba a h q).1.1.2.1.2 r38 (fun r40 τ41 => wp_X0_callFor τ41 (nI i) r40 (fun τ43 => wp_X0_writeValue_121 rc post (M - 1) τ43 (nI node) x3 (nI i) x5 (nI (c + 1))))))))) : wp_X0_writeValue_121 rc post M (KS z m ti ba a h q) (nI node) x3 (nI l) x5 (nI c) := by
  obtain ⟨M', rfl⟩ : ∃ M', M = M' + 1 := ⟨M - 1, by omega⟩
  rw [show M' + 1 - 1 = M' by omega, ← nI_1 c] at hp
  show wb_X0_writeValue_121 rc post _ (KS z m ti ba a h q) (nI node) x3 (nI l) x5 (nI c)
  have nw := hz.nw (m := m) (ti := ti) (ba := ba) (a := a) (h := h) (q := q)
  have hL := nw.2.2.1
  have hL2 := nw.2.2.2
  unfold wb_X0_writeValue_121
  show ((KS z m ti ba a h q).1.2.2.2.2.2 ≤ nI c → _) ∧ (¬ (KS z m ti ba a h q).1.2.2.2.2.2 ≤ nI c → _)
  have e : (KS z m ti ba a h q).1.2.2.2.2.2 = nI u := nw.1
  rw [e]
  refine ⟨fun c => absurd c (nI_ge hc (by omega)), fun _ => ⟨fun c => absurd ((nI_eq (by omega) (by omega)).mp c) hn, fun _ => k_ntie hz hl ?_⟩⟩
  rw [ht]
  exact hp
/-- the whole of an EXPR, from its walk down and up -/
theorem k_value {n : Nat} (hz : KZ T g z u L) {e : Tr} {i f h a dp q : Nat} {m ti ba : Nat → Int32} {po : Int32 → WSX0 → Prop} (hd : dp ≤ 120) (hu : sz T e ≤ u) (hu2 : u < 2 ^ 30)
    (hD : ∀ (M : Nat) (post : WSX0 → Prop), ls e < M → (∀ m' ti' ba' b, CG T g u e i f h a m ti ba m' ti' ba' b → wp_X0_writeValue_121 (wg_wv n) post (u + 5 - ls e) (KS z m' ti' ba' b h q) (nI i) (nI dp) (nI i) (nI f) (nI (ls e))) → wp_X0_writeValue_16 (wg_wv n) post M (KS z m ti ba a h q) (nI i) (nI dp) (nI i) (nI f) (nI 0))
    (hY : ∀ m' ti' ba' b, CG T g u e i f h a m ti ba m' ti' ba' b → po 0 (KS z m' ti' ba' b h q)) : wg_wv (n + 1) 0 (KS z m ti ba a h q) [nI i, nI f, nI dp] po := by
  show wp_X0_writeValue (wg_wv n) (KS z m ti ba a h q) (nI i) (nI f) (nI dp) (po 0)
  have l := ls_lt T e
  exact ⟨fun _ => ⟨ls e + 1, hD _ _ (by omega) (fun m' ti' ba' b hg => v121_end (by omega) (hY m' ti' ba' b hg))⟩, fun c => absurd (nI_le (b := 120) hd (by omega)) c⟩
theorem k_ex (hz : KZ T g z u L) (hv : GV T N g) (hN : ∀ s, s + 1 < N → ¬ tfin T s) (hu2 : u < 2 ^ 30) : ∀ (e : Tr) (n i f h a dp q node c M : Nat) (m ti ba : Nat → Int32) (post : WSX0 → Prop), WF T N e → CS T z.1.2 e i → CJ T g z.1.2 e i → i ≤ node → node < u → c + sz T e ≤ u → rh e ≤ n → dp + rh e ≤ 120 → ls e < M → 512 ≤ a → a + wt T e ≤ 4096 → BI u ba a →
    (cl T e = true → f = 0) → (cl T e = false → f + nd T e ≤ 12) → nd T e ≤ 11 → h + rh e ≤ 211 →
    (∀ m' ti' ba' b, CG T g u e i f h a m ti ba m' ti' ba' b → wp_X0_writeValue_121 (wg_wv n) post (u + 5 - ls e) (KS z m' ti' ba' b h q) (nI node) (nI dp) (nI i) (nI f) (nI (ls e))) →
    wp_X0_writeValue_16 (wg_wv n) post M (KS z m ti ba a h q) (nI node) (nI dp) (nI i) (nI f) (nI c) := by
  have hg : g.length ≤ 200 := by have := hv.len; have := hv.2; omega
  intro e
  induction e with
  | leaf t =>
    intro n i f h a dp q node c M m ti ba post hwf hcs hcj hin hnu hcu hrh hdp hM ha hb hB hf1 hf2 hnd hh hY
    obtain ⟨M', rfl⟩ : ∃ M', M = M' + 1 := ⟨M - 1, by omega⟩
    have nw := hz.nw (m := m) (ti := ti) (ba := ba) (a := a) (h := h) (q := q)
    have nl : nd T (.leaf t) = 1 := rfl
    have hf := hf2 rfl
    have ew : wt T (.leaf t) = LN T t := rfl
    rw [ew] at hb
    have hLN : 0 < LN T t := LN_pos (hN t hwf.1)
    have fin : wp_X0_writeValue_110 (wg_wv n) post (KS z m ti ba a h q) (nI node) (nI dp) (nI i) (nI f) := by
      unfold wp_X0_writeValue_110
      refine k_leaf hz hg (by omega) hcs hcj hwf.2 rfl (by omega) hb hLN (fun m' b hc hm hbd => ⟨u + 5, ?_⟩)
      have ec : cl T (.leaf t) = false := rfl
      exact hY m' ti ba b ⟨hc, hm, fun _ _ => rfl, fun _ _ => rfl, by rw [if_neg (by rw [ec]; decide), ew]; omega, hB.mono (by have := CX.le _ _ _ _ _ _ hc; omega)⟩
    show wb_X0_writeValue_16 (wg_wv n) post _ (KS z m ti ba a h q) (nI node) (nI dp) (nI i) (nI f) (nI c)
    refine ⟨fun _ => fin, fun _ => ?_⟩
    refine k_isLeaf (b := true) (k := TK T t) nw (by omega) hcs.2.1 (by have := hwf.2; omega) (decide_eq_true (by have := hwf.2; omega)).symm ⟨fun _ => fin, fun c => absurd c (by decide)⟩
  | branch p x y ihx ihy =>
    intro n i f h a dp q node c M m ti ba post hwf hcs hcj hin hnu hcu hrh hdp hM ha hb hB hf1 hf2 hnd hh hY
    have px := sz_pos T x
    have py := sz_pos T y
    have ndx := nd_pos T x
    have ndy := nd_pos T y
    have lx := ls_lt T x
    have lyy := ls_lt T y
    have els : ls (.branch p x y) = ls x + 1 := rfl
    obtain ⟨M', rfl⟩ : ∃ M', M = M' + 1 := ⟨M - 1, by omega⟩
    have hsp := sz_pos T (.branch p x y)
    have nw := hz.nw (m := m) (ti := ti) (ba := ba) (a := a) (h := h) (q := q)
    have hL := nw.2.2.1
    have hL2 := nw.2.2.2
    have szs : ∀ x : Tr, 0 < sz T x := sz_pos T
    show wb_X0_writeValue_16 (wg_wv n) post _ (KS z m ti ba a h q) (nI node) (nI dp) (nI i) (nI f) (nI c)
    unfold wb_X0_writeValue_16
    show ((KS z m ti ba a h q).1.2.2.2.2.2 ≤ nI c → _) ∧ (¬ (KS z m ti ba a h q).1.2.2.2.2.2 ≤ nI c → _)
    have eu : (KS z m ti ba a h q).1.2.2.2.2.2 = nI u := nw.1
    rw [eu]
    refine ⟨fun cc => absurd cc (nI_ge (by omega) (by omega)), fun _ => ?_⟩
    have hknd := hcs.kind
    have hhd := hcs.hd
    rw [kE] at hknd
    obtain ⟨hd1, hd2, hd3, hd4⟩ := hhd
    have hcs := hcs.2
    by_cases q1 : p % 2 = 1
    · rw [if_pos q1] at hcs hknd
      rw [WF, if_pos q1] at hwf
      rw [CJ, if_pos q1] at hcj
      rw [nd, if_pos q1] at hnd hf2
      rw [cl, if_pos q1] at hf1 hf2
      rw [rh, if_pos q1] at hh hrh hdp
      rw [sz, if_pos q1] at hd4 hcu
      rw [wt, if_pos q1] at hb
      have np := ndP_le (nd T x) (nd T y)
      have hx1 : rh x ≤ max (rh x) (rh y + 1) := Nat.le_max_left _ _
      have hy1 : rh y + 1 ≤ max (rh x) (rh y + 1) := Nat.le_max_right _ _
      obtain ⟨w1, w2, w3, w4⟩ := hwf
      obtain ⟨c1, c2, c3, c4⟩ := hcs
      obtain ⟨jy, jx⟩ := hcj
      have hk131 : TK T (p / 2) ≤ 131 := (TK_r T (p / 2)).1
      have hop : (if TK T (p / 2) = 128 ∨ TK T (p / 2) = 129 then 2 else 1) ≤ LN T (p / 2) := by
        split
        · rename_i hh2
          exact LN_sg2 hh2
        · exact LN_pos (hN _ w1)
      obtain ⟨n', rfl⟩ : ∃ n', n = n' + 1 := ⟨n - 1, by omega⟩
      -- the right part by itself
      have vy : ∀ (f h a q : Nat) (m ti ba : Nat → Int32) (po : Int32 → WSX0 → Prop), 512 ≤ a → a + wt T y ≤ 4096 → BI u ba a → (cl T y = true → f = 0) → (cl T y = false → f + nd T y ≤ 12) → h + rh y ≤ 211 → (∀ m' ti' ba' b, CG T g u y (i - 1) f h a m ti ba m' ti' ba' b → po 0 (KS z m' ti' ba' b h q)) → wg_wv (n' + 1) 0 (KS z m ti ba a h q) [nI i - 1, nI f, nI dp + 1] po := by
        intro f h a q m ti ba po k1 k2 k3 k4 k5 k6 k7
        rw [sub1 (by omega), nI_1]
        refine k_value hz (e := y) (by omega) (by omega) hu2 (fun M post hM hY => ?_) k7
        exact ihy n' (i - 1) f h a (dp + 1) q (i - 1) 0 M m ti ba post w4 c3 jy (Nat.le_refl _) (by omega) (by omega) (by omega) (by omega) hM k1 k2 k3 k4 k5 (by omega) k6 hY
      have l0 : i - 1 - sz T y < u := by omega
      have tiF : ∀ (ti1 ti' : Nat → Int32), (∀ j, ¬ (i - 1 - sz T y + 1 ≤ j + sz T x ∧ j < i - 1 - sz T y) → ti' j = ti1 j) → (∀ j, ¬ (i - 1 + 1 ≤ j + sz T y ∧ j < i - 1) → ti1 j = upd ti (i - 1 - sz T y) (nI i) j) → ti' (i - 1 - sz T y) = nI i ∧ ∀ j, ¬ (i + 1 ≤ j + (sz T x + sz T y + 1) ∧ j < i) → ti' j = ti j := by
        intro ti1 ti' h1 h2
        refine ⟨?_, fun j hj => ?_⟩
        · rw [h1 _ (by omega), h2 _ (by omega)]
          exact pk_us
        · rw [h1 j (by omega), h2 j (by omega)]
          exact pk_un (by omega)
      refine k_isLeaf (b := false) (k := TK T (p / 2)) nw (by omega) c1 (by omega) (decide_eq_false (by rcases lvl_k w2 with e | e | e | e | e | e | e | e | e | e | e | e | e <;> omega)).symm ⟨fun cc => absurd rfl cc, fun _ => ?_⟩
      refine k_isPair (b := true) (k := TK T (p / 2)) nw (by omega) c1 hk131 (decide_eq_true w2).symm ⟨fun cc => absurd cc (by decide), fun _ => ?_⟩
      refine c_nleft nw (by omega) (by omega) c3.hd.1 ?_
      unfold wp_X0_writeValue_62
      refine k_keepTie hz l0 ?_
      have esz : sz T (.branch p x y) = sz T x + sz T y + 1 := by rw [sz, if_pos q1]
      have ewt : wt T (.branch p x y) = LN T (p / 2) + wt T x + wt T y := by rw [wt, if_pos q1]
      have ecl : cl T (.branch p x y) = (cl T x || cl T y) := by rw [cl, if_pos q1]
      refine k_rightFirst (σ := KS z m (upd ti (i - 1 - sz T y) (nI i)) ba a h q) (x := x) (y := y) (hz.nw) (by omega) c1 hk131 w2 c3.hd c4.hd (by omega) (by omega) (by omega) ?_
      cases q2 : rF T x y with
      | true =>
        have hxc : cl T x = false := by
          unfold rF at q2
          split at q2
          · cases hc : cl T x with
            | false => rfl
            | true => rw [hc] at q2; cases q2
          · rename_i hc
            cases hc2 : cl T x with
            | false => rfl
            | true => rw [hc2] at hc; exact absurd rfl hc
        rw [hxc] at hf1 hf2 ecl
        have hf : f + 1 + nd T x ≤ 12 := by
          cases hy : cl T y with
          | true =>
            have := hf1 (by rw [hy]; rfl)
            omega
          | false =>
            have h5 := hf2 (by rw [hy]; rfl)
            unfold rF at q2
            rw [hxc, hy, if_neg (by decide)] at q2
            have := of_decide_eq_true q2
            omega
        have hfy : cl T y = false → f + nd T y ≤ 12 := fun hy => by
          have h5 := hf2 (by rw [hy]; rfl)
          omega
        refine ⟨fun cc => absurd cc (by decide), fun _ => ?_⟩
        refine vy f h a q m _ ba _ ha (by omega) hB (fun hy => hf1 (by rw [hy]; rfl)) hfy (by omega) (fun m1 ti1 ba1 b1 hg1 => ?_)
        obtain ⟨g1, g2, g3, g4, g5, g6⟩ := hg1
        have lb1 := CX.le _ _ _ _ _ _ g1
        show wp_X0_writeValue_16 (wg_wv (n' + 1)) post M' (KS z m1 ti1 ba1 b1 h q) (nI node) (nI dp) (nI (i - 1 - sz T y)) (nI f + 1) (nI c + 1)
        rw [nI_1, nI_1]
        refine ihx (n' + 1) (i - 1 - sz T y) (f + 1) h b1 dp q node (c + 1) M' m1 ti1 ba1 post w3 c4 jx (by omega) hnu (by omega) (by omega) (by omega) (by omega) (by omega) (by omega) g6 (fun hy => by rw [hxc] at hy; cases hy) (fun _ => hf) (by omega) (by omega) (fun m2 ti2 ba2 b2 hg2 => ?_)
        obtain ⟨k1, k2, k3, k4, k5, k6⟩ := hg2
        have lb2 := CX.le _ _ _ _ _ _ k1
        obtain ⟨t1, t2⟩ := tiF ti1 ti2 k3 g3
        rw [hxc, if_neg (by decide)] at k5
        refine v121_go hz (i := i) (by omega) (by omega) l0 (by omega) hnu t1 (by omega) ?_
        refine c_nkind hz.nw (by omega) ?_
        have c1' : (KS z m2 ti2 ba2 b2 h q).1.2.1.1.2 i = nI (TK T (p / 2)) := c1
        rw [c1']
        refine ⟨fun _ => ?_, fun cc => ?_⟩
        · refine k_isPair (σ := KS z m2 ti2 ba2 b2 h q) (b := true) (k := TK T (p / 2)) hz.nw (by omega) c1 hk131 (decide_eq_true w2).symm ⟨fun _ => ?_, fun cc => absurd cc (by decide)⟩
          refine k_rightFirst (σ := KS z m2 ti2 ba2 b2 h q) (x := x) (y := y) hz.nw (by omega) c1 hk131 w2 c3.hd c4.hd (by omega) (by omega) (by omega) ?_
          rw [q2]
          refine ⟨fun cc => absurd cc (by decide), fun _ => ?_⟩
          have e5 : nI (f + 1) + (-1) = nI f := by
            rw [← nI_1 f, Int32.add_assoc, show (1 : Int32) + (-1) = 0 by decide, Int32.add_zero]
          rw [e5, nI_1]
          refine k_pair hz (k := TK T (p / 2)) (rd := 6 + f) (rl := 7 + f) (rr := 6 + f) (d1 := f) (d2 := f + 1) (d3 := f) (by omega) c1 w2 rfl rfl rfl (by omega) (by omega) (by omega) rfl (by omega) rfl (by omega) (fun m3 b3 o1 o2 o3 => ?_)
          have lo := o1.le
          rw [els] at hY
          have := hY m3 ti2 ba2 b3 ⟨?_, fun j hj => ?_, fun j hj => t2 j (by rw [esz] at hj; exact hj), fun j hj => ?_, ?_, k6.mono (by omega)⟩
          · rw [show u + 5 - (ls x + 1) = u + 5 - ls x - 1 by omega] at this
            exact this
          · rw [CX, if_pos q1, if_pos q2]
            refine ⟨b1, b2, CX.fr _ _ _ _ _ _ g1 (by omega) (fun j j1 j2 => (o2 j (by omega)).trans (k2 j (by omega))) (fun j j1 j2 => k4 j (by omega)), CX.fr _ _ _ _ _ _ k1 (by omega) (fun j j1 j2 => o2 j (by omega)) (fun j j1 j2 => rfl), o1⟩
          · rw [o2 j (by omega), k2 j (by omega), g2 j (by omega)]
          · rw [esz] at hj
            rw [k4 j (by omega), g4 j (by omega)]
          · rw [ecl, ewt, Bool.false_or]
            omega
        · have := (nI_eq (b := 28) (by omega) (by omega)).mp cc
          rcases lvl_k w2 with e | e | e | e | e | e | e | e | e | e | e | e | e <;> omega
      | false =>
        refine ⟨fun _ => ?_, fun cc => absurd rfl cc⟩
        show wp_X0_writeValue_16 (wg_wv (n' + 1)) post M' (KS z m (upd ti (i - 1 - sz T y) (nI i)) ba a h q) (nI node) (nI dp) (nI (i - 1 - sz T y)) (nI f) (nI c + 1)
        rw [nI_1]
        have hfx : cl T x = false → f + nd T x ≤ 12 := by
          intro hx
          cases hy : cl T y with
          | true =>
            have := hf1 (by rw [hx, hy]; rfl)
            omega
          | false =>
            have := hf2 (by rw [hx, hy]; rfl)
            omega
        refine ihx (n' + 1) (i - 1 - sz T y) f h a dp q node (c + 1) M' m _ ba post w3 c4 jx (by omega) hnu (by omega) (by omega) (by omega) (by omega) ha (by omega) hB (fun hx => hf1 (by rw [hx]; rfl)) hfx (by omega) (by omega) (fun m1 ti1 ba1 b1 hg1 => ?_)
        obtain ⟨g1, g2, g3, g4, g5, g6⟩ := hg1
        have lb1 := CX.le _ _ _ _ _ _ g1
        have t1 : ti1 (i - 1 - sz T y) = nI i := (g3 _ (by omega)).trans pk_us
        have t2 : ∀ j, ¬ (i + 1 ≤ j + (sz T x + sz T y + 1) ∧ j < i) → ti1 j = ti j := fun j hj => (g3 j (by omega)).trans (pk_un (by omega))
        refine v121_go hz (i := i) (by omega) (by omega) l0 (by omega) hnu t1 (by omega) ?_
        refine c_nkind hz.nw (by omega) ?_
        have c1' : (KS z m1 ti1 ba1 b1 h q).1.2.1.1.2 i = nI (TK T (p / 2)) := c1
        rw [c1']
        refine ⟨fun _ => ?_, fun cc => ?_⟩
        · refine k_isPair (σ := KS z m1 ti1 ba1 b1 h q) (b := true) (k := TK T (p / 2)) hz.nw (by omega) c1 hk131 (decide_eq_true w2).symm ⟨fun _ => ?_, fun cc => absurd cc (by decide)⟩
          refine k_rightFirst (σ := KS z m1 ti1 ba1 b1 h q) (x := x) (y := y) hz.nw (by omega) c1 hk131 w2 c3.hd c4.hd (by omega) (by omega) (by omega) ?_
          rw [q2]
          refine ⟨fun _ => ?_, fun cc => absurd rfl cc⟩
          have e1i : nI i - 1 = nI (i - 1) := sub1 (by omega)
          have y3 := c3.hd.2.2.1
          have vy2 := vy
          rw [e1i] at vy2 ⊢
          refine c_ncalls (σ := (KS z m1 ti1 ba1 b1 h q).1.2) hz.nw (by omega) y3 ?_
          cases q3 : cl T y with
          | true =>
            have hf0 : f = 0 := hf1 (by rw [q3, Bool.or_true])
            have hxc : cl T x = true := by
              unfold rF at q2
              rw [q3, Bool.or_true, if_pos rfl] at q2
              cases hc : cl T x with
              | true => rfl
              | false => rw [hc] at q2; cases q2
            rw [hxc, if_pos rfl] at g5
            refine ⟨fun cc => absurd cc (by decide), fun _ => ?_⟩
            refine c_hold (rg := 6) (by omega) rfl (by omega) (by omega) ?_
            refine vy2 0 (h + 1) (b1 + 1) q _ ti1 ba1 _ (by omega) (by omega) (g6.mono (by omega)) (fun _ => rfl) (fun hy => by rw [q3] at hy; cases hy) (by omega) (fun m2 ti2 ba2 b2 hg2 => ?_)
            obtain ⟨k1, k2, k3, k4, k5, k6⟩ := hg2
            have lb2 := CX.le _ _ _ _ _ _ k1
            rw [q3, if_pos rfl] at k5
            refine c_release (rg := 7) (by omega) rfl (by omega) (by omega) ?_
            refine k_pair hz (k := TK T (p / 2)) (rd := 6) (rl := 7) (rr := 6) (d1 := 0) (d2 := 1) (d3 := 0) (by omega) c1 w2 rfl rfl rfl (by omega) (by omega) (by omega) rfl rfl rfl (by omega) (fun m3 b3 o1 o2 o3 => ?_)
            have lo := o1.le
            rw [els] at hY
            rw [show h + 1 - 1 = h by omega] at o2 ⊢
            have wr2 : ∀ j, j < b2 → m3 j = m2 j := fun j hj => (o2 j (by omega)).trans (pk_un (by omega))
            have := hY m3 ti2 ba2 b3 ⟨?_, fun j hj => ?_, fun j hj => ?_, fun j hj => ?_, ?_, k6.mono (by omega)⟩
            · rw [show u + 5 - (ls x + 1) = u + 5 - ls x - 1 by omega] at this
              exact this
            · rw [CX, if_pos q1, if_neg (by rw [q2]; decide), if_pos q3]
              refine ⟨b1, b2, CX.fr _ _ _ _ _ _ g1 (by omega) (fun j j1 j2 => ?_) (fun j j1 j2 => k4 j (by omega)), ?_, ?_, ?_, o1⟩
              · rw [wr2 j (by omega), k2 j (by omega)]
                exact pk_un (by omega)
              · rw [wr2 b1 (by omega), k2 b1 (by omega)]
                exact pk_us
              · exact CX.fr _ _ _ _ _ _ k1 (by omega) (fun j j1 j2 => wr2 j (by omega)) (fun j j1 j2 => rfl)
              · rw [o2 b2 (by omega)]
                exact pk_us
            · rw [wr2 j (by omega), k2 j (by omega), pk_un (by omega), g2 j (by omega)]
            · rw [esz] at hj
              rw [k3 j (by omega), t2 j hj]
            · rw [esz] at hj
              rw [k4 j (by omega), g4 j (by omega)]
            · rw [ecl, ewt, q3, Bool.or_true, if_pos rfl]
              omega
          | false =>
            refine ⟨fun _ => ?_, fun cc => absurd rfl cc⟩
            rw [q3] at hf1 hf2
            have hf : f + 1 + nd T y ≤ 12 := by
              cases hx : cl T x with
              | true =>
                have := hf1 (by rw [hx]; rfl)
                omega
              | false =>
                have h5 := hf2 (by rw [hx]; rfl)
                unfold rF at q2
                rw [hx, q3, if_neg (by decide)] at q2
                have := of_decide_eq_false q2
                omega
            have := vy2 (f + 1) h b1 q m1 ti1 ba1
            rw [← nI_1 f] at this
            refine this _ (by omega) (by omega) g6 (fun hy => by rw [q3] at hy; cases hy) (fun _ => hf) (by omega) (fun m2 ti2 ba2 b2 hg2 => ?_)
            obtain ⟨k1, k2, k3, k4, k5, k6⟩ := hg2
            have lb2 := CX.le _ _ _ _ _ _ k1
            rw [q3, if_neg (by decide)] at k5
            rw [nI_1]
            refine k_pair hz (k := TK T (p / 2)) (rd := 6 + f) (rl := 6 + f) (rr := 7 + f) (d1 := f) (d2 := f) (d3 := f + 1) (by omega) c1 w2 rfl rfl rfl (by omega) (by omega) (by omega) rfl rfl (by omega) (by omega) (fun m3 b3 o1 o2 o3 => ?_)
            have lo := o1.le
            rw [els] at hY
            have := hY m3 ti2 ba2 b3 ⟨?_, fun j hj => ?_, fun j hj => ?_, fun j hj => ?_, ?_, k6.mono (by omega)⟩
            · rw [show u + 5 - (ls x + 1) = u + 5 - ls x - 1 by omega] at this
              exact this
            · rw [CX, if_pos q1, if_neg (by rw [q2]; decide), if_neg (by rw [q3]; decide)]
              refine ⟨b1, b2, CX.fr _ _ _ _ _ _ g1 (by omega) (fun j j1 j2 => (o2 j (by omega)).trans (k2 j (by omega))) (fun j j1 j2 => k4 j (by omega)), CX.fr _ _ _ _ _ _ k1 (by omega) (fun j j1 j2 => o2 j (by omega)) (fun j j1 j2 => rfl), o1⟩
            · rw [o2 j (by omega), k2 j (by omega), g2 j (by omega)]
            · rw [esz] at hj
              rw [k3 j (by omega), t2 j hj]
            · rw [esz] at hj
              rw [k4 j (by omega), g4 j (by omega)]
            · rw [ecl, ewt, q3, Bool.or_false]
              omega
        · have := (nI_eq (b := 28) (by omega) (by omega)).mp cc
          rcases lvl_k w2 with e | e | e | e | e | e | e | e | e | e | e | e | e <;> omega
    · rw [if_neg q1] at hcs hknd
      rw [WF, if_neg q1] at hwf
      rw [CJ, if_neg q1] at hcj
      rw [nd, if_neg q1] at hnd hf2
      rw [cl, if_neg q1] at hf1 hf2
      rw [rh, if_neg q1] at hh hrh hdp
      rw [sz, if_neg q1] at hd4 hcu
      rw [wt, if_neg q1] at hb
      by_cases q2 : TK T (p / 2) = 2
      · rw [if_pos q2] at hcs hwf hcj hf1 hf2 hd4 hcu hb hknd
        obtain ⟨c1, c2, c3, c4, c5⟩ := hcs
        obtain ⟨⟨k, jk, jv⟩, jx⟩ := hcj
        have hf0 : f = 0 := hf1 rfl
        have esz : sz T (.branch p x y) = sz T x + 2 := by rw [sz, if_neg q1, if_pos q2]
        have ewt : wt T (.branch p x y) = LN T (p / 2) + 2 + wt T x := by rw [wt, if_neg q1, if_pos q2]
        have ecl : cl T (.branch p x y) = true := by rw [cl, if_neg q1, if_pos q2]
        have hLN : 0 < LN T (p / 2) := LN_pos (hN _ (by omega))
        refine k_isLeaf (b := false) (k := 28) nw (by omega) c1 (by omega) rfl ⟨fun cc => absurd rfl cc, fun _ => ?_⟩
        refine k_isPair (b := false) (k := 28) nw (by omega) c1 (by omega) rfl ⟨fun _ => ?_, fun cc => absurd rfl cc⟩
        rw [sub1 (by omega)]
        unfold wp_X0_writeValue_62
        refine k_keepTie hz (by omega) ?_
        refine k_rf0 (σ := KS z m (upd ti (i - 1) (nI i)) ba a h q) (k := 28) hz.nw (by omega) c1 (by omega) (by decide) ⟨fun _ => ?_, fun cc => absurd rfl cc⟩
        show wp_X0_writeValue_16 (wg_wv n) post M' (KS z m (upd ti (i - 1) (nI i)) ba a h q) (nI node) (nI dp) (nI (i - 1)) (nI f) (nI c + 1)
        rw [nI_1]
        refine ihx n (i - 1) f h a dp q node (c + 1) M' m _ ba post hwf.2.2 c3 jx (by omega) hnu (by omega) hrh hdp (by omega) ha (by omega) hB (fun _ => hf0) (fun _ => by omega) hnd hh (fun m1 ti1 ba1 b1 hg1 => ?_)
        obtain ⟨g1, g2, g3, g4, g5, g6⟩ := hg1
        have lb1 := CX.le _ _ _ _ _ _ g1
        have t1 : ti1 (i - 1) = nI i := (g3 _ (by omega)).trans pk_us
        have g5' : b1 ≤ a + wt T x := by omega
        refine v121_go hz (i := i) (by omega) (by omega) (by omega) (by omega) hnu t1 (by omega) ?_
        refine c_nkind hz.nw (by omega) ?_
        have c1' : (KS z m1 ti1 ba1 b1 h q).1.2.1.1.2 i = 28 := c1
        rw [c1']
        refine ⟨fun cc => absurd rfl cc, fun _ => c_nvalue hz.nw (by omega) ?_⟩
        have jv' : (KS z m1 ti1 ba1 b1 h q).1.2.1.2.2.1 i = nI k := jv
        rw [jv']
        have hkl := fdI_lt g _ k jk
        refine c_rowCall hz hg (c := 530) hz.2.2.2.2.2.2.1 hkl ?_
        refine c_callFor hz (t := 530 + 5 * nrw (g.take k)) (by omega) (by omega) rfl ?_
        rw [els] at hY
        have := hY (upd m1 b1 (wJ 1 (nI (4 * (530 + 5 * nrw (g.take k))) - nI (4 * b1)))) ti1 (upd ba1 i (nI (4 * (b1 + 1)))) (b1 + 1) ⟨?_, fun j hj => ?_, fun j hj => ?_, fun j hj => ?_, ?_, g6.up (by omega) (by omega)⟩
        · rw [show u + 5 - (ls x + 1) = u + 5 - ls x - 1 by omega] at this
          exact this
        · rw [CX, if_neg q1, if_pos q2, nmk, jk]
          refine ⟨b1, CX.fr _ _ _ _ _ _ g1 (by omega) (fun j j1 j2 => pk_un (by omega)) (fun j j1 j2 => pk_un (by omega)), pk_us, rfl, pk_us⟩
        · rw [pk_un (by omega), g2 j hj]
        · rw [esz] at hj
          rw [g3 j (by omega), pk_un (by omega)]
        · rw [esz] at hj
          rw [pk_un (by omega), g4 j (by omega)]
        · rw [ecl, ewt, if_pos rfl]
          omega
      · rw [if_neg q2] at hcs hwf hcj hf1 hf2 hd4 hcu hb hknd
        obtain ⟨c1, c2, c3⟩ := hcs
        have esz : sz T (.branch p x y) = sz T x + 1 := by rw [sz, if_neg q1, if_neg q2]
        have ewt : wt T (.branch p x y) = 1 + wt T x := by rw [wt, if_neg q1, if_neg q2]
        have ecl : cl T (.branch p x y) = cl T x := by rw [cl, if_neg q1, if_neg q2]
        have hf : f ≤ 11 := by
          cases hx : cl T x with
          | true => have := hf1 hx; omega
          | false => have := hf2 hx; omega
        have hku : ku (TK T (p / 2)) = 29 ∨ ku (TK T (p / 2)) = 126 ∨ ku (TK T (p / 2)) = 33 := by
          rcases hwf.2.1 with e | e | e <;> rw [e] <;> decide
        have hnl : ¬ lvl (ku (TK T (p / 2))) < 7 := by
          rcases hku with e | e | e <;> rw [e] <;> decide
        refine k_isLeaf (b := false) (k := ku (TK T (p / 2))) nw (by omega) c1 (by omega) (decide_eq_false (by omega)).symm ⟨fun cc => absurd rfl cc, fun _ => ?_⟩
        refine k_isPair (b := false) (k := ku (TK T (p / 2))) nw (by omega) c1 (by omega) (decide_eq_false hnl).symm ⟨fun _ => ?_, fun cc => absurd rfl cc⟩
        rw [sub1 (by omega)]
        unfold wp_X0_writeValue_62
        refine k_keepTie hz (by omega) ?_
        refine k_rf0 (σ := KS z m (upd ti (i - 1) (nI i)) ba a h q) (k := ku (TK T (p / 2))) hz.nw (by omega) c1 (by omega) hnl ⟨fun _ => ?_, fun cc => absurd rfl cc⟩
        show wp_X0_writeValue_16 (wg_wv n) post M' (KS z m (upd ti (i - 1) (nI i)) ba a h q) (nI node) (nI dp) (nI (i - 1)) (nI f) (nI c + 1)
        rw [nI_1]
        refine ihx n (i - 1) f h a dp q node (c + 1) M' m _ ba post hwf.2.2 c3 hcj (by omega) hnu (by omega) hrh hdp (by omega) ha (by omega) hB hf1 hf2 hnd hh (fun m1 ti1 ba1 b1 hg1 => ?_)
        obtain ⟨g1, g2, g3, g4, g5, g6⟩ := hg1
        have lb1 := CX.le _ _ _ _ _ _ g1
        have t1 : ti1 (i - 1) = nI i := (g3 _ (by omega)).trans pk_us
        have g5' : b1 ≤ a + wt T x := by omega
        refine v121_go hz (i := i) (by omega) (by omega) (by omega) (by omega) hnu t1 (by omega) ?_
        refine c_nkind hz.nw (by omega) ?_
        have c1' : (KS z m1 ti1 ba1 b1 h q).1.2.1.1.2 i = nI (ku (TK T (p / 2))) := c1
        rw [c1']
        refine ⟨fun _ => ?_, fun cc => ?_⟩
        · refine k_isPair (σ := KS z m1 ti1 ba1 b1 h q) (b := false) (k := ku (TK T (p / 2))) hz.nw (by omega) c1 (by omega) (decide_eq_false hnl).symm ⟨fun cc => absurd rfl cc, fun _ => ?_⟩
          refine c_reg rfl (by omega) ?_
          refine k_unary hz (k := TK T (p / 2)) (by omega) c1 hwf.2.1 rfl (by omega) (by omega) (fun m2 o1 o2 => ?_)
          rw [els] at hY
          have := hY m2 ti1 ba1 (b1 + 1) ⟨?_, fun j hj => ?_, fun j hj => ?_, fun j hj => ?_, ?_, g6.mono (by omega)⟩
          · rw [show u + 5 - (ls x + 1) = u + 5 - ls x - 1 by omega] at this
            exact this
          · rw [CX, if_neg q1, if_neg q2]
            exact ⟨b1, CX.fr _ _ _ _ _ _ g1 (by omega) (fun j j1 j2 => o2 j (by omega)) (fun j j1 j2 => rfl), o1, rfl⟩
          · rw [o2 j (by omega), g2 j hj]
          · rw [esz] at hj
            rw [g3 j (by omega), pk_un (by omega)]
          · rw [esz] at hj
            rw [g4 j (by omega)]
          · rw [ecl, ewt]
            omega
        · have := (nI_eq (b := 28) (by omega) (by omega)).mp cc
          omega
end CValue
