section CExpr
theorem LN_sg2 {T : TX} {t : Nat} (h : TK T t = 128 ∨ TK T t = 129) : 2 ≤ LN T t := by
  unfold TK at h
  unfold LN
  by_cases hlt : PL T t < T.2
  · cases e1 : isLet (T.1 (PL T t)) with
    | true =>
      obtain ⟨k1, k2, _⟩ := kdA_let hlt e1
      rw [k1] at h
      split at h
      · have := wK_r T (PL T t) (nmE T (PL T t) - PL T t)
        omega
      · omega
    | false =>
      cases e2 : isDig (T.1 (PL T t)) with
      | true =>
        rw [(kdA_dig hlt e2).1] at h
        split at h <;> omega
      | false =>
        rw [(kdA_sg hlt e1 e2).1] at h
        unfold lnA
        rw [if_pos hlt, e1, e2]
        unfold sgK at h
        split at h
        · split at h
          · rename_i q2
            have := sgn_r q2
            omega
          · omega
        · rename_i q
          show 2 ≤ (if false = true then _ else if false = true then _ else if lsK (T.1 (PL T t)) (bt T (PL T t + 1)) = 1 then 1 else 2)
          rw [if_neg (by decide), if_neg (by decide), if_neg q]
          exact Nat.le_refl _
  · rw [(kdA_end hlt).1] at h
    omega
theorem LN_num {T : TX} {t : Nat} (h : TK T t = 3) (hn : 10 ≤ NB T t) : 2 ≤ LN T t := by
  have hd : dv T (PL T t) (LN T t) = NB T t := by
    unfold NB nbA
    have h : kdA T (PL T t) = 3 := h
    rw [if_pos h]
    rfl
  by_cases q : 2 ≤ LN T t
  · exact q
  · have : LN T t = 0 ∨ LN T t = 1 := by omega
    rcases this with e | e
    · rw [e] at hd
      have : dv T (PL T t) 0 = 0 := rfl
      omega
    · rw [e] at hd
      have h1 : dv T (PL T t) 1 = 0 * 10 + (T.1 (PL T t + 0) - 48) := rfl
      have h2 : T.1 (PL T t) ≤ 57 := by
        unfold TK at h
        by_cases hlt : PL T t < T.2
        · cases e1 : isLet (T.1 (PL T t)) with
          | true =>
            obtain ⟨k1, k2, _⟩ := kdA_let hlt e1
            rw [k1] at h
            split at h
            · have := wK_r T (PL T t) (nmE T (PL T t) - PL T t)
              omega
            · omega
          | false =>
            cases e2 : isDig (T.1 (PL T t)) with
            | true =>
              unfold isDig at e2
              simp at e2
              omega
            | false =>
              rw [(kdA_sg hlt e1 e2).1] at h
              unfold sgK at h
              have := lsK_r (T.1 (PL T t)) (bt T (PL T t + 1))
              split at h
              · split at h
                · rename_i q2
                  have := sgn_r q2
                  omega
                · omega
              · omega
        · rw [(kdA_end hlt).1] at h
          omega
      rw [Nat.add_zero] at h1
      omega
/-- the bytes of an EXPR -/
def wt (T : TX) : Tr → Nat
  | .leaf t => LN T t
  | .branch p a b => if p % 2 = 1 then LN T (p / 2) + wt T a + wt T b else if TK T (p / 2) = 2 then LN T (p / 2) + 2 + wt T a else 1 + wt T a
theorem PL_mono {T : TX} (a b : Nat) (h : a ≤ b) : PL T a ≤ PL T b := by
  induction b with
  | zero => rw [show a = 0 by omega]; exact Nat.le_refl _
  | succ b ih =>
    by_cases q : a = b + 1
    · rw [q]; exact Nat.le_refl _
    · have := ih (by omega)
      have := PL_next T b
      omega
theorem SPN.lt {T : TX} : ∀ (e : Tr) (t t' : Nat), SPN T e t t' → t < t' := by
  intro e
  induction e with
  | leaf x =>
    intro t t' h
    exact Nat.lt_of_le_of_lt h.1 h.2
  | branch p a b iha ihb =>
    intro t t' h
    rw [SPN] at h
    split at h
    · have h1 := iha _ _ h.1
      have h2 := ihb _ _ h.2
      omega
    · split at h
      · have h1 := iha _ _ h.2
        omega
      · have h1 := iha _ _ h.2
        omega
theorem wt_span {T : TX} {N : Nat} (hN : LT T N) : ∀ (e : Tr) (t t' : Nat), WF T N e → SPN T e t t' → t' < N → PL T t + wt T e ≤ PL T t' := by
  intro e
  induction e with
  | leaf x =>
    intro t t' hw h ht
    have h1 := PL_mono (T := T) _ _ h.1
    have h2 := PL_next T x
    have h3 := PL_mono (T := T) (x + 1) t' h.2
    show PL T t + LN T x ≤ _
    omega
  | branch p a b iha ihb =>
    intro t t' hw h ht
    rw [SPN] at h
    rw [WF] at hw
    rw [wt]
    have h2 := PL_next T (p / 2)
    by_cases q : p % 2 = 1
    · rw [if_pos q] at h hw ⊢
      have l1 := SPN.lt _ _ _ h.2
      have h1 := iha _ _ hw.2.2.1 h.1 (by omega)
      have h3 := ihb _ _ hw.2.2.2 h.2 ht
      omega
    · rw [if_neg q] at h hw ⊢
      by_cases q2 : TK T (p / 2) = 2
      · rw [if_pos q2] at h hw ⊢
        have l1 := SPN.lt _ _ _ h.2
        have h1 := iha _ _ hw.2.2 h.2 (by omega)
        have h3 := PL_mono (T := T) _ _ h.1
        have h4 : PL T (p / 2 + 1) + 1 ≤ PL T (p / 2 + 1 + 1) := PL_succ (by unfold tfin; omega)
        have h5 : PL T (t' - 1) + 1 ≤ PL T (t' - 1 + 1) := PL_succ (hN.2.2.2 _ (by omega))
        rw [show t' - 1 + 1 = t' by omega] at h5
        rw [show p / 2 + 1 + 1 = p / 2 + 2 by omega] at h4
        omega
      · rw [if_neg q2] at h hw ⊢
        have h1 := iha _ _ hw.2.2 h.2 ht
        have h3 := PL_mono (T := T) _ _ h.1
        have hu := hw.2.1
        unfold isU at hu
        have h4 : PL T (p / 2) + 1 ≤ PL T (p / 2 + 1) := PL_succ (by unfold tfin; omega)
        omega
def ls : Tr → Nat
  | .leaf _ => 0
  | .branch _ a _ => ls a + 1
theorem ls_lt (T : TX) : ∀ e : Tr, ls e < sz T e := by
  intro e
  induction e with
  | leaf t => exact Nat.zero_lt_one
  | branch p a b iha ihb =>
    rw [sz]
    show ls a + 1 < _
    split
    · omega
    · split <;> omega
/-- backs tell nodes apart -/
def BI (u : Nat) (ba : Nat → Int32) (a : Nat) : Prop := (∀ j, j < u → ba j = -1 ∨ ∃ q, 512 < q ∧ q ≤ a ∧ ba j = nI (4 * q)) ∧ (∀ j k, j < u → k < u → ¬ j = k → ba j = ba k → ba j = -1)
theorem BI.mono {u a b : Nat} {ba : Nat → Int32} (h : BI u ba a) (hl : a ≤ b) : BI u ba b := ⟨fun j hj => (h.1 j hj).imp id (fun ⟨q, h1, h2, h3⟩ => ⟨q, h1, by omega, h3⟩), h.2⟩
theorem BI.up {u a i : Nat} {ba : Nat → Int32} (h : BI u ba a) (ha : 512 ≤ a) (ha2 : a < 4096) : BI u (upd ba i (nI (4 * (a + 1)))) (a + 1) := by
  have fresh : ∀ j, j < u → ¬ ba j = nI (4 * (a + 1)) := by
    intro j hj c
    rcases h.1 j hj with e | ⟨q, h1, h2, h3⟩
    · rw [e] at c
      exact nI_nem1 (by omega) c.symm
    · rw [h3] at c
      have := (nI_eq (by omega) (by omega)).mp c
      omega
  refine ⟨fun j hj => ?_, fun j k hj hk hne he => ?_⟩
  · by_cases q : j = i
    · rw [q, pk_us]
      exact Or.inr ⟨a + 1, by omega, by omega, rfl⟩
    · rw [pk_un q]
      exact (h.mono (Nat.le_succ a)).1 j hj
  · by_cases q : j = i
    · have q2 : ¬ k = i := fun c => hne (q.trans c.symm)
      rw [q, pk_us, pk_un q2] at he
      exact absurd he.symm (fresh k hk)
    · rw [pk_un q] at he ⊢
      by_cases q2 : k = i
      · rw [q2, pk_us] at he
        exact absurd he (fresh j hj)
      · rw [pk_un q2] at he
        exact h.2 j k hj hk hne he
/-! kinds of nodes of EXPRs -/
def kE (T : TX) : Tr → Nat
  | .leaf t => TK T t
  | .branch p _ _ => if p % 2 = 1 then TK T (p / 2) else if TK T (p / 2) = 2 then 28 else ku (TK T (p / 2))
theorem CS.kind {T : TX} {σ : SX4} {e : Tr} {i : Nat} (h : CS T σ e i) : σ.1.1.2 i = nI (kE T e) := by
  cases e with
  | leaf t => exact h.2.1
  | branch p a b =>
    have h := h.2
    rw [kE]
    split
    · rename_i q
      rw [if_pos q] at h
      exact h.1
    · rename_i q
      rw [if_neg q] at h
      split
      · rename_i q2
        rw [if_pos q2] at h
        exact h.1
      · rename_i q2
        rw [if_neg q2] at h
        exact h.1
variable {T : TX} {N : Nat} {g : List DD} {z : WSX0} {u L : Nat} {m ti ba : Nat → Int32} {a h q : Nat}
theorem k_isLeaf {b : Bool} {σ : WSX0} {i k : Nat} {po : Int32 → WSX0 → Prop} (hz : NW0 σ.1.2 u L) (hi : i < u) (hk : σ.1.2.1.1.2 i = nI k) (hb : k < 200) (e : b = decide (k = 3 ∨ k = 2 ∨ k = 30)) (hp : po (bi b) σ) : wp_X0_isLeaf σ (nI i) po := by
  unfold wp_X0_isLeaf
  refine c_nkind hz hi ?_
  rw [hk]
  have eq : ∀ b : Nat, b < 256 → (nI k = nI b ↔ k = b) := fun b hb => nI_eq (by omega) (by omega)
  refine ⟨fun c => ?_, fun c1 => ⟨fun c => ?_, fun c2 => ⟨fun c3 => ?_, fun c => ?_⟩⟩⟩
  · have c := (eq 3 (by omega)).mp c
    rw [e, decide_eq_true (by omega)] at hp
    exact hp
  · have c := (eq 2 (by omega)).mp c
    rw [e, decide_eq_true (by omega)] at hp
    exact hp
  · have c1 : ¬ k = 3 := fun x => c1 ((eq 3 (by omega)).mpr x)
    have c2 : ¬ k = 2 := fun x => c2 ((eq 2 (by omega)).mpr x)
    have c3 : ¬ k = 30 := fun x => c3 ((eq 30 (by omega)).mpr x)
    rw [e, decide_eq_false (by omega)] at hp
    exact hp
  · have c := (eq 30 (by omega)).mp c
    rw [e, decide_eq_true (by omega)] at hp
    exact hp
theorem k_isPair {b : Bool} {σ : WSX0} {i k : Nat} {po : Int32 → WSX0 → Prop} (hz : NW0 σ.1.2 u L) (hi : i < u) (hk : σ.1.2.1.1.2 i = nI k) (hb : k ≤ 131) (e : b = decide (lvl k < 7)) (hp : po (bi b) σ) : wp_X0_isPair σ (nI i) po := by
  unfold wp_X0_isPair
  refine c_nkind hz hi ?_
  rw [hk]
  refine c_level hb ?_
  unfold lv32
  by_cases q : lvl k < 7
  · rw [if_pos q]
    rw [e, decide_eq_true q] at hp
    exact ⟨fun c => absurd c (nI_nem1 (by omega)), fun _ => hp⟩
  · rw [if_neg q]
    rw [e, decide_eq_false q] at hp
    exact ⟨fun _ => hp, fun c => absurd rfl c⟩
theorem k_rightFirst {σ : WSX0} {x y : Tr} {i k : Nat} {po : Int32 → WSX0 → Prop} (nw : NW0 σ.1.2 u L) (hi : i < u) (hk : σ.1.2.1.1.2 i = nI k) (hb : k ≤ 131) (hl : lvl k < 7) (hy : hdC T σ.1.2 y (i - 1)) (hx : hdC T σ.1.2 x (i - 1 - sz T y)) (h0 : sz T x + sz T y + 1 ≤ i + 1) (hnx : nd T x < 2 ^ 31) (hny : nd T y < 2 ^ 31) (hp : po (bi (rF T x y)) σ) : wp_X0_rightFirst σ (nI i) po := by
  have px := sz_pos T x
  have py := sz_pos T y
  obtain ⟨y1, y2, y3, y4⟩ := hy
  obtain ⟨x1, x2, x3, x4⟩ := hx
  unfold wp_X0_rightFirst
  refine k_isPair (b := true) nw hi hk hb (decide_eq_true hl).symm ⟨fun _ => ?_, fun c => absurd c (by decide)⟩
  refine c_nleft nw hi (by omega) y1 ?_
  intro y5 e5
  rw [sub1 (by omega)] at e5
  rw [e5]
  refine c_ncalls nw (by omega) x3 ?_
  have r45 : (cl T x || cl T y) = true → wp_X0_rightFirst_45 po σ (nI (i - 1 - sz T y)) := by
    intro hc
    unfold wp_X0_rightFirst_45
    refine c_ncalls nw (by omega) x3 ?_
    unfold rF at hp
    rw [if_pos hc] at hp
    cases hcx : cl T x with
    | true =>
      rw [hcx] at hp
      exact ⟨fun _ => hp, fun c => absurd c (by decide)⟩
    | false =>
      rw [hcx] at hp
      exact ⟨fun c => absurd rfl c, fun _ => hp⟩
  refine ⟨fun c => r45 (by rw [ne0_t c]; rfl), fun c => c_ncalls nw (by omega) y3 ⟨fun c2 => ?_, fun c2 => r45 (by rw [ne0_t c2, Bool.or_true])⟩⟩
  refine c_nneed nw (by omega) ?_
  rw [y2]
  refine c_nneed nw (by omega) ?_
  rw [x2]
  unfold rF at hp
  rw [eq0_f c, eq0_f c2, if_neg (by decide)] at hp
  refine ⟨fun c3 => ?_, fun c3 => ?_⟩
  · have := (nI_leI (by omega) (by omega)).mp c3
    rw [decide_eq_false (by omega)] at hp
    exact hp
  · have : ¬ nd T y ≤ nd T x := fun c => c3 ((nI_leI (by omega) (by omega)).mpr c)
    rw [decide_eq_true (by omega)] at hp
    exact hp
theorem k_rf0 {σ : WSX0} {i k : Nat} {po : Int32 → WSX0 → Prop} (nw : NW0 σ.1.2 u L) (hi : i < u) (hk : σ.1.2.1.1.2 i = nI k) (hb : k ≤ 131) (hl : ¬ lvl k < 7) (hp : po 0 σ) : wp_X0_rightFirst σ (nI i) po := by
  unfold wp_X0_rightFirst
  exact k_isPair (b := false) nw hi hk hb (decide_eq_false hl).symm ⟨fun c => absurd rfl c, fun _ => hp⟩
/-- a pair's orders -/
theorem k_pair (hz : KZ T g z u L) {i k rd rl rr d1 d2 d3 : Nat} {x1 x2 x3 : Int32} {po : WSX0 → Prop} (hi : i < u) (hk : z.1.2.1.1.2 i = nI k) (hl : lvl k < 7) (e1 : x1 = nI d1) (e2 : x2 = nI d2) (e3 : x3 = nI d3) (f1 : d1 ≤ 25) (f2 : d2 ≤ 25) (f3 : d3 ≤ 25) (g1 : rd = 6 + d1) (g2 : rl = 6 + d2) (g3 : rr = 6 + d3) (ha : a + (if k = 128 ∨ k = 129 then 2 else 1) ≤ 4096)
    (hp : ∀ m' b, OPW m' k rd rl rr a b → (∀ j, j < a → m' j = m j) → b ≤ a + (if k = 128 ∨ k = 129 then 2 else 1) → po (KS z m' ti ba b h q)) : wp_X0_writePair (KS z m ti ba a h q) (nI i) x1 x2 x3 po := by
  have nw := hz.nw (m := m) (ti := ti) (ba := ba) (a := a) (h := h) (q := q)
  have hk131 : k < 256 := by rcases lvl_k hl with e | e | e | e | e | e | e | e | e | e | e | e | e <;> omega
  have eq : ∀ b : Nat, b < 256 → (nI k = nI b ↔ k = b) := fun b hb => nI_eq (by omega) (by omega)
  unfold wp_X0_writePair
  refine c_nkind nw hi ?_
  have hk' : (KS z m ti ba a h q).1.2.1.1.2 i = nI k := hk
  rw [hk']
  refine c_reg e1 f1 ⟨fun c => ?_, fun c1 => ⟨fun c => ?_, fun c2 => ?_⟩⟩
  · have c := (eq 128 (by omega)).mp c
    rw [if_pos (Or.inl c)] at ha
    refine c_reg e3 f3 (c_reg e2 f2 ?_)
    refine w_join (k := 60) (by decide) (by decide) (by decide) (by omega) (by omega) (by omega) (c_emit (by omega) (w_turn rfl rfl (by omega) (by omega) (c_emit (by omega) ?_)))
    refine hp _ _ ?_ (fun j hj => ?_) (by rw [if_pos (Or.inl c)]; omega)
    · unfold OPW
      rw [if_pos c, g1, g2, g3]
      refine ⟨(pk_un (by omega)).trans pk_us, pk_us, rfl⟩
    · exact (pk_un (by omega)).trans (pk_un (by omega))
  · have c1 : ¬ k = 128 := fun x => c1 ((eq 128 (by omega)).mpr x)
    have c := (eq 129 (by omega)).mp c
    rw [if_pos (Or.inr c)] at ha
    refine c_reg e2 f2 (c_reg e3 f3 ?_)
    refine w_join (k := 94) (by decide) (by decide) (by decide) (by omega) (by omega) (by omega) (c_emit (by omega) (w_below rfl rfl (by omega) (by omega) (c_emit (by omega) ?_)))
    refine hp _ _ ?_ (fun j hj => ?_) (by rw [if_pos (Or.inr c)]; omega)
    · unfold OPW
      rw [if_neg c1, if_pos c, g1, g2, g3]
      refine ⟨(pk_un (by omega)).trans pk_us, pk_us, rfl⟩
    · exact (pk_un (by omega)).trans (pk_un (by omega))
  · have c1 : ¬ k = 128 := fun x => c1 ((eq 128 (by omega)).mpr x)
    have c2 : ¬ k = 129 := fun x => c2 ((eq 129 (by omega)).mpr x)
    rw [if_neg (by omega)] at ha
    refine c_reg e2 f2 (c_reg e3 f3 ?_)
    refine w_join hl c1 c2 (by omega) (by omega) (by omega) (c_emit (by omega) ?_)
    refine hp _ _ ?_ (fun j hj => pk_un (by omega)) (by rw [if_neg (by omega)]; omega)
    unfold OPW
    rw [if_neg c1, if_neg c2, g1, g2, g3]
    exact ⟨pk_us, rfl⟩
theorem low12 (n : Int32) : ∃ c : Nat, c = n.toBitVec.toNat % 4096 ∧ ((n <<< ((20 : Int32) &&& 31)) >>> ((20 : Int32) &&& 31)).toInt = if c < 2048 then (c : Int) else (c : Int) - 4096 := by
  refine ⟨_, rfl, ?_⟩
  rw [sh20]
  have hc : n.toBitVec.toNat % 4096 < 4096 := by omega
  generalize n.toBitVec.toNat % 4096 = c at hc
  obtain ⟨_, _, _, _, a5, _⟩ := shm (W := c * 1048576) (by omega)
  rw [a5]
  split <;> split <;> omega
/-- a leaf's orders -/
theorem k_leaf (hz : KZ T g z u L) (hg : g.length ≤ 200) {i f t : Nat} {x : Int32} {po : WSX0 → Prop} (hi : i < u) (hcs : CS T z.1.2 (.leaf t) i) (hcj : CJ T g z.1.2 (.leaf t) i) (hw : TK T t = 2 ∨ TK T t = 3) (ex : x = nI f) (hf : f ≤ 25) (ha : a + LN T t ≤ 4096) (hLN : 0 < LN T t)
    (hp : ∀ m' b, CX T g m' ba (.leaf t) i f h a b → (∀ j, j < a → m' j = m j) → b ≤ a + LN T t → po (KS z m' ti ba b h q)) : wp_X0_writeLeaf (KS z m ti ba a h q) (nI i) x po := by
  have nw := hz.nw (m := m) (ti := ti) (ba := ba) (a := a) (h := h) (q := q)
  unfold wp_X0_writeLeaf
  refine c_nkind nw hi ?_
  have hk' : (KS z m ti ba a h q).1.2.1.1.2 i = nI (TK T t) := hcs.2.1
  rw [hk']
  rw [CJ] at hcj
  rcases hw with K | K
  · rw [K]
    rw [if_neg (by omega)] at hcj
    obtain ⟨k, hk, hvk⟩ := hcj
    refine ⟨fun c => absurd rfl c, fun _ => c_reg ex hf (c_nvalue nw hi ?_)⟩
    have hv' : (KS z m ti ba a h q).1.2.1.2.2.1 i = nI k := hvk
    rw [hv']
    refine c_wordPlace hz hg (fdI_lt g _ k hk) (w_load (by omega) (fr := 0) (by omega) (c_emit (by omega) ?_))
    refine hp _ _ ?_ (fun j hj => pk_un (by omega)) (by omega)
    rw [CX, if_neg (by omega), nmk, hk]
    exact ⟨pk_us, rfl⟩
  · rw [K]
    rw [if_pos K] at hcj
    refine ⟨fun _ => c_nvalue nw hi ?_, fun c => absurd c (by decide)⟩
    have hv' : (KS z m ti ba a h q).1.2.1.2.2.1 i = nI (NB T t) := hcj
    rw [hv']
    intro y5 e5
    obtain ⟨c, ec, hc⟩ := low12 (nI (NB T t))
    rw [← e5] at hc
    have b1 : -2048 ≤ y5.toInt := by rw [hc]; split <;> omega
    have b2 : y5.toInt < 2048 := by rw [hc]; split <;> omega
    refine ⟨fun cn => ?_, fun cy => ?_⟩
    · have l2 : 2 ≤ LN T t := by
        refine LN_num K ?_
        by_cases q10 : 10 ≤ NB T t
        · exact q10
        · exfalso
          apply cn
          have h1 : NB T t < 10 := by omega
          have : ∀ n, n < 10 → ((nI n <<< ((20 : Int32) &&& 31)) >>> ((20 : Int32) &&& 31)) = nI n := by decide
          rw [e5, this _ h1]
      refine c_reg ex hf (w_up (by omega) (c_emit (by omega) (c_reg ex hf (c_reg ex hf (w_add rfl rfl (by omega) (by omega) (c_emit (by omega) ?_))))))
      refine hp _ _ ?_ (fun j hj => (pk_un (by omega)).trans (pk_un (by omega))) (by omega)
      rw [CX, if_pos K]
      refine Or.inr ⟨nI (NB T t) - y5, y5, (pk_un (by omega)).trans pk_us, pk_us, b1, b2, ?_, rfl⟩
      generalize nI (NB T t) = n at ec
      have hx := n.toBitVec.isLt
      have hy := y5.toBitVec.isLt
      have e6 : (n - y5).toBitVec.toNat = (4294967296 - y5.toBitVec.toNat + n.toBitVec.toNat) % 4294967296 := by
        show (n.toBitVec - y5.toBitVec).toNat = _
        rw [BitVec.toNat_sub]
      have e7 : (n - y5).toBitVec.toNat % 4096 = 0 := by
        rw [e6]
        rcases i32_toInt y5 with ⟨a1, a2⟩ | ⟨a1, a2, a3⟩
        · rw [hc] at a1
          split at a1 <;> omega
        · rw [hc] at a1
          split at a1 <;> omega
      have e8 : (n - y5).toBitVec.toNat / 4096 * 4096 = (n - y5).toBitVec.toNat := by omega
      rw [e8, ← of_tn, Int32.sub_add_cancel]
    · rw [cy] at b1 b2
      refine c_reg ex hf (w_add rfl rfl (by omega) (fr := 0) (by omega) (c_emit (by omega) ?_))
      refine hp _ _ ?_ (fun j hj => pk_un (by omega)) (by omega)
      rw [CX, if_pos K]
      exact Or.inl ⟨pk_us, b1, b2, rfl⟩
theorem k_unary (hz : KZ T g z u L) {i k f : Nat} {x : Int32} {po : WSX0 → Prop} (hi : i < u) (hk : z.1.2.1.1.2 i = nI (ku k)) (hU : isU k) (ex : x = nI (6 + f)) (hf : f ≤ 25) (ha : a < 4096)
    (hp : ∀ m', UNW m' k (6 + f) a → (∀ j, j < a → m' j = m j) → po (KS z m' ti ba (a + 1) h q)) : wp_X0_writeUnary (KS z m ti ba a h q) (nI i) x po := by
  have nw := hz.nw (m := m) (ti := ti) (ba := ba) (a := a) (h := h) (q := q)
  rw [ex]
  unfold wp_X0_writeUnary
  refine c_nkind nw hi ?_
  have hk' : (KS z m ti ba a h q).1.2.1.1.2 i = nI (ku k) := hk
  rw [hk']
  rcases hU with e | e | e
  · rw [e]
    refine ⟨fun _ => ?_, fun c => absurd rfl c⟩
    refine w_join (k := 45) (rl := 0) (by decide) (by decide) (by decide) (by omega) (by omega) (by omega) (c_emit (by omega) ?_)
    refine hp _ ?_ (fun j hj => pk_un (by omega))
    unfold UNW
    rw [if_pos e]
    exact pk_us
  · rw [e]
    refine ⟨fun c => absurd c (by decide), fun _ => ⟨fun _ => ?_, fun c => absurd rfl c⟩⟩
    refine w_turn rfl rfl (by omega) (by omega) (c_emit (by omega) ?_)
    refine hp _ ?_ (fun j hj => pk_un (by omega))
    unfold UNW
    rw [if_neg (by omega), if_pos e]
    exact pk_us
  · rw [e]
    refine ⟨fun c => absurd c (by decide), fun _ => ⟨fun c => absurd c (by decide), fun _ => ?_⟩⟩
    refine w_below rfl rfl (by omega) (by omega) (c_emit (by omega) ?_)
    refine hp _ ?_ (fun j hj => pk_un (by omega))
    unfold UNW
    rw [if_neg (by omega), if_neg (by omega)]
    exact pk_us
end CExpr
