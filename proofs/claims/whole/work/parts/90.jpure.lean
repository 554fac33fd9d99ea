section Jpure
theorem num_tok {T : TX} {t : Nat} (h : TK T t = 3) : PL T t + LN T t ≤ T.2 ∧ (∀ i, i < LN T t → isDig (T.1 (PL T t + i)) = true) ∧ NB T t = dv T (PL T t) (LN T t) ∧ NB T t ≤ 2147483647 ∧ 0 < LN T t := by
  have hk := h
  unfold TK at h
  unfold LN NB
  by_cases hlt : PL T t < T.2
  · cases e1 : isLet (T.1 (PL T t)) with
    | true =>
      obtain ⟨k1, k2, _⟩ := kdA_let hlt e1
      rw [k1] at h
      have := wK_r T (PL T t) (nmE T (PL T t) - PL T t)
      split at h <;> omega
    | false =>
      cases e2 : isDig (T.1 (PL T t)) with
      | true =>
        obtain ⟨k1, k2⟩ := kdA_dig hlt e2
        have h1 := dgE_gt hlt e2
        have h2 := (dgE_le (T := T) (p := PL T t) (by omega)).2
        have en : nbA T (PL T t) = dv T (PL T t) (lnA T (PL T t)) := if_pos h
        rw [k2] at en ⊢
        rw [k1] at h
        refine ⟨by omega, fun i hi => ?_, en, ?_, by omega⟩
        · exact (pb_iff.mp (scan_all (pb isDig T) _ _ _ (by omega) (show PL T t + i < dgE T (PL T t) by omega))).2
        · rw [en]
          split at h
          · rename_i q
            unfold numOk at q
            split at q
            · assumption
            · exact absurd q (by decide)
          · omega
      | false =>
        rw [(kdA_sg hlt e1 e2).1] at h
        exact absurd h (sgK_ne3 _ _)
  · rw [(kdA_end hlt).1] at h
    omega
theorem m_number {τ : SX12} {T : TX} {N t : Nat} {post : Int32 → SX12 → Prop} (h : TM τ T) (hL : LM τ T N) (hN : N ≤ 3001) (ht : t < N) (hk : TK T t = 3) (hp : post (nI (NB T t)) τ) : wp_X12_number τ (nI t) post := by
  have hn := h.2.1
  obtain ⟨a1, a2, a3, a4, a5⟩ := num_tok hk
  have lt : τ.1.1.1.2.2.2 t = nI (LN T t) := (hL _ ht).2.2
  have pt : τ.1.1.1.2.2.1 t = nI (PL T t) := (hL _ ht).2.1
  have lp : ∀ m i, m = LN T t - i → i ≤ LN T t → wp_X12_number_5 post (m + 1) τ (nI t) (lN (dv T (PL T t) i)) (nI i) := by
    intro m
    induction m with
    | zero =>
      intro i hm hi
      show wb_X12_number_5 post _ τ (nI t) (lN (dv T (PL T t) i)) (nI i)
      refine ⟨in_k (by omega) (by omega), fun _ => ?_, fun c => absurd ?_ c⟩
      · rw [lN_i, show i = LN T t by omega, ← a3]
        exact hp
      · rw [nI_clamp (by omega), lt]
        exact nI_le (by omega) (by omega)
    | succ m ih =>
      intro i hm hi
      show wb_X12_number_5 post _ τ (nI t) (lN (dv T (PL T t) i)) (nI i)
      have hd := isDig_iff.mp (a2 i (by omega))
      refine ⟨in_k (by omega) (by omega), fun c => absurd c ?_, fun _ => ⟨in_k (by omega) (by omega), ?_⟩⟩
      · rw [nI_clamp (by omega), lt]
        exact nI_ge (by omega) (by omega)
      · rw [nI_clamp (by omega), pt, nI_add]
        refine m_byteAt h (by omega) (fun y ey => ?_)
        have e10 : (10 : Int64) = lN 10 := rfl
        have e48 : (48 : Int64) = lN 48 := rfl
        have bb : bt T (PL T t + i) = T.1 (PL T t + i) := if_pos (by omega)
        have hdv : dv T (PL T t) (i + 1) = dv T (PL T t) i * 10 + (T.1 (PL T t + i) - 48) := rfl
        rw [bb, nI_l (by omega), e10, e48, lN_mul, lN_add, lN_sub (by omega)] at ey
        have w := ih (i + 1) (by omega) (by omega)
        rw [← nI_1, hdv, show dv T (PL T t) i * 10 + (T.1 (PL T t + i) - 48) = 10 * dv T (PL T t) i + T.1 (PL T t + i) - 48 by omega, ← ey] at w
        exact w
  exact ⟨_, lp _ 0 rfl (by omega)⟩
/-! the names of a program -/
def dsz (T : TX) (x : DD) : Nat := if x.2.2 = true then NB T (ntk x + 2) else 1
def dsec (T : TX) (x : DD) : Bool := decide (TK T x.1 = 5)
def wds (T : TX) : List DD → Nat
  | [] => 0
  | x :: g => dsz T x + wds T g
theorem wds_app (T : TX) : ∀ (g h : List DD), wds T (g ++ h) = wds T g + wds T h := by
  intro g h
  induction g with
  | nil => show wds T h = 0 + wds T h; omega
  | cons x g ih =>
    show dsz T x + wds T (g ++ h) = dsz T x + wds T g + wds T h
    rw [ih]; omega
def gx (g : List DD) (k : Nat) : DD := (g[k]?).getD (0, false, false)
theorem gx_lt {g : List DD} {x : DD} {k : Nat} (h : k < g.length) : gx (g ++ [x]) k = gx g k := by
  unfold gx
  rw [List.getElem?_append_left h]
theorem gx_eq {g : List DD} {x : DD} : gx (g ++ [x]) g.length = x := by
  unfold gx
  rw [List.getElem?_append_right (Nat.le_refl _), Nat.sub_self]
  rfl
theorem tk_lt {g : List DD} {x : DD} {k : Nat} (h : k ≤ g.length) : (g ++ [x]).take k = g.take k := List.take_append_of_le_length h
theorem gx_mem {g : List DD} {k : Nat} (h : k < g.length) : gx g k ∈ g := by
  unfold gx
  rw [List.getElem?_eq_getElem h]
  exact List.getElem_mem h
def iwF (T : TX) : List DD → Nat → List (Nat × Bool)
  | [], _ => []
  | x :: g, w => (if x.2.1 = true then (List.range (dsz T x)).map (fun i => (w + i, dsec T x)) else []) ++ iwF T g (w + dsz T x)
theorem iwF_app (T : TX) (x : DD) : ∀ (g : List DD) (w : Nat), iwF T (g ++ [x]) w = iwF T g w ++ (if x.2.1 = true then (List.range (dsz T x)).map (fun i => (w + wds T g + i, dsec T x)) else []) := by
  intro g
  induction g with
  | nil =>
    intro w
    show (if x.2.1 = true then _ else _) ++ [] = [] ++ _
    rw [List.append_nil, List.nil_append]
    rfl
  | cons y g ih =>
    intro w
    show (if y.2.1 = true then _ else _) ++ iwF T (g ++ [x]) (w + dsz T y) = ((if y.2.1 = true then _ else _) ++ iwF T g (w + dsz T y)) ++ _
    rw [ih, List.append_assoc]
    congr 1
    congr 1
    rw [show w + wds T (y :: g) = w + dsz T y + wds T g by show w + (dsz T y + wds T g) = _; omega]
theorem iwF_len (T : TX) : ∀ (g : List DD) (w : Nat), (iwF T g w).length ≤ wds T g := by
  intro g
  induction g with
  | nil => intro w; exact Nat.le_refl _
  | cons y g ih =>
    intro w
    have := ih (w + dsz T y)
    show ((if y.2.1 = true then _ else _) ++ iwF T g (w + dsz T y)).length ≤ dsz T y + wds T g
    rw [List.length_append]
    split
    · rw [List.length_map, List.length_range]; omega
    · show 0 + _ ≤ _; omega
theorem iwF_word (T : TX) : ∀ (g : List DD) (w : Nat) (p : Nat × Bool), p ∈ iwF T g w → w ≤ p.1 ∧ p.1 < w + wds T g := by
  intro g
  induction g with
  | nil => intro w p h; cases h
  | cons y g ih =>
    intro w p h
    have e : wds T (y :: g) = dsz T y + wds T g := rfl
    rcases List.mem_append.mp h with h | h
    · split at h
      · obtain ⟨i, hi, rfl⟩ := List.mem_map.mp h
        have := List.mem_range.mp hi
        show w ≤ w + i ∧ w + i < _
        omega
      · cases h
    · have := ih _ p h
      omega
def pbc : List (Nat × Bool) → Nat
  | [] => 0
  | p :: l => (if p.2 = true then 0 else 1) + pbc l
theorem pbc_app : ∀ (l m : List (Nat × Bool)), pbc (l ++ m) = pbc l + pbc m := by
  intro l m
  induction l with
  | nil => show pbc m = 0 + pbc m; omega
  | cons p l ih => show (if p.2 = true then 0 else 1) + pbc (l ++ m) = (if p.2 = true then 0 else 1) + pbc l + pbc m; rw [ih]; omega
theorem pbc_le : ∀ (l : List (Nat × Bool)), pbc l ≤ l.length := by
  intro l
  induction l with
  | nil => exact Nat.le_refl _
  | cons p l ih => show (if p.2 = true then 0 else 1) + pbc l ≤ l.length + 1; split <;> omega
def ix (l : List (Nat × Bool)) (j : Nat) : Nat × Bool := (l[j]?).getD (0, false)
theorem ix_lt {l m : List (Nat × Bool)} {j : Nat} (h : j < l.length) : ix (l ++ m) j = ix l j := by
  unfold ix
  rw [List.getElem?_append_left h]
theorem ix_eq {l : List (Nat × Bool)} {p : Nat × Bool} : ix (l ++ [p]) l.length = p := by
  unfold ix
  rw [List.getElem?_append_right (Nat.le_refl _), Nat.sub_self]
  rfl
theorem ix_mem {l : List (Nat × Bool)} {k : Nat} (h : k < l.length) : ix l k ∈ l := by
  unfold ix
  rw [List.getElem?_eq_getElem h]
  exact List.getElem_mem h
/-- names that were declared rightly -/
def GV (T : TX) (N : Nat) (g : List DD) : Prop := (∀ x, x ∈ g → WFD T N x ∧ 1 ≤ dsz T x ∧ dsz T x ≤ 64) ∧ wds T g ≤ 200
theorem GV.len {T : TX} {N : Nat} {g : List DD} (h : GV T N g) : g.length ≤ wds T g := by
  have : ∀ (g : List DD), (∀ x, x ∈ g → 1 ≤ dsz T x) → g.length ≤ wds T g := by
    intro g
    induction g with
    | nil => intro _; exact Nat.le_refl _
    | cons x g ih =>
      intro h
      have h1 := h x List.mem_cons_self
      have h2 := ih (fun y hy => h y (List.mem_cons_of_mem _ hy))
      show g.length + 1 ≤ dsz T x + wds T g
      omega
  exact this g (fun x hx => (h.1 x hx).2.1)
theorem wds_take {T : TX} {g : List DD} : ∀ {k : Nat}, k < g.length → wds T (g.take k) + dsz T (gx g k) ≤ wds T g := by
  induction g with
  | nil => intro k h; exact absurd h (by simp)
  | cons x g ih =>
    intro k h
    cases k with
    | zero =>
      show 0 + dsz T x ≤ dsz T x + wds T g
      omega
    | succ k =>
      have := ih (k := k) (by simpa using h)
      show dsz T x + wds T (g.take k) + dsz T (gx g k) ≤ dsz T x + wds T g
      omega
/-- what the class keeps of names -/
def NC (T : TX) (g : List DD) (s : SX3) : Prop := s.2.1.2 = nI g.length ∧ s.2.2.1 = nI (wds T g) ∧
  (∀ k, k < g.length → s.1.1.1 k = nI (PL T (ntk (gx g k))) ∧ s.1.1.2 k = nI (wds T (g.take k)) ∧ s.1.2.1 k = nI (if (gx g k).2.2 = true then dsz T (gx g k) else 0) ∧ s.1.2.2.1 k = nI (mann T (gx g k))) ∧
  s.2.2.2.1 = nI (iwF T g 0).length ∧ s.2.2.2.2 = nI (pbc (iwF T g 0)) ∧
  (∀ j, j < (iwF T g 0).length → s.1.2.2.2 j = nI (ix (iwF T g 0) j).1 ∧ s.2.1.1 j = bi (ix (iwF T g 0) j).2)
/-- and the reference -/
def NM (T : TX) (g : List DD) (τ : SX12) : Prop := τ.1.2.1.2.1 = nI g.length ∧ τ.1.2.2.2.1.1 = nI (wds T g) ∧
  (∀ k, k < g.length → τ.1.2.1.2.2.1 k = nI (ntk (gx g k)) ∧ τ.1.2.1.2.2.2 k = nI (dsz T (gx g k)) ∧ τ.1.2.2.1.1 k = nI (wds T (g.take k)) ∧ τ.1.2.2.1.2.1 k = bi (gx g k).2.2 ∧ τ.1.2.2.1.2.2 k = bi (dsec T (gx g k))) ∧
  τ.1.2.2.2.1.2 = nI (iwF T g 0).length ∧ τ.1.2.2.2.2.1 = nI (pbc (iwF T g 0)) ∧
  (∀ j, j < (iwF T g 0).length → τ.1.2.2.2.2.2 j = nI (ix (iwF T g 0) j).1)
theorem PLs_of {T : TX} {f : Nat → Int32} : ∀ (s : List DD) (k : Nat), (∀ j, j < s.length → f (k + j) = nI (PL T (ntk (gx s j))) ∧ TK T (ntk (gx s j)) = 2) → PLs T f s k := by
  intro s
  induction s with
  | nil => intro k _; trivial
  | cons x s ih =>
    intro k h
    have h0 := h 0 (by simp)
    refine ⟨h0.1, h0.2, ih (k + 1) (fun j hj => ?_)⟩
    have := h (j + 1) (by simpa using hj)
    rw [show k + 1 + j = k + (j + 1) by omega]
    exact this
theorem NTs_of {T : TX} {N : Nat} {f : Nat → Int32} : ∀ (s : List DD) (k : Nat), (∀ j, j < s.length → f (k + j) = nI (ntk (gx s j)) ∧ TK T (ntk (gx s j)) = 2 ∧ ntk (gx s j) < N) → NTs T N f s k := by
  intro s
  induction s with
  | nil => intro k _; trivial
  | cons x s ih =>
    intro k h
    have h0 := h 0 (by simp)
    refine ⟨h0.1, h0.2.1, h0.2.2, ih (k + 1) (fun j hj => ?_)⟩
    have := h (j + 1) (by simpa using hj)
    rw [show k + 1 + j = k + (j + 1) by omega]
    exact this
theorem ntk_lt {T : TX} {N : Nat} {x : DD} (h : WFD T N x) : ntk x < N := by
  have := h.2.2.2.2.2.2
  unfold ndk at this
  omega
theorem c_findN {σ : WSX3} {T : TX} {N : Nat} {g : List DD} {t : Nat} {post : Int32 → WSX3 → Prop} (h : TC σ.2 T) (hv : GV T N g) (hc : NC T g σ.1) (ht : TK T t = 2) (hp : post (rI 0 (fdI T g t)) σ) : wp_X3_find σ (nI (PL T t)) post := by
  have hl := hv.len
  have hw := hv.2
  refine c_find h hc.1 (by omega) (PLs_of g 0 (fun j hj => ?_)) ht hp
  rw [Nat.zero_add]
  exact ⟨(hc.2.2.1 j hj).1, (hv.1 _ (gx_mem hj)).1.2.2.1⟩
theorem m_findN {τ : SX12} {T : TX} {N : Nat} {g : List DD} {t : Nat} {post : Int32 → SX12 → Prop} (h : TM τ T) (hL : LM τ T N) (hN : N ≤ 3001) (hv : GV T N g) (hm : NM T g τ) (ht : TK T t = 2) (htN : t < N) (hp : post (rI 0 (fdI T g t)) τ) : wp_X12_find τ (nI t) post := by
  have hl := hv.len
  have hw := hv.2
  refine m_find h hL hN hm.1 (by omega) (NTs_of g 0 (fun j hj => ?_)) ht htN hp
  rw [Nat.zero_add]
  have hx := (hv.1 _ (gx_mem hj)).1
  exact ⟨(hm.2.2.1 j hj).1, hx.2.2.1, ntk_lt hx⟩
end Jpure
