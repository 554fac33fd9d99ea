section Code
variable {ι : Type}
theorem FX.cons {n n1 : Nat} {m r m1 r1 : ι → Nat → Int32} {p p1 : Nat} {Q : (ι → Nat → Int32) → (ι → Nat → Int32) → Nat → Prop} (h : FX 1 m r p (fun m' r' p' => m' = m1 ∧ r' = r1 ∧ p' = p1)) (k : FX n m1 r1 p1 Q) (hn : n + 1 ≤ n1) : FX n1 m r p Q := by
  refine FX.seq (b := n) h (fun m' r' p' e => ?_) (by omega)
  obtain ⟨e1, e2, e3⟩ := e
  rw [e1, e2, e3]
  exact k
theorem wr_s {f : Nat → Int32} {to : Nat} {v : Int32} (h : ¬ to = 0) : wr f to v to = v := by
  unfold wr
  rw [if_neg h]
  exact pk_us
theorem wr_n {f : Nat → Int32} {to j : Nat} {v : Int32} (h : ¬ j = to) : wr f to v j = f j := by
  unfold wr
  split
  · rfl
  · exact pk_un h
/-! what is written for an EXPR -/
def nrw : List DD → Nat
  | [] => 0
  | x :: g => (if x.2.2 = true then 1 else 0) + nrw g
def rF (T : TX) (x y : Tr) : Bool := if (cl T x || cl T y) = true then !(cl T x) else decide (nd T x < nd T y)
def OPW (M : Nat → Int32) (k rd rl rr d b : Nat) : Prop := if k = 128 then M d = wR 0 2 rd rr rl ∧ M (d + 1) = wI 4 rd rd 1 ∧ b = d + 2 else if k = 129 then M d = wR 0 4 rd rl rr ∧ M (d + 1) = wI 3 rd rd 1 ∧ b = d + 2 else M d = wR (uF k) (kF k) rd rl rr ∧ b = d + 1
def UNW (M : Nat → Int32) (k rd c : Nat) : Prop := if k = 45 then M c = wR 32 0 rd 0 rd else if k = 126 then M c = wI 4 rd rd (-1) else M c = wI 3 rd rd 1
def LNW (M : Nat → Int32) (n : Int32) (rd a b : Nat) : Prop := (M a = wI 0 rd 0 n ∧ -2048 ≤ n.toInt ∧ n.toInt < 2048 ∧ b = a + 1) ∨ (∃ hi lo : Int32, M a = wU rd hi ∧ M (a + 1) = wI 0 rd rd lo ∧ -2048 ≤ lo.toInt ∧ lo.toInt < 2048 ∧ nI (hi.toBitVec.toNat / 4096 * 4096) + lo = n ∧ b = a + 2)
def CX (T : TX) (g : List DD) (M B : Nat → Int32) : Tr → Nat → Nat → Nat → Nat → Nat → Prop
  | .leaf t, _, f, _, a, b => if TK T t = 3 then LNW M (nI (NB T t)) (6 + f) a b else M a = wL (6 + f) 0 (nI (4 * fw T g (nmk T g t))) ∧ b = a + 1
  | .branch p x y, i, f, h, a, b => if p % 2 = 1 then
      (if rF T x y = true then ∃ c d, CX T g M B y (i - 1) f h a c ∧ CX T g M B x (i - 1 - sz T y) (f + 1) h c d ∧ OPW M (TK T (p / 2)) (6 + f) (7 + f) (6 + f) d b
      else if cl T y = true then ∃ c d, CX T g M B x (i - 1 - sz T y) f h a c ∧ M c = wS 6 0 (1200 + 4 * h) ∧ CX T g M B y (i - 1) 0 (h + 1) (c + 1) d ∧ M d = wL 7 0 (nI (1200 + 4 * h)) ∧ OPW M (TK T (p / 2)) 6 7 6 (d + 1) b
      else ∃ c d, CX T g M B x (i - 1 - sz T y) f h a c ∧ CX T g M B y (i - 1) (f + 1) h c d ∧ OPW M (TK T (p / 2)) (6 + f) (6 + f) (7 + f) d b)
    else if TK T (p / 2) = 2 then ∃ c, CX T g M B x (i - 1) f h a c ∧ M c = wJ 1 (nI (4 * (530 + 5 * nrw (g.take (nmk T g (p / 2))))) - nI (4 * c)) ∧ b = c + 1 ∧ B i = nI (4 * b)
    else ∃ c, CX T g M B x (i - 1) f h a c ∧ UNW M (TK T (p / 2)) (6 + f) c ∧ b = c + 1
theorem OPW.le {M : Nat → Int32} {k rd rl rr d b : Nat} (h : OPW M k rd rl rr d b) : d < b := by
  unfold OPW at h
  split at h
  · omega
  · split at h <;> omega
theorem LNW.le {M : Nat → Int32} {n : Int32} {rd a b : Nat} (h : LNW M n rd a b) : a < b := by
  rcases h with ⟨_, _, _, h⟩ | ⟨_, _, _, _, _, _, _, h⟩ <;> omega
theorem CX.le {T : TX} {g : List DD} {M B : Nat → Int32} : ∀ (e : Tr) (i f h a b : Nat), CX T g M B e i f h a b → a < b := by
  intro e
  induction e with
  | leaf t =>
    intro i f h a b hc
    rw [CX] at hc
    split at hc
    · exact hc.le
    · omega
  | branch p x y ihx ihy =>
    intro i f h a b hc
    rw [CX] at hc
    split at hc
    · split at hc
      · obtain ⟨c, d, h1, h2, h3⟩ := hc
        have := ihy _ _ _ _ _ h1
        have := ihx _ _ _ _ _ h2
        have := h3.le
        omega
      · split at hc
        · obtain ⟨c, d, h1, h2, h3, h4, h5⟩ := hc
          have := ihx _ _ _ _ _ h1
          have := ihy _ _ _ _ _ h3
          have := h5.le
          omega
        · obtain ⟨c, d, h1, h2, h3⟩ := hc
          have := ihx _ _ _ _ _ h1
          have := ihy _ _ _ _ _ h2
          have := h3.le
          omega
    · split at hc
      · obtain ⟨c, h1, h2, h3, h4⟩ := hc
        have := ihx _ _ _ _ _ h1
        omega
      · obtain ⟨c, h1, h2, h3⟩ := hc
        have := ihx _ _ _ _ _ h1
        omega
theorem OPW.fr {M M' : Nat → Int32} {k rd rl rr d b : Nat} (h : OPW M k rd rl rr d b) (hm : ∀ j, d ≤ j → j < b → M' j = M j) : OPW M' k rd rl rr d b := by
  have hl := h.le
  unfold OPW at h ⊢
  split
  · rename_i q
    rw [if_pos q] at h
    rw [hm d (by omega) (by omega), hm (d + 1) (by omega) (by omega)]
    exact h
  · rename_i q
    rw [if_neg q] at h
    split
    · rename_i q2
      rw [if_pos q2] at h
      rw [hm d (by omega) (by omega), hm (d + 1) (by omega) (by omega)]
      exact h
    · rename_i q2
      rw [if_neg q2] at h
      rw [hm d (by omega) (by omega)]
      exact h
theorem UNW.fr {M M' : Nat → Int32} {k rd c : Nat} (h : UNW M k rd c) (hm : M' c = M c) : UNW M' k rd c := by
  unfold UNW at h ⊢
  rw [hm]
  exact h
theorem LNW.fr {M M' : Nat → Int32} {n : Int32} {rd a b : Nat} (h : LNW M n rd a b) (hm : ∀ j, a ≤ j → j < b → M' j = M j) : LNW M' n rd a b := by
  rcases h with ⟨h1, h2, h3, h4⟩ | ⟨x, y, h1, h2, h3, h4, h5, h6⟩
  · exact Or.inl ⟨by rw [hm a (by omega) (by omega)]; exact h1, h2, h3, h4⟩
  · exact Or.inr ⟨x, y, by rw [hm a (by omega) (by omega)]; exact h1, by rw [hm (a + 1) (by omega) (by omega)]; exact h2, h3, h4, h5, h6⟩
theorem CX.fr {T : TX} {g : List DD} {M B M' B' : Nat → Int32} : ∀ (e : Tr) (i f h a b : Nat), CX T g M B e i f h a b → sz T e ≤ i + 1 → (∀ j, a ≤ j → j < b → M' j = M j) → (∀ j, i + 1 ≤ j + sz T e → j ≤ i → B' j = B j) → CX T g M' B' e i f h a b := by
  intro e
  induction e with
  | leaf t =>
    intro i f h a b hc hi hm hb
    rw [CX] at hc ⊢
    split
    · rename_i q
      rw [if_pos q] at hc
      exact hc.fr hm
    · rename_i q
      rw [if_neg q] at hc
      rw [hm a (by omega) (by omega)]
      exact hc
  | branch p x y ihx ihy =>
    intro i f h a b hc hi hm hb
    have px := sz_pos T x
    have py := sz_pos T y
    have hsz : sz T (.branch p x y) = if p % 2 = 1 then sz T x + sz T y + 1 else if TK T (p / 2) = 2 then sz T x + 2 else sz T x + 1 := rfl
    rw [hsz] at hi hb
    rw [CX] at hc ⊢
    by_cases q : p % 2 = 1
    · rw [if_pos q] at hc hi ⊢
      simp only [if_pos q] at hb
      by_cases q2 : rF T x y = true
      · rw [if_pos q2] at hc ⊢
        obtain ⟨c, d, h1, h2, h3⟩ := hc
        have l1 := CX.le _ _ _ _ _ _ h1
        have l2 := CX.le _ _ _ _ _ _ h2
        have l3 := h3.le
        exact ⟨c, d, ihy _ _ _ _ _ h1 (by omega) (fun j j1 j2 => hm j (by omega) (by omega)) (fun j j1 j2 => hb j (by omega) (by omega)), ihx _ _ _ _ _ h2 (by omega) (fun j j1 j2 => hm j (by omega) (by omega)) (fun j j1 j2 => hb j (by omega) (by omega)), h3.fr (fun j j1 j2 => hm j (by omega) (by omega))⟩
      · rw [if_neg q2] at hc ⊢
        by_cases q3 : cl T y = true
        · rw [if_pos q3] at hc ⊢
          obtain ⟨c, d, h1, h2, h3, h4, h5⟩ := hc
          have l1 := CX.le _ _ _ _ _ _ h1
          have l2 := CX.le _ _ _ _ _ _ h3
          have l3 := h5.le
          refine ⟨c, d, ihx _ _ _ _ _ h1 (by omega) (fun j j1 j2 => hm j (by omega) (by omega)) (fun j j1 j2 => hb j (by omega) (by omega)), by rw [hm c (by omega) (by omega)]; exact h2, ihy _ _ _ _ _ h3 (by omega) (fun j j1 j2 => hm j (by omega) (by omega)) (fun j j1 j2 => hb j (by omega) (by omega)), by rw [hm d (by omega) (by omega)]; exact h4, h5.fr (fun j j1 j2 => hm j (by omega) (by omega))⟩
        · rw [if_neg q3] at hc ⊢
          obtain ⟨c, d, h1, h2, h3⟩ := hc
          have l1 := CX.le _ _ _ _ _ _ h1
          have l2 := CX.le _ _ _ _ _ _ h2
          have l3 := h3.le
          exact ⟨c, d, ihx _ _ _ _ _ h1 (by omega) (fun j j1 j2 => hm j (by omega) (by omega)) (fun j j1 j2 => hb j (by omega) (by omega)), ihy _ _ _ _ _ h2 (by omega) (fun j j1 j2 => hm j (by omega) (by omega)) (fun j j1 j2 => hb j (by omega) (by omega)), h3.fr (fun j j1 j2 => hm j (by omega) (by omega))⟩
    · rw [if_neg q] at hc hi ⊢
      simp only [if_neg q] at hb
      by_cases q2 : TK T (p / 2) = 2
      · rw [if_pos q2] at hc hi ⊢
        simp only [if_pos q2] at hb
        obtain ⟨c, h1, h2, h3, h4⟩ := hc
        have l1 := CX.le _ _ _ _ _ _ h1
        exact ⟨c, ihx _ _ _ _ _ h1 (by omega) (fun j j1 j2 => hm j (by omega) (by omega)) (fun j j1 j2 => hb j (by omega) (by omega)), by rw [hm c (by omega) (by omega)]; exact h2, h3, by rw [hb i (by omega) (by omega)]; exact h4⟩
      · rw [if_neg q2] at hc hi ⊢
        simp only [if_neg q2] at hb
        obtain ⟨c, h1, h2, h3⟩ := hc
        have l1 := CX.le _ _ _ _ _ _ h1
        exact ⟨c, ihx _ _ _ _ _ h1 (by omega) (fun j j1 j2 => hm j (by omega) (by omega)) (fun j j1 j2 => hb j (by omega) (by omega)), h2.fr (hm c (by omega) (by omega)), h3⟩
/-- the machine does an operator -/
theorem uk_ok {k : Nat} (h : lvl k < 7) : rok (uF k) (kF k) := by
  rcases lvl_k h with rfl | rfl | rfl | rfl | rfl | rfl | rfl | rfl | rfl | rfl | rfl | rfl | rfl <;> first | exact Or.inl ⟨rfl, (by decide : (_ : Nat) < 8)⟩ | exact Or.inr (Or.inl ⟨rfl, Or.inl rfl⟩) | exact Or.inr (Or.inl ⟨rfl, Or.inr rfl⟩) | exact Or.inr (Or.inr ⟨rfl, Or.inl rfl⟩) | exact Or.inr (Or.inr ⟨rfl, Or.inr (Or.inl rfl)⟩) | exact Or.inr (Or.inr ⟨rfl, Or.inr (Or.inr rfl)⟩)
theorem two_128 (x y : Int32) : jv (nI 4) (rv 0 2 y x) 1 = two 128 x y := by
  unfold two
  rw [if_pos rfl]
theorem two_129 (x y : Int32) : jv (nI 3) (rv 0 4 x y) 1 = two 129 x y := by
  unfold two
  rw [if_neg (by decide), if_pos rfl]
theorem dv_1 {k : Nat} (h : lvl k < 7) (c : uF k = 1) (c2 : ¬ kF k = 0) : isDv k = true := by
  rcases lvl_k h with rfl | rfl | rfl | rfl | rfl | rfl | rfl | rfl | rfl | rfl | rfl | rfl | rfl <;> first | rfl | (exact absurd c (by decide)) | (exact absurd rfl c2)
theorem sim_op {m r : ι → Nat → Int32} {M : Nat → Int32} {k rd rl rr d b : Nat} {Q : (ι → Nat → Int32) → (ι → Nat → Int32) → Nat → Prop} (hk : lvl k < 7) (ho : OPW M k rd rl rr d b) (hM : ∀ i j, 512 ≤ j → j < 4096 → m i j = M j) (hd : 512 ≤ d) (hb : b ≤ 4096) (h1 : rd < 32) (h2 : rl < 32) (h3 : rr < 32) (h0 : ¬ rd = 0)
    (hv : isDv k = true → ∃ x y, ∀ i, r i rl = x ∧ r i rr = y) (hq : ∀ r' : ι → Nat → Int32, (∀ i, r' i rd = two k (r i rl) (r i rr)) → (∀ i j, ¬ j = rd → r' i j = r i j) → Q m r' b) : FX (6 * (b - d)) m r d Q := by
  have hl := ho.le
  have one1 : -2048 ≤ (1 : Int32).toInt := by decide
  have one2 : (1 : Int32).toInt < 2048 := by decide
  unfold OPW at ho
  by_cases q : k = 128
  · rw [if_pos q] at ho
    obtain ⟨w1, w2, w3⟩ := ho
    refine FX.cons (n := 1) (fx_reg (u := 0) (k := 2) (by omega) (fun i => (hM i d hd (by omega)).trans w1) (Or.inl ⟨rfl, by omega⟩) (fun c => absurd c (by omega)) h1 h3 h2 ⟨rfl, rfl, rfl⟩) ?_ (by omega)
    refine fx_num (k := 4) (to := rd) (fr := rd) (x := 1) (by omega) (fun i => (hM i (d + 1) (by omega) (by omega)).trans w2) (by omega) h1 h1 one1 one2 (fun c => absurd c (by omega)) ?_
    rw [show d + 1 + 1 = b by omega]
    refine hq _ (fun i => ?_) (fun i j hj => ?_)
    · show wr _ rd _ rd = _
      rw [wr_s h0, wr_s h0, q]
      exact two_128 _ _
    · show wr (wr _ rd _) rd _ j = _
      rw [wr_n hj, wr_n hj]
  · rw [if_neg q] at ho
    by_cases q2 : k = 129
    · rw [if_pos q2] at ho
      obtain ⟨w1, w2, w3⟩ := ho
      refine FX.cons (n := 1) (fx_reg (u := 0) (k := 4) (by omega) (fun i => (hM i d hd (by omega)).trans w1) (Or.inl ⟨rfl, by omega⟩) (fun c => absurd c (by omega)) h1 h2 h3 ⟨rfl, rfl, rfl⟩) ?_ (by omega)
      refine fx_num (k := 3) (to := rd) (fr := rd) (x := 1) (by omega) (fun i => (hM i (d + 1) (by omega) (by omega)).trans w2) (by omega) h1 h1 one1 one2 (fun c => absurd c (by omega)) ?_
      rw [show d + 1 + 1 = b by omega]
      refine hq _ (fun i => ?_) (fun i j hj => ?_)
      · show wr _ rd _ rd = _
        rw [wr_s h0, wr_s h0, q2]
        exact two_129 _ _
      · show wr (wr _ rd _) rd _ j = _
        rw [wr_n hj, wr_n hj]
    · rw [if_neg q2] at ho
      obtain ⟨w1, w3⟩ := ho
      refine FX.le (a := 1) (fx_reg (u := uF k) (k := kF k) (to := rd) (x := rl) (y := rr) (by omega) (fun i => (hM i d hd (by omega)).trans w1) (uk_ok hk) (fun c c2 => hv (dv_1 hk c c2)) h1 h2 h3 ?_) (by omega)
      · rw [show d + 1 = b by omega]
        refine hq _ (fun i => ?_) (fun i j hj => ?_)
        · show wr _ rd _ rd = _
          rw [wr_s h0, two, if_neg q, if_neg q2]
        · exact wr_n hj
theorem sim_un {m r : ι → Nat → Int32} {M : Nat → Int32} {k rd c : Nat} {Q : (ι → Nat → Int32) → (ι → Nat → Int32) → Nat → Prop} (hw : UNW M k rd c) (hM : ∀ i j, 512 ≤ j → j < 4096 → m i j = M j) (hc : 512 ≤ c) (hc2 : c < 4096) (h1 : rd < 32) (h0 : ¬ rd = 0) (hz : ∀ i, r i 0 = 0)
    (hq : ∀ r' : ι → Nat → Int32, (∀ i, r' i rd = one k (r i rd)) → (∀ i j, ¬ j = rd → r' i j = r i j) → Q m r' (c + 1)) : FX 1 m r c Q := by
  unfold UNW at hw
  by_cases q : k = 45
  · rw [if_pos q] at hw
    refine fx_reg (u := 32) (k := 0) (to := rd) (x := 0) (y := rd) hc2 (fun i => (hM i c hc hc2).trans hw) (Or.inr (Or.inl ⟨rfl, Or.inl rfl⟩)) (fun c => absurd c (by omega)) h1 (by omega) h1 (hq _ (fun i => ?_) (fun i j hj => wr_n hj))
    show wr _ rd _ rd = _
    rw [wr_s h0, one, if_pos q, hz i]
  · rw [if_neg q] at hw
    by_cases q2 : k = 126
    · rw [if_pos q2] at hw
      refine fx_num (k := 4) (to := rd) (fr := rd) (x := -1) hc2 (fun i => (hM i c hc hc2).trans hw) (by omega) h1 h1 (by decide) (by decide) (fun c => absurd c (by omega)) (hq _ (fun i => ?_) (fun i j hj => wr_n hj))
      show wr _ rd _ rd = _
      rw [wr_s h0, one, if_neg q, if_pos q2]
    · rw [if_neg q2] at hw
      refine fx_num (k := 3) (to := rd) (fr := rd) (x := 1) hc2 (fun i => (hM i c hc hc2).trans hw) (by omega) h1 h1 (by decide) (by decide) (fun c => absurd c (by omega)) (hq _ (fun i => ?_) (fun i j hj => wr_n hj))
      show wr _ rd _ rd = _
      rw [wr_s h0, one, if_neg q, if_neg q2]
theorem sim_num {m r : ι → Nat → Int32} {M : Nat → Int32} {n : Int32} {rd a b : Nat} {Q : (ι → Nat → Int32) → (ι → Nat → Int32) → Nat → Prop} (hw : LNW M n rd a b) (hM : ∀ i j, 512 ≤ j → j < 4096 → m i j = M j) (ha : 512 ≤ a) (hb : b ≤ 4096) (h1 : rd < 32) (h0 : ¬ rd = 0) (hz : ∀ i, r i 0 = 0)
    (hq : ∀ r' : ι → Nat → Int32, (∀ i, r' i rd = n) → (∀ i j, ¬ j = rd → r' i j = r i j) → Q m r' b) : FX (6 * (b - a)) m r a Q := by
  rcases hw with ⟨w1, w2, w3, w4⟩ | ⟨x, y, w1, w2, w3, w4, w5, w6⟩
  · refine FX.le (a := 1) (fx_num (k := 0) (to := rd) (fr := 0) (x := n) (by omega) (fun i => (hM i a ha (by omega)).trans w1) (by omega) h1 (by omega) w2 w3 (fun c => absurd c (by omega)) ?_) (by omega)
    rw [← w4]
    refine hq _ (fun i => ?_) (fun i j hj => wr_n hj)
    show wr _ rd _ rd = _
    rw [wr_s h0, hz i]
    show 0 + n = n
    exact Int32.zero_add n
  · refine FX.cons (n := 1) (fx_up (to := rd) (x := x) (by omega) (fun i => (hM i a ha (by omega)).trans w1) h1 ⟨rfl, rfl, rfl⟩) ?_ (by omega)
    refine fx_num (k := 0) (to := rd) (fr := rd) (x := y) (by omega) (fun i => (hM i (a + 1) (by omega) (by omega)).trans w2) (by omega) h1 h1 w3 w4 (fun c => absurd c (by omega)) ?_
    rw [show a + 1 + 1 = b by omega]
    refine hq _ (fun i => ?_) (fun i j hj => ?_)
    · show wr _ rd _ rd = _
      rw [wr_s h0]
      show wr _ rd _ rd + y = n
      rw [wr_s h0]
      exact w5
    · show wr (wr _ rd _) rd _ j = _
      rw [wr_n hj, wr_n hj]
end Code
