section Ast
abbrev Tr : Type := Lean.RArray Nat
def sz (T : TX) : Tr → Nat
  | .leaf _ => 1
  | .branch p a b => if p % 2 = 1 then sz T a + sz T b + 1 else if TK T (p / 2) = 2 then sz T a + 2 else sz T a + 1
def nd (T : TX) : Tr → Nat
  | .leaf _ => 1
  | .branch p a b => if p % 2 = 1 then ndP (nd T a) (nd T b) else nd T a
def cl (T : TX) : Tr → Bool
  | .leaf _ => false
  | .branch p a b => if p % 2 = 1 then (cl T a || cl T b) else if TK T (p / 2) = 2 then true else cl T a
def lvl (k : Nat) : Nat := if k = 124 then 0 else if k = 94 then 1 else if k = 38 then 2 else if k = 60 then 3 else if k = 128 then 3 else if k = 129 then 3 else if k = 130 then 4 else if k = 131 then 4 else if k = 43 then 5 else if k = 45 then 5 else if k = 42 then 6 else if k = 47 then 6 else if k = 37 then 6 else 7
def isU (k : Nat) : Prop := k = 45 ∨ k = 126 ∨ k = 33
def ku (k : Nat) : Nat := if k = 45 then 29 else k
def WF (T : TX) (N : Nat) : Tr → Prop
  | .leaf t => t + 1 < N ∧ (TK T t = 2 ∨ TK T t = 3)
  | .branch p a b => if p % 2 = 1 then p / 2 + 1 < N ∧ lvl (TK T (p / 2)) < 7 ∧ WF T N a ∧ WF T N b else if TK T (p / 2) = 2 then p / 2 + 2 < N ∧ TK T (p / 2 + 1) = 91 ∧ WF T N a else p / 2 + 1 < N ∧ isU (TK T (p / 2)) ∧ WF T N a
def hdC (T : TX) (σ : SX4) (e : Tr) (i : Nat) : Prop := σ.1.2.2.2 i = nI (sz T e) ∧ σ.2.1.1 i = nI (nd T e) ∧ σ.2.2.2.1 i = bi (cl T e) ∧ sz T e ≤ i + 1
/-- the class's nodes of an EXPR, the last of them i -/
def CS (T : TX) (σ : SX4) : Tr → Nat → Prop
  | .leaf t, i => hdC T σ (.leaf t) i ∧ σ.1.1.2 i = nI (TK T t) ∧ σ.1.2.1 i = nI (PL T t)
  | .branch p a b, i => hdC T σ (.branch p a b) i ∧ (if p % 2 = 1 then σ.1.1.2 i = nI (TK T (p / 2)) ∧ σ.1.2.1 i = nI (PL T (p / 2)) ∧ CS T σ b (i - 1) ∧ CS T σ a (i - 1 - sz T b)
      else if TK T (p / 2) = 2 then σ.1.1.2 i = 28 ∧ σ.1.2.1 i = nI (PL T (p / 2 + 1)) ∧ CS T σ a (i - 1) ∧ σ.1.1.2 (i - 1 - sz T a) = 27 ∧ σ.1.2.1 (i - 1 - sz T a) = nI (PL T (p / 2))
      else σ.1.1.2 i = nI (ku (TK T (p / 2))) ∧ σ.1.2.1 i = nI (PL T (p / 2)) ∧ CS T σ a (i - 1))
/-- and their values as they were read -/
def CV (T : TX) (σ : SX4) : Tr → Nat → Prop
  | .leaf t, i => TK T t = 3 → σ.1.2.2.1 i = nI (NB T t)
  | .branch p a b, i => if p % 2 = 1 then CV T σ b (i - 1) ∧ CV T σ a (i - 1 - sz T b)
      else if TK T (p / 2) = 2 then σ.1.2.2.1 i = nI (i - 1 - sz T a) ∧ σ.1.2.2.1 (i - 1 - sz T a) = nI (PL T (p / 2 + 1)) ∧ CV T σ a (i - 1)
      else CV T σ a (i - 1)
theorem sz_pos (T : TX) (e : Tr) : 0 < sz T e := by
  cases e with
  | leaf t => exact Nat.zero_lt_one
  | branch p a b =>
    unfold sz
    split
    · omega
    · split <;> omega
/-- the same nodes from lo to hi -/
def AG (σ σ' : SX4) (lo hi : Nat) : Prop := ∀ j, lo ≤ j → j < hi → σ'.1.1.2 j = σ.1.1.2 j ∧ σ'.1.2.1 j = σ.1.2.1 j ∧ σ'.1.2.2.2 j = σ.1.2.2.2 j ∧ σ'.2.1.1 j = σ.2.1.1 j ∧ σ'.2.2.2.1 j = σ.2.2.2.1 j
def AV (σ σ' : SX4) (lo hi : Nat) : Prop := ∀ j, lo ≤ j → j < hi → σ'.1.2.2.1 j = σ.1.2.2.1 j
theorem CS.hd {T : TX} {σ : SX4} {e : Tr} {i : Nat} (h : CS T σ e i) : hdC T σ e i := by
  cases e with
  | leaf t => exact h.1
  | branch p a b => exact h.1
theorem CS.fr {T : TX} {σ σ' : SX4} {lo hi : Nat} (ha : AG σ σ' lo hi) : ∀ (e : Tr) (i : Nat), CS T σ e i → lo + sz T e ≤ i + 1 → i < hi → CS T σ' e i := by
  have hdr : ∀ (e : Tr) (i : Nat), hdC T σ e i → lo + sz T e ≤ i + 1 → i < hi → hdC T σ' e i := by
    intro e i h h1 h2
    have hs := sz_pos T e
    obtain ⟨a1, a2, a3, a4, a5⟩ := ha i (by omega) h2
    obtain ⟨b1, b2, b3, b4⟩ := h
    exact ⟨a3.trans b1, a4.trans b2, a5.trans b3, b4⟩
  intro e
  induction e with
  | leaf t =>
    intro i h h1 h2
    obtain ⟨a1, a2, a3, a4, a5⟩ := ha i (by have := sz_pos T (.leaf t); omega) h2
    exact ⟨hdr _ i h.1 h1 h2, a1.trans h.2.1, a2.trans h.2.2⟩
  | branch p a b iha ihb =>
    intro i h h1 h2
    have hsz := sz_pos T (.branch p a b)
    have hle := h.1.2.2.2
    obtain ⟨a1, a2, a3, a4, a5⟩ := ha i (by omega) h2
    refine ⟨hdr _ i h.1 h1 h2, ?_⟩
    have h := h.2
    have pa := sz_pos T a
    have pb := sz_pos T b
    split
    · rename_i q
      rw [if_pos q] at h
      have hs : sz T (.branch p a b) = sz T a + sz T b + 1 := by show (if p % 2 = 1 then _ else _) = _; rw [if_pos q]
      obtain ⟨g1, g2, g3, g4⟩ := h
      exact ⟨a1.trans g1, a2.trans g2, ihb (i - 1) g3 (by omega) (by omega), iha (i - 1 - sz T b) g4 (by omega) (by omega)⟩
    · rename_i q
      rw [if_neg q] at h
      split
      · rename_i q2
        rw [if_pos q2] at h
        have hs : sz T (.branch p a b) = sz T a + 2 := by show (if p % 2 = 1 then _ else if _ then _ else _) = _; rw [if_neg q, if_pos q2]
        obtain ⟨g1, g2, g3, g4, g5⟩ := h
        obtain ⟨c1, c2, c3, c4, c5⟩ := ha (i - 1 - sz T a) (by omega) (by omega)
        exact ⟨a1.trans g1, a2.trans g2, iha (i - 1) g3 (by omega) (by omega), c1.trans g4, c2.trans g5⟩
      · rename_i q2
        rw [if_neg q2] at h
        have hs : sz T (.branch p a b) = sz T a + 1 := by show (if p % 2 = 1 then _ else if _ then _ else _) = _; rw [if_neg q, if_neg q2]
        obtain ⟨g1, g2, g3⟩ := h
        exact ⟨a1.trans g1, a2.trans g2, iha (i - 1) g3 (by omega) (by omega)⟩
theorem CV.fr {T : TX} {σ σ' : SX4} {lo hi : Nat} (ha : AV σ σ' lo hi) : ∀ (e : Tr) (i : Nat), CV T σ e i → lo + sz T e ≤ i + 1 → i < hi → CV T σ' e i := by
  intro e
  induction e with
  | leaf t =>
    intro i h h1 h2 h3
    rw [ha i (by have := sz_pos T (.leaf t); omega) h2]
    exact h h3
  | branch p a b iha ihb =>
    intro i h h1 h2
    have pa := sz_pos T a
    have pb := sz_pos T b
    show (if p % 2 = 1 then _ else if _ then _ else _)
    have h : (if p % 2 = 1 then _ else if _ then _ else _) := h
    split
    · rename_i q
      rw [if_pos q] at h
      have hs : sz T (.branch p a b) = sz T a + sz T b + 1 := by show (if p % 2 = 1 then _ else _) = _; rw [if_pos q]
      exact ⟨ihb (i - 1) h.1 (by omega) (by omega), iha (i - 1 - sz T b) h.2 (by omega) (by omega)⟩
    · rename_i q
      rw [if_neg q] at h
      split
      · rename_i q2
        rw [if_pos q2] at h
        have hs : sz T (.branch p a b) = sz T a + 2 := by show (if p % 2 = 1 then _ else if _ then _ else _) = _; rw [if_neg q, if_pos q2]
        obtain ⟨g1, g2, g3⟩ := h
        exact ⟨(ha i (by omega) h2).trans g1, (ha (i - 1 - sz T a) (by omega) (by omega)).trans g2, iha (i - 1) g3 (by omega) (by omega)⟩
      · rename_i q2
        rw [if_neg q2] at h
        have hs : sz T (.branch p a b) = sz T a + 1 := by show (if p % 2 = 1 then _ else if _ then _ else _) = _; rw [if_neg q, if_neg q2]
        exact iha (i - 1) h (by omega) (by omega)
theorem AG.tr {σ σ' σ'' : SX4} {lo hi lo' hi' : Nat} (h : AG σ σ' lo hi) (g : AG σ' σ'' lo' hi') {l m : Nat} (h1 : lo ≤ l) (h2 : lo' ≤ l) (h3 : m ≤ hi) (h4 : m ≤ hi') : AG σ σ'' l m := by
  intro j hj hj2
  obtain ⟨a1, a2, a3, a4, a5⟩ := h j (by omega) (by omega)
  obtain ⟨b1, b2, b3, b4, b5⟩ := g j (by omega) (by omega)
  exact ⟨b1.trans a1, b2.trans a2, b3.trans a3, b4.trans a4, b5.trans a5⟩
theorem AV.tr {σ σ' σ'' : SX4} {lo hi lo' hi' : Nat} (h : AV σ σ' lo hi) (g : AV σ' σ'' lo' hi') {l m : Nat} (h1 : lo ≤ l) (h2 : lo' ≤ l) (h3 : m ≤ hi) (h4 : m ≤ hi') : AV σ σ'' l m := fun j hj hj2 => (g j (by omega) (by omega)).trans (h j (by omega) (by omega))
theorem AG.rf (σ : SX4) (lo hi : Nat) : AG σ σ lo hi := fun j _ _ => ⟨rfl, rfl, rfl, rfl, rfl⟩
theorem AV.rf (σ : SX4) (lo hi : Nat) : AV σ σ lo hi := fun j _ _ => rfl
theorem AG.mk (σ : SX4) {u hi : Nat} (hu : hi ≤ u) (k p v s n c : Int32) : AG σ (nMk σ u k p v s n c) 0 hi := by
  intro j _ hj
  have ne : j ≠ u := by omega
  exact ⟨pk_un ne, pk_un ne, pk_un ne, pk_un ne, pk_un ne⟩
theorem AV.mk (σ : SX4) {u hi : Nat} (hu : hi ≤ u) (k p v s n c : Int32) : AV σ (nMk σ u k p v s n c) 0 hi := by
  intro j _ hj
  have ne : j ≠ u := by omega
  exact pk_un ne
/-! the class's reader at a token -/
def GL (T : TX) (N L : Nat) : Prop := LT T N ∧ T.2 ≤ 3000 ∧ T.2 ≤ L ∧ L < 2 ^ 31
def CI (T : TX) (N L : Nat) (t8 : SX8) (σ : WSX7) (t u : Nat) : Prop := σ.1.1 = -1 ∧ LC σ.1.2 T N ∧ σ.1.2.2.1.2 = nI t ∧ t < N ∧ NW σ.2.2 u L ∧ u ≤ PL T t ∧ σ.2.1 = t8
def CF (T : TX) (N L : Nat) (t8 : SX8) (σ : WSX7) (t : Nat) : Prop := σ.1.1 = nI (PL T t) ∧ (∃ u, NW σ.2.2 u L) ∧ σ.2.1 = t8 ∧ σ.1.2.1.1.1 < 2 ^ 31
theorem not_fin {T : TX} {N t k : Nat} (hg : LT T N) (ht : t < N) (hk : TK T t = k) (h0 : ¬ k = 0) (h1 : ¬ k = 1) : ¬ tfin T t ∧ t + 1 < N := by
  have : ¬ tfin T t := by
    rintro (q | q)
    · exact h0 (hk.symm.trans q)
    · exact h1 (hk.symm.trans q)
  refine ⟨this, ?_⟩
  by_cases q : t + 1 < N
  · exact q
  · have e : N - 1 = t := by omega
    have := hg.2.2.1
    rw [e] at this
    contradiction
theorem PL_succ {T : TX} {t : Nat} (h : ¬ tfin T t) : PL T t + 1 ≤ PL T (t + 1) := by
  have h1 := PL_next T t
  have h2 := LN_pos h
  omega
theorem c_fail {T : TX} {N L t u : Nat} {t8 : SX8} {σ : WSX7} {post : WSX7 → Prop} (h : CI T N L t8 σ t u) (hp : ∀ σ', CF T N L t8 σ' t → post σ') : wp_X7_fail σ post := by
  obtain ⟨h1, h2, h3, h4, h5, h6, h7⟩ := h
  exact ⟨fun c => absurd h1 c, fun _ => c_place h2 h3 h4 (hp _ ⟨rfl, ⟨u, h5⟩, h7, h2.2.1⟩)⟩
theorem CF.ne {T : TX} {N L t : Nat} {t8 : SX8} {σ : WSX7} (h : CF T N L t8 σ t) (hn : T.2 ≤ 3000) : ¬ σ.1.1 = -1 := by
  rw [h.1]
  have := PL_le T t
  exact nI_nem1 (by omega)
theorem c_failF {T : TX} {N L t : Nat} {t8 : SX8} {σ : WSX7} {post : WSX7 → Prop} (h : CF T N L t8 σ t) (hn : T.2 ≤ 3000) (hp : post σ) : wp_X7_fail σ post := ⟨fun _ => hp, fun c => absurd c (h.ne hn)⟩
theorem c_takeF {T : TX} {N L t : Nat} {t8 : SX8} {k : Int32} {σ : WSX7} {post : Int32 → WSX7 → Prop} (h : CF T N L t8 σ t) (hn : T.2 ≤ 3000) (hp : post 0 σ) : wp_X7_take σ k post := ⟨fun _ => c_failF h hn hp, fun c => absurd c (h.ne hn)⟩
theorem CI.nx {T : TX} {N L t u : Nat} {t8 : SX8} {σ : WSX7} (h : CI T N L t8 σ t u) (hf : ¬ tfin T t ∧ t + 1 < N) : CI T N L t8 ((σ.1.1, (σ.1.2.1, ((σ.1.2.2.1.1, (nI (t + 1))), σ.1.2.2.2))), σ.2) (t + 1) u ∧ u + 1 ≤ PL T (t + 1) := by
  obtain ⟨h1, h2, h3, h4, h5, h6, h7⟩ := h
  have := PL_succ hf.1
  exact ⟨⟨h1, h2, rfl, hf.2, h5, by omega, h7⟩, by omega⟩
theorem c_take {T : TX} {N L t u k : Nat} {t8 : SX8} {σ : WSX7} {post : Int32 → WSX7 → Prop} (hg : LT T N) (h : CI T N L t8 σ t u) (h0 : ¬ k = 0) (h1 : ¬ k = 1) (hk : k < 256)
    (hY : TK T t = k → t + 1 < N → ¬ tfin T t → u + 1 ≤ PL T (t + 1) → CI T N L t8 ((σ.1.1, (σ.1.2.1, ((σ.1.2.2.1.1, (nI (t + 1))), σ.1.2.2.2))), σ.2) (t + 1) u → post 1 ((σ.1.1, (σ.1.2.1, ((σ.1.2.2.1.1, (nI (t + 1))), σ.1.2.2.2))), σ.2)) (hN : ¬ TK T t = k → ∀ σ', CF T N L t8 σ' t → post 0 σ') : wp_X7_take σ (nI k) post := by
  obtain ⟨g1, g2, g3, g4, g5, g6, g7⟩ := id h
  have hr := (TK_r T t).1
  refine ⟨fun c => absurd g1 c, fun _ => c_kind g2 g3 g4 ⟨fun c => ?_, fun c => ?_⟩⟩
  · exact c_fail h (hN (fun q => c (by rw [q])))
  · have c := (nI_eq (by omega) (by omega)).mp c
    have hf := not_fin hg g4 c h0 h1
    exact c_next g2 g3 g4 (hY c hf.2 hf.1 (h.nx hf).2 (h.nx hf).1)
end Ast
