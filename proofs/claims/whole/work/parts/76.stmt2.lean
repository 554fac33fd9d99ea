section Stmt2
theorem m_exprB {T : TX} {N s t q n : Nat} {x : Int32} {τ : SX12} {post : Int32 → SX12 → Prop} (h : MB T N s τ t q) (hq : q < 9000) (hp : ∀ τ', MB T N (s + 1) τ' t (q + 1) → MOF τ τ' → HP τ τ' q → τ'.1.2.1.1.1 q = -1 → post (nI q) τ') : wg_st (n + 2) 2 τ [x] post := by
  obtain ⟨a1, a2, a3, a4, a5, a6⟩ := h
  have n10 : ¬ (1 : Int32) = 0 := by decide
  have nb : ¬ τ.1.1.2.1.2.1 = 0 := fun c => n10 (a1.symm.trans c)
  refine ⟨fun _ => ⟨bz1, ?_⟩, fun c => absurd c nb⟩
  refine ⟨fun _ => ⟨fun c => absurd c n10, fun _ => m_node a5 hq ⟨1, ?_⟩⟩, fun c => absurd c (by decide)⟩
  refine ⟨fun _ => ?_, fun c => absurd c n10⟩
  exact hp _ ⟨rfl, a2, a3, a4, a5.nd 0 0, by omega⟩ ⟨rfl, rfl, rfl, rfl, rfl⟩ (mNd_hp (((τ.1.1.1, ((τ.1.1.2.1.1, (1, τ.1.1.2.1.2.2)), τ.1.1.2.2)), τ.1.2), τ.2) (Nat.le_refl q) _ _) pk_us
theorem m_blockB {T : TX} {N s t q n : Nat} {x : Int32} {τ : SX12} {post : Int32 → SX12 → Prop} (h : MB T N s τ t q) (hq : q < 9000) (hp : ∀ τ', MB T N (s + 1) τ' t (q + 1) → MOF τ τ' → HP τ τ' q → τ'.1.2.1.1.1 q = -1 → post (nI q) τ') : wg_st (n + 1) 1 τ [x] post := by
  obtain ⟨a1, a2, a3, a4, a5, a6⟩ := id h
  have n10 : ¬ (1 : Int32) = 0 := by decide
  have nb : ¬ τ.1.1.2.1.2.1 = 0 := fun c => n10 (a1.symm.trans c)
  refine ⟨fun _ => ⟨bz1, ?_⟩, fun c => absurd c nb⟩
  have h' : MB T N s (((τ.1.1.1, ((τ.1.1.2.1.1, (1, τ.1.1.2.1.2.2)), τ.1.1.2.2)), τ.1.2), τ.2) t q := ⟨rfl, a2, a3, a4, a5, a6⟩
  refine m_takeB h' (m_node a5 hq ⟨1, ⟨fun _ => ?_, fun c => absurd c n10⟩⟩)
  have h2 : MB T N (s + 1) (mNd (((τ.1.1.1, ((τ.1.1.2.1.1, (1, τ.1.1.2.1.2.2)), τ.1.1.2.2)), τ.1.2), τ.2) q 302 (nI t)) t (q + 1) := ⟨rfl, a2, a3, a4, a5.nd 0 0, by omega⟩
  refine m_takeB h2 ?_
  exact hp _ h2 ⟨rfl, rfl, rfl, rfl, rfl⟩ (mNd_hp (((τ.1.1.1, ((τ.1.1.2.1.1, (1, τ.1.1.2.1.2.2)), τ.1.1.2.2)), τ.1.2), τ.2) (Nat.le_refl q) _ _) pk_us
/-- the place to which the next part of node s goes: its first, or the next of y -/
def slot (τ : SX12) (s : Nat) : Option Nat → Int32 → SX12
  | none, z => (((τ.1.1.1, (τ.1.1.2.1, (τ.1.1.2.2.1, (τ.1.1.2.2.2.1, (upd τ.1.1.2.2.2.2 s z))))), τ.1.2), τ.2)
  | some y, z => ((τ.1.1, ((((upd τ.1.2.1.1.1 y z), τ.1.2.1.1.2), τ.1.2.1.2), τ.1.2.2)), τ.2)
def slotOk (τ : SX12) (s : Nat) : Option Nat → Prop
  | none => τ.1.1.2.2.2.2 s = -1
  | some y => ∃ c l, c < 9000 ∧ τ.1.1.2.2.2.2 s = nI c ∧ Ch τ.1.2.1.1.1 c l ∧ lastN c l = y
theorem Ch.fr {f g : Nat → Int32} : ∀ (l : List Nat) (c : Nat), Ch f c l → (∀ j, j = c ∨ j ∈ l → g j = f j) → Ch g c l := by
  intro l
  induction l with
  | nil => intro c h e; exact (e c (Or.inl rfl)).trans h
  | cons d l ih =>
    intro c h e
    exact ⟨(e c (Or.inl rfl)).trans h.1, h.2.1, ih d h.2.2 (fun j hj => e j (Or.inr (hj.elim (fun q => by rw [q]; exact List.mem_cons_self) (fun q => List.mem_cons_of_mem d q))))⟩
theorem m_addS {τ : SX12} {s : Nat} {sl : Option Nat} {z : Int32} {post : SX12 → Prop} (hs : s < 9000) (h : slotOk τ s sl) (hp : post (slot τ s sl z)) : wp_X12_add τ (nI s) z post := by
  cases sl with
  | none => exact m_add0 hs h hp
  | some y =>
    obtain ⟨c, l, h1, h2, h3, h4⟩ := h
    refine m_addC hs h2 h1 h3 ?_
    rw [h4]
    exact hp
theorem slot_of (τ : SX12) (s : Nat) (sl : Option Nat) (z : Int32) : MOF τ (slot τ s sl z) := by
  cases sl with
  | none => exact ⟨rfl, rfl, rfl, rfl, rfl⟩
  | some y => exact ⟨rfl, rfl, rfl, rfl, rfl⟩
theorem slot_mb {T : TX} {N k t q s : Nat} {τ : SX12} {sl : Option Nat} {z : Int32} (h : MB T N k τ t q) : MB T N k (slot τ s sl z) t q := by
  cases sl with
  | none => exact h
  | some y => exact h
theorem slot_mi {T : TX} {N t q s : Nat} {τ : SX12} {sl : Option Nat} {z : Int32} (h : MI T N τ t q) : MI T N (slot τ s sl z) t q := by
  cases sl with
  | none => exact h
  | some y => exact h
/-- before q only the slot has changed -/
def SP (τ τ' : SX12) (q s : Nat) (sl : Option Nat) : Prop := ∀ i, i < q → τ'.1.1.2.2.1 i = τ.1.1.2.2.1 i ∧ τ'.1.1.2.2.2.1 i = τ.1.1.2.2.2.1 i ∧ (¬ (sl = none ∧ i = s) → τ'.1.1.2.2.2.2 i = τ.1.1.2.2.2.2 i) ∧ (¬ sl = some i → τ'.1.2.1.1.1 i = τ.1.2.1.1.1 i)
def SV (τ : SX12) (s : Nat) : Option Nat → Int32 → Prop
  | none, z => τ.1.1.2.2.2.2 s = z
  | some y, z => τ.1.2.1.1.1 y = z
theorem SP.hp {τ τ' : SX12} {q s : Nat} {sl : Option Nat} (h : HP τ τ' q) : SP τ τ' q s sl := by
  intro i hi
  obtain ⟨h1, h2, h3, h4⟩ := h i hi
  exact ⟨h1, h2, fun _ => h3, fun _ => h4⟩
theorem SP.slot {τ τ' : SX12} {q s : Nat} {sl : Option Nat} {z : Int32} (h : HP τ τ' q) : SP τ (slot τ' s sl z) q s sl := by
  intro i hi
  obtain ⟨h1, h2, h3, h4⟩ := h i hi
  cases sl with
  | none => exact ⟨h1, h2, fun c => (pk_un (fun e => c ⟨rfl, e⟩)).trans h3, fun _ => h4⟩
  | some y => exact ⟨h1, h2, fun _ => h3, fun c => (pk_un (fun e => c (by rw [e]))).trans h4⟩
theorem SV.slot (τ : SX12) (s : Nat) (sl : Option Nat) (z : Int32) : SV (slot τ s sl z) s sl z := by
  cases sl with
  | none => exact pk_us
  | some y => exact pk_us
theorem ME.slot {T : TX} {τ : SX12} {e : Tr} {lo hi i s : Nat} {sl : Option Nat} {z : Int32} (h : ME T τ e lo hi i) (hs : s < lo) (hy : ∀ y, sl = some y → y < lo) : ME T (slot τ s sl z) e lo hi i := by
  cases sl with
  | none => exact ME.fr (τ := τ) e lo hi i (fun j j1 j2 => ⟨rfl, rfl, pk_un (k := s) (by omega)⟩) (fun j j1 j2 j3 => rfl) h
  | some y =>
    have := hy y rfl
    exact ME.fr (τ := τ) e lo hi i (fun j j1 j2 => ⟨rfl, rfl, rfl⟩) (fun j j1 j2 j3 => pk_un (k := y) (by omega)) h
theorem slot_nx {τ : SX12} {i s : Nat} {sl : Option Nat} {z : Int32} (hy : ¬ sl = some i) : (slot τ s sl z).1.2.1.1.1 i = τ.1.2.1.1.1 i := by
  cases sl with
  | none => rfl
  | some y => exact pk_un (fun e => hy (by rw [e]))
theorem put_tail {T : TX} {N L : Nat} {t8 : SX8} {d : Nat} (hg : GL T N L) (hd : d ≤ 32) : ∀ t, t < N → ∃ o : RO, ((∀ e, o.2 = some e → (WF T N e ∧ XE T e (t + 1) (o.1 - 1) hX) ∧ t < o.1 ∧ PL T t + sz T e + 2 ≤ PL T o.1) ∧ t ≤ o.1 ∧ o.1 < N) ∧
    (∀ n, 210 ≤ n → ∀ (σ : WSX7) (u p : Nat) (v : Int32) (post : WSX7 → Prop), CI T N L t8 σ t u →
      (∀ e, o.2 = some e → ∀ σ', CI T N L t8 σ' o.1 (u + sz T e + 1) → AG σ.2.2 σ'.2.2 0 u → AV σ.2.2 σ'.2.2 0 u → CS T σ'.2.2 e (u + sz T e - 1) → CV T σ'.2.2 e (u + sz T e - 1) → nv σ'.2.2 (u + sz T e) 16 p v → post σ') →
      (o.2 = none → ∀ σ', CF T N L t8 σ' o.1 → post σ') → wp_X7_putStatement_93 (wg_rd n) post σ (nI d) (nI p) v) ∧
    (∀ n, 210 ≤ n → ∀ (τ : SX12) (q s : Nat) (sl : Option Nat) (post : Int32 → SX12 → Prop), MI T N τ t q → s < q → (∀ y, sl = some y → y < q) → (∀ τ', HP τ τ' q → slotOk τ' s sl) →
      (∀ e, o.2 = some e → ∀ τ' q' z, MI T N τ' o.1 q' → q ≤ q' → MOF τ τ' → SP τ τ' q s sl → SV τ' s sl (nI z) → ME T τ' e q q' z → τ'.1.2.1.1.1 z = -1 → post (nI s) τ') →
      (o.2 = none → ∀ τ' q', MB T N 3 τ' o.1 q' → q ≤ q' → MOF τ τ' → SP τ τ' q s sl → post (nI s) τ') → wp_X12_statement_111 (wg_st n) post τ (nI d) (nI s)) := by
  have hn := hg.2.1
  have hN : N ≤ 3001 := by have := hg.1.2.1; omega
  have hL := hg.2.2.1
  intro t ht
  by_cases E : TK T t = 61
  · have hnf := not_fin hg.1 ht E (by omega) (by omega)
    have hPL := PL_succ hnf.1
    obtain ⟨o2, ⟨q1, q2, q3⟩, q4, q5⟩ := qq_all (t8 := t8) hg hd (t + 1) hnf.2
    have hPo := PL_le T o2.1
    have cgo : ∀ n, 210 ≤ n → ∀ (σ : WSX7) (u p : Nat) (v : Int32) (post : WSX7 → Prop), CI T N L t8 σ t u →
        (∀ e, o2.2 = some e → ∀ σ', CI T N L t8 σ' o2.1 (u + sz T e) → AG σ.2.2 σ'.2.2 0 u → AV σ.2.2 σ'.2.2 0 u → CS T σ'.2.2 e (u + sz T e - 1) → CV T σ'.2.2 e (u + sz T e - 1) → wp_X4_add σ'.2.2 16 (nI p) v (fun r13 τ14 => wp_X7_take (σ'.1, (σ'.2.1, τ14)) (nI 59) (fun r15 τ16 => post τ16))) →
        (o2.2 = none → ∀ σ', CF T N L t8 σ' o2.1 → post σ') → wp_X7_putStatement_93 (wg_rd n) post σ (nI d) (nI p) v := by
      intro n hn2 σ u p v post h hY hF
      refine c_take hg.1 h (k := 61) (by omega) (by omega) (by omega) (fun _ z1 z2 z3 ci => ⟨fun c => absurd c (by decide), fun _ => ?_⟩) (fun z => absurd E z)
      refine q4 n hn2 _ u _ ci (fun e he σ' c1 c2 c3 c4 c5 => hY e he σ' c1 c2 c3 c4 c5) (fun he σ' c1 => ?_)
      obtain ⟨u', hu'⟩ := c1.2.1
      refine c_naddG hu' (fun r σ4 u4 h4 _ => ?_)
      have cf : CF T N L t8 (σ'.1, (σ'.2.1, σ4)) o2.1 := ⟨c1.1, ⟨u4, h4⟩, c1.2.2⟩
      exact c_takeF cf hn (hF he _ cf)
    have mgo : ∀ n, 210 ≤ n → ∀ (τ : SX12) (q s : Nat) (sl : Option Nat) (post : Int32 → SX12 → Prop), MI T N τ t q → s < q → (∀ y, sl = some y → y < q) → (∀ τ', HP τ τ' q → slotOk τ' s sl) →
        (∀ e, o2.2 = some e → ∀ τ' q' z, MI T N τ' o2.1 q' → q ≤ q' → MOF τ τ' → SP τ τ' q s sl → SV τ' s sl (nI z) → ME T τ' e q q' z → τ'.1.2.1.1.1 z = -1 → wp_X12_take τ' (nI (kM 59)) (fun r42 τ43 => post (nI s) τ43)) →
        (o2.2 = none → ∀ τ' q', MB T N 3 τ' o2.1 q' → q ≤ q' → MOF τ τ' → SP τ τ' q s sl → post (nI s) τ') → wp_X12_statement_111 (wg_st n) post τ (nI d) (nI s) := by
      intro n hn2 τ q s sl post h hs hy hsl hY hF
      obtain ⟨a1, a2, a3, a4, a5, a6⟩ := id h
      refine m_take (k := 61) hN h (by omega) (by omega) (fun _ => ?_) (fun z => absurd E z)
      have h' : MI T N (((τ.1.1.1, (((nI (t + 1)), τ.1.1.2.1.2), τ.1.1.2.2)), τ.1.2), τ.2) (t + 1) q := ⟨a1, rfl, hnf.2, a4, a5, by omega⟩
      refine q5 n hn2 _ q _ h' (fun e he τ' q' i b1 b2 b3 b4 b5 b6 => ?_) (fun he τ' q' i b1 b2 b3 b4 b5 b6 => ?_)
      · have bi := b6.bd
        refine m_addS (sl := sl) (by omega) (hsl τ' b4) ?_
        have nsl : ¬ sl = some i := fun z => by have := hy i z; omega
        refine hY e he _ q' i (slot_mi b1) (by omega) ?_ (SP.slot b4) (SV.slot _ _ _ _) (b6.slot hs hy) ((slot_nx nsl).trans b5)
        exact MOF.tr (b := τ') ⟨b3.1, b3.2.1, b3.2.2.1, b3.2.2.2.1, b3.2.2.2.2⟩ (slot_of _ _ _ _)
      · refine m_addS (sl := sl) (by have := b1.2.2.2.2.2; omega) (hsl τ' b3) ?_
        have hb : MB T N 3 (slot τ' s sl (nI i)) o2.1 q' := slot_mb ⟨b1.1, b1.2.1, b1.2.2.1, b1.2.2.2.1, b1.2.2.2.2.1, by have := b1.2.2.2.2.2; omega⟩
        refine m_takeB hb (hF he _ q' hb (by omega) ?_ (SP.slot b3))
        exact MOF.tr (b := τ') ⟨b2.1, b2.2.1, b2.2.2.1, b2.2.2.2.1, b2.2.2.2.2⟩ (slot_of _ _ _ _)
    cases ho : o2.2 with
    | none =>
      exact ⟨(o2.1, none), ⟨fun e he => (by cases he), by show t ≤ o2.1; omega, q3⟩, fun n hn2 σ u p v post h hY hF => cgo n hn2 σ u p v post h (fun e he => by rw [ho] at he; cases he) (fun _ σ' c => hF rfl σ' c), fun n hn2 τ q s sl post h hs hy hsl hY hF => mgo n hn2 τ q s sl post h hs hy hsl (fun e he => by rw [ho] at he; cases he) (fun _ τ' q' b1 b2 b3 b4 => hF rfl τ' q' b1 b2 b3 b4)⟩
    | some a =>
      obtain ⟨w2, t2, pl2⟩ := q1 a ho
      have hsa := sz_pos T a
      have cst : ∀ (σ σ' : WSX7) (u p : Nat) (v : Int32), u ≤ PL T t → CI T N L t8 σ' o2.1 (u + sz T a) → CI T N L t8 (σ'.1, (σ'.2.1, nMk σ'.2.2 (u + sz T a) 16 (nI p) v 1 1 0)) o2.1 (u + sz T a + 1) := by
        intro σ σ' u p v hu c1
        exact ⟨c1.1, c1.2.1, c1.2.2.1, c1.2.2.2.1, c1.2.2.2.2.1.mk (by omega) _ _ _ _ _ _, by omega, c1.2.2.2.2.2.2⟩
      by_cases C : TK T o2.1 = 59
      · have hnf2 := not_fin hg.1 q3 C (by omega) (by omega)
        have hPL2 := PL_succ hnf2.1
        refine ⟨(o2.1 + 1, some a), ⟨fun e he => ?_, by show t ≤ o2.1 + 1; omega, hnf2.2⟩, fun n hn2 σ u p v post h hY hF => cgo n hn2 σ u p v post h (fun e he σ' c1 c2 c3 c4 c5 => ?_) (fun he => by rw [ho] at he; cases he), fun n hn2 τ q s sl post h hs hy hsl hY hF => mgo n hn2 τ q s sl post h hs hy hsl (fun e he τ' q' z b1 b2 b3 b4 b5 b6 b7 => ?_) (fun he => by rw [ho] at he; cases he)⟩
        · cases he
          exact ⟨⟨w2.1, w2.2.mono (Nat.le_refl _) (by show o2.1 ≤ o2.1 + 1 - 1; omega) (uh_le d)⟩, by show t < o2.1 + 1; omega, by show _ ≤ PL T (o2.1 + 1); omega⟩
        · rw [ho] at he
          cases he
          have hu := h.2.2.2.2.2.1
          refine c_nadd c1.2.2.2.2.1 (by omega) ?_
          have ci2 := cst σ σ' u p v hu c1
          have agm := AG.mk σ'.2.2 (u := u + sz T a) (Nat.le_refl _) 16 (nI p) v 1 1 0
          have avm := AV.mk σ'.2.2 (u := u + sz T a) (Nat.le_refl _) 16 (nI p) v 1 1 0
          refine c_take hg.1 ci2 (by omega) (by omega) (by omega) (fun _ z1 z2 z3 ci3 => ?_) (fun z => absurd C z)
          exact hY a rfl _ ci3 (c2.tr agm (Nat.le_refl _) (Nat.le_refl _) (Nat.le_refl _) (by omega)) (c3.tr avm (Nat.le_refl _) (Nat.le_refl _) (Nat.le_refl _) (by omega)) (CS.fr agm a _ c4 (by omega) (by omega)) (CV.fr avm a _ c5 (by omega) (by omega)) ⟨pk_us, pk_us, pk_us⟩
        · rw [ho] at he
          cases he
          refine m_take hN b1 (by omega) (by omega) (fun _ => ?_) (fun z => absurd C z)
          refine hY a rfl _ q' z ⟨b1.1, rfl, hnf2.2, b1.2.2.2.1, b1.2.2.2.2.1, by have := b1.2.2.2.2.2; show q' ≤ o2.1 + 1 + 1; omega⟩ b2 ?_ b4 ?_ (ME.fr (τ := τ') _ _ _ _ (fun _ _ _ => ⟨rfl, rfl, rfl⟩) (fun _ _ _ _ => rfl) b6) b7
          · obtain ⟨c1, c2, c3, c4, c5⟩ := b3
            exact ⟨c1, c2, c3, c4, c5⟩
          · cases sl with
            | none => exact b5
            | some y => exact b5
      · refine ⟨(o2.1, none), ⟨fun e he => (by cases he), by show t ≤ o2.1; omega, q3⟩, fun n hn2 σ u p v post h hY hF => cgo n hn2 σ u p v post h (fun e he σ' c1 c2 c3 c4 c5 => ?_) (fun he => by rw [ho] at he; cases he), fun n hn2 τ q s sl post h hs hy hsl hY hF => mgo n hn2 τ q s sl post h hs hy hsl (fun e he τ' q' z b1 b2 b3 b4 b5 b6 b7 => ?_) (fun he => by rw [ho] at he; cases he)⟩
        · rw [ho] at he
          cases he
          have hu := h.2.2.2.2.2.1
          refine c_nadd c1.2.2.2.2.1 (by omega) ?_
          exact c_take hg.1 (cst σ σ' u p v hu c1) (by omega) (by omega) (by omega) (fun z => absurd z C) (fun _ σ3 c => hF rfl σ3 c)
        · refine m_take hN b1 (by omega) (by omega) (fun z => absurd z C) (fun _ => ?_)
          refine hF rfl _ q' (MB.of b1 (by omega)) b2 ?_ b4
          obtain ⟨c1, c2, c3, c4, c5⟩ := b3
          exact ⟨c1, c2, c3, c4, c5⟩
  · refine ⟨(t, none), ⟨fun e he => (by cases he), Nat.le_refl _, ht⟩, fun n hn2 σ u p v post h hY hF => ?_, fun n hn2 τ q s sl post h hs hy hsl hY hF => ?_⟩
    · exact c_take hg.1 h (k := 61) (by omega) (by omega) (by omega) (fun z => absurd z E) (fun _ σ' c => ⟨fun _ => hF rfl σ' c, fun c => absurd rfl c⟩)
    · obtain ⟨n', rfl⟩ : ∃ n', n = n' + 2 := ⟨n - 2, by omega⟩
      obtain ⟨a1, a2, a3, a4, a5, a6⟩ := id h
      refine m_take (k := 61) hN h (by omega) (by omega) (fun z => absurd z E) (fun _ => ?_)
      have hb : MB T N 1 (((τ.1.1.1, ((τ.1.1.2.1.1, (1, τ.1.1.2.1.2.2)), τ.1.1.2.2)), τ.1.2), τ.2) t q := MB.of h (Nat.le_refl _)
      refine m_exprB hb (by omega) (fun τ' c1 c2 c3 c4 => ?_)
      refine m_addS (sl := sl) (by omega) (hsl τ' c3) ?_
      have hb2 : MB T N 3 (slot τ' s sl (nI q)) t (q + 1) := slot_mb ⟨c1.1, c1.2.1, c1.2.2.1, c1.2.2.2.1, c1.2.2.2.2.1, by have := c1.2.2.2.2.2; omega⟩
      refine m_takeB hb2 (hF rfl _ (q + 1) hb2 (by omega) ?_ (SP.slot c3))
      exact MOF.tr (b := τ') ⟨c2.1, c2.2.1, c2.2.2.1, c2.2.2.2.1, c2.2.2.2.2⟩ (slot_of _ _ _ _)
end Stmt2
