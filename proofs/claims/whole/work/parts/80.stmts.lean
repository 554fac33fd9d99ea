section Stmts
/-- a STATEMENT in d others -/
def SS (T : TX) (N L : Nat) (t8 : SX8) (d f g : Nat) : Prop := ∀ t, t < N → ∃ o, GoodS T N t o 1 (31 - d) ∧ (TK T t = 125 ∨ TK T t = 0 → o = (t, none)) ∧ (∀ n, f ≤ n → CSt T N L t8 1 1 [nI d] t o n) ∧ (∀ n, g ≤ n → MSt T N [nI d] t o n)
/-- a loop of the reference that reads statements into node b -/
def LoopM (T : TX) (N : Nat) (b d n : Nat) (sp : Nat → Prop) (fin : SX12 → Prop) (W : Nat → SX12 → Prop) : Prop :=
  (∀ M τ t q, MI T N τ t q → sp (TK T t) → fin τ → W (M + 1) τ) ∧
  (∀ M τ t q, MI T N τ t q → ¬ sp (TK T t) → wg_st n 0 τ [nI d] (fun r τ4 => wp_X12_add τ4 (nI b) r (fun τ7 => W M τ7)) → W (M + 1) τ) ∧
  (∀ M τ t q, MB T N 3 τ t q → fin τ → W (M + 1) τ)
theorem stmts {T : TX} {N L : Nat} {t8 : SX8} {d f g : Nat} (hg : GL T N L) (hS : SS T N L t8 d f g) : ∀ m t, N - t ≤ m → t < N → ∃ o : RO, ((∀ e, o.2 = some e → (WFS T N e 0 ∧ XS T e 0 t o.1 (31 - d)) ∧ PL T t + szS T e 0 ≤ PL T o.1 ∧ (TK T o.1 = 125 ∨ TK T o.1 = 0)) ∧ t ≤ o.1 ∧ o.1 < N) ∧
    (∀ n, f ≤ n → ∀ M i, N - t < M → i ≤ t → ∀ (σ : WSX7) (u : Nat) (post : WSX7 → Prop), CI T N L t8 σ t u →
      (∀ e, o.2 = some e → ∀ σ', CI T N L t8 σ' o.1 (u + szS T e 0) → AG σ.2.2 σ'.2.2 0 u → AV σ.2.2 σ'.2.2 0 u → CB T σ'.2.2 e 0 u → CW T σ'.2.2 e 0 u → post σ') →
      (o.2 = none → ∀ σ', CF T N L t8 σ' o.1 → post σ') → wp_X7_statements_2 (wg_rd n) post M σ (nI d) (nI i)) ∧
    (∀ n, g ≤ n → ∀ (b : Nat) (sp : Nat → Prop) (fin : SX12 → Prop) (W : Nat → SX12 → Prop), (∀ k, sp k → k = 125 ∨ k = 0) → LoopM T N b d n sp fin W → ∀ M, N - t < M → ∀ (τ : SX12) (q : Nat) (sl : Option Nat), MI T N τ t q → b < q → slotB τ q b sl →
      (∀ e, o.2 = some e → sp (TK T o.1) → ∀ τ' q' x, MI T N τ' o.1 q' → q ≤ q' → MOF τ τ' → SP τ τ' q b sl → SV τ' b sl x → MS T τ' e 0 q q' x → fin τ') →
      (o.2 = none ∨ ¬ sp (TK T o.1) → ∀ τ' q', MB T N 3 τ' o.1 q' → q ≤ q' → MOF τ τ' → SP τ τ' q b sl → fin τ') → W M τ) := by
  have hn := hg.2.1
  have hN : N ≤ 3001 := by have := hg.1.2.1; omega
  intro m
  induction m with
  | zero => intro t h1 h2; omega
  | succ m ih =>
    intro t hm ht
    have hkr := TK_r T t
    obtain ⟨o1, ⟨g1, g2, g3⟩, g4, g5, g6⟩ := hS t ht
    -- a step of the reference's loop
    have mstep : ∀ n, g ≤ n → ∀ (b : Nat) (sp : Nat → Prop) (fin : SX12 → Prop) (W : Nat → SX12 → Prop), LoopM T N b d n sp fin W → ¬ sp (TK T t) → ∀ M, ∀ (τ : SX12) (q : Nat) (sl : Option Nat), MI T N τ t q → b < q → slotB τ q b sl →
        (∀ e, o1.2 = some e → ∀ τ' q' i, MI T N τ' o1.1 q' → q ≤ i → i < q' → MOF τ τ' → HP τ τ' q → τ'.1.2.1.1.1 i = -1 → MS T τ' e 1 q q' (nI i) → W (M + 1) (slot τ' b sl (nI i))) →
        (o1.2 = none → ∀ τ' q', MB T N 3 τ' o1.1 q' → q ≤ q' → MOF τ τ' → SP τ τ' q b sl → fin τ') → W (M + 1 + 1) τ := by
      intro n hgn b sp fin W hW hsp M τ q sl h hb hsl hY hF
      have hq6 := h.2.2.2.2.2
      refine hW.2.1 (M + 1) τ t q h hsp (g6 n hgn τ q _ h (fun e he τ' q' i b1 b2 b3 b4 b5 b6 b7 => ?_) (fun he τ' q' i b1 b2 b3 b4 b5 b6 => ?_))
      · exact m_addS (sl := sl) (by omega) (hsl.ok (by omega) hb b5) (hY e he τ' q' i b1 b2 b3 b4 b5 b6 b7)
      · have hq7 := b1.2.2.2.2.2
        refine m_addS (sl := sl) (by omega) (hsl.ok (by omega) hb b3) ?_
        have hmb : MB T N 3 (slot τ' b sl (nI i)) o1.1 q' := slot_mb b1
        exact hW.2.2 M _ o1.1 q' hmb (hF he _ q' hmb (by omega) (b2.tr (slot_of _ _ _ _)) (SP.slot b3))
    by_cases hst : TK T t = 125 ∨ TK T t = 0
    · have ho1 := g4 hst
      refine ⟨(t, some (.leaf 0)), ⟨fun e he => ?_, Nat.le_refl _, ht⟩, fun n hn2 M i hM hi σ u post h hY hF => ?_, fun n hn2 b sp fin W hsp hW M hM τ q sl h hb hsl hY hF => ?_⟩
      · cases he
        exact ⟨⟨rfl, Nat.le_refl t⟩, Nat.le_refl _, hst⟩
      · obtain ⟨M', rfl⟩ : ∃ M', M = M' + 1 := ⟨M - 1, by omega⟩
        obtain ⟨a1, a2, a3, a4, a5, a6, a7⟩ := id h
        have done : post σ := hY (.leaf 0) rfl σ h (AG.rf _ _ _) (AV.rf _ _ _) trivial trivial
        show wb_X7_statements_2 (wg_rd n) post _ σ (nI d) (nI i)
        refine ⟨fun _ => done, fun _ => ⟨fun _ => done, fun _ => c_kind a2 a3 a4 ⟨fun _ => done, fun c => c_kind a2 a3 a4 ⟨fun c2 => ?_, fun _ => done⟩⟩⟩⟩
        exfalso
        rcases hst with z | z
        · exact c (by rw [z]; rfl)
        · exact c2 (by rw [z]; rfl)
      · by_cases hs : sp (TK T t)
        · obtain ⟨M', rfl⟩ : ∃ M', M = M' + 1 := ⟨M - 1, by omega⟩
          refine hW.1 M' τ t q h hs (hY (.leaf 0) rfl hs τ q (-1) h (Nat.le_refl _) (MOF.rf τ) (SP.hp (HP.rf τ q)) ?_ rfl)
          cases sl with
          | none => exact hsl
          | some y =>
            obtain ⟨c, l, k1, k2, k3, k4⟩ := hsl
            have := Ch.end l c k3
            rw [k4] at this
            exact this
        · by_cases hM1 : M = 1
          · omega
          · obtain ⟨M', rfl⟩ : ∃ M', M = M' + 1 + 1 := ⟨M - 2, by omega⟩
            refine mstep n hn2 b sp fin W hW hs M' τ q sl h hb hsl (fun e he => by rw [ho1] at he; cases he) (fun _ τ' q' b1 b2 b3 b4 => ?_)
            rw [ho1] at b1
            exact hF (Or.inr hs) τ' q' b1 b2 b3 b4
    · have nsp : ∀ sp : Nat → Prop, (∀ k, sp k → k = 125 ∨ k = 0) → ¬ sp (TK T t) := fun sp h z => hst (h _ z)
      -- a step of the class's loop
      have cstep : ∀ n, f ≤ n → ∀ M i, i ≤ t → ∀ (σ : WSX7) (u : Nat) (post : WSX7 → Prop), CI T N L t8 σ t u →
          (∀ e, o1.2 = some e → ∀ σ', CI T N L t8 σ' o1.1 (u + szS T e 1) → AG σ.2.2 σ'.2.2 0 u → AV σ.2.2 σ'.2.2 0 u → CB T σ'.2.2 e 1 u → CW T σ'.2.2 e 1 u → wp_X7_statements_2 (wg_rd n) post (M + 1) σ' (nI d) (nI (i + 1))) →
          (o1.2 = none → ∀ σ', CF T N L t8 σ' o1.1 → post σ') → (t + 1 < N ∨ o1.2 = none) → wp_X7_statements_2 (wg_rd n) post (M + 1 + 1) σ (nI d) (nI i) := by
        intro n hn2 M i hi σ u post h hY hF hlast
        obtain ⟨a1, a2, a3, a4, a5, a6, a7⟩ := id h
        show wb_X7_statements_2 (wg_rd n) post _ σ (nI d) (nI i)
        have go : wg_rd n 1 σ [nI d] (fun _ τ6 => wp_X7_statements_2 (wg_rd n) post (M + 1) τ6 (nI d) (nI i + 1)) := by
          refine g5 n hn2 σ u _ h (fun e he σ' c1 c2 c3 c4 c5 => ?_) (fun he σ' c1 => ?_)
          · have := hY e he σ' c1 c2 c3 c4 c5
            rw [← nI_1] at this
            exact this
          · have done := hF he σ' c1
            show wb_X7_statements_2 (wg_rd n) post _ σ' (nI d) (nI i + 1)
            exact ⟨fun _ => done, fun _ => ⟨fun _ => done, fun c => absurd c (c1.ne hn)⟩⟩
        refine ⟨fun c => ?_, fun _ => ⟨fun c => absurd a1 c, fun _ => c_kind a2 a3 a4 ⟨fun c => absurd (Or.inl ((nI_eq (b := 125) (by omega) (by omega)).mp c)) hst, fun _ => c_kind a2 a3 a4 ⟨fun _ => go, fun c => absurd (Or.inr ((nI_eq (b := 0) (by omega) (by omega)).mp c)) hst⟩⟩⟩⟩
        have c := (nI_leI (a := 3000) (by omega) (by omega)).mp c
        exfalso
        have hge := PL_ge t (fun s hs => hg.1.2.2.2 s (by omega))
        exact hst (Or.inr (kdA_end (T := T) (p := PL T t) (by omega)).1)
      cases ho : o1.2 with
      | none =>
        refine ⟨(o1.1, none), ⟨fun e he => (by cases he), g2, g3⟩, fun n hn2 M i hM hi σ u post h hY hF => ?_, fun n hn2 b sp fin W hsp hW M hM τ q sl h hb hsl hY hF => ?_⟩
        · obtain ⟨M', rfl⟩ : ∃ M', M = M' + 1 + 1 := ⟨M - 2, by omega⟩
          exact cstep n hn2 M' i hi σ u post h (fun e he => by rw [ho] at he; cases he) (fun _ σ' c => hF rfl σ' c) (Or.inr ho)
        · obtain ⟨M', rfl⟩ : ∃ M', M = M' + 1 + 1 := ⟨M - 2, by omega⟩
          exact mstep n hn2 b sp fin W hW (nsp sp hsp) M' τ q sl h hb hsl (fun e he => by rw [ho] at he; cases he) (fun _ τ' q' b1 b2 b3 b4 => hF (Or.inl rfl) τ' q' b1 b2 b3 b4)
      | some e1 =>
        obtain ⟨w1, t1, p1⟩ := g1 e1 ho
        obtain ⟨o, ⟨q1, q2, q3⟩, q4, q5⟩ := ih o1.1 (by omega) g3
        refine ⟨(o.1, o.2.map (fun e => .branch 0 e1 e)), ⟨fun e he => ?_, by show t ≤ o.1; omega, q3⟩, fun n hn2 M i hM hi σ u post h hY hF => ?_, fun n hn2 b sp fin W hsp hW M hM τ q sl h hb hsl hY hF => ?_⟩
        · cases h2 : o.2 with
          | none =>
            rw [h2] at he
            cases he
          | some e2 =>
            rw [h2] at he
            cases he
            obtain ⟨z1, z2, z3⟩ := q1 e2 h2
            refine ⟨⟨?_, ?_⟩, ?_, z3⟩
            · show (if 0 = 0 then _ else _)
              rw [if_pos rfl]
              exact ⟨w1.1, z1.1⟩
            · show (if 0 = 0 then _ else _)
              rw [if_pos rfl]
              exact ⟨o1.1, w1.2, z1.2⟩
            · show _ + (if 0 = 0 then _ else _) ≤ _
              rw [if_pos rfl]
              show _ ≤ PL T o.1
              omega
        · obtain ⟨M', rfl⟩ : ∃ M', M = M' + 1 + 1 := ⟨M - 2, by omega⟩
          refine cstep n hn2 M' i hi σ u post h (fun e he σ' c1 c2 c3 c4 c5 => ?_) (fun he => by rw [ho] at he; cases he) (Or.inl (by omega))
          rw [ho] at he
          cases he
          refine q4 n hn2 (M' + 1) (i + 1) (by omega) (by omega) σ' (u + szS T e1 1) post c1 (fun e he σ3 d1 d2 d3 d4 d5 => ?_) (fun he σ3 d1 => hF (by rw [he]; rfl) σ3 d1)
          refine hY (.branch 0 e1 e) (by rw [he]; rfl) σ3 ?_ (c2.tr d2 (Nat.le_refl _) (Nat.le_refl _) (Nat.le_refl _) (by omega)) (c3.tr d3 (Nat.le_refl _) (Nat.le_refl _) (Nat.le_refl _) (by omega)) ?_ ?_
          · have es : szS T (.branch 0 e1 e) 0 = szS T e1 1 + szS T e 0 := by
              show (if 0 = 0 then _ else _) = _
              rw [if_pos rfl]
            rw [es, show u + (szS T e1 1 + szS T e 0) = u + szS T e1 1 + szS T e 0 by omega]
            exact d1
          · show (if 0 = 0 then _ else _)
            rw [if_pos rfl]
            exact ⟨CB.fr d2 d3 e1 1 u (by omega) c4 (by rw [if_neg (by omega)]; omega) (by omega), d4⟩
          · show (if 0 = 0 then _ else _)
            rw [if_pos rfl]
            exact ⟨CW.fr d3 e1 1 u (by omega) c5 (by omega) (by omega), d5⟩
        · obtain ⟨M', rfl⟩ : ∃ M', M = M' + 1 + 1 := ⟨M - 2, by omega⟩
          refine mstep n hn2 b sp fin W hW (nsp sp hsp) M' τ q sl h hb hsl (fun e he τ' q' i b1 b2 b3 b4 b5 b6 b7 => ?_) (fun he => by rw [ho] at he; cases he)
          rw [ho] at he
          cases he
          have hq7 := b1.2.2.2.2.2
          have hspr : ∀ τ3, SP (slot τ' b sl (nI i)) τ3 q' b (some i) → SP τ τ3 q b sl ∧ SV τ3 b sl (nI i) := by
            intro τ3 hsp3
            have hs2 := SP.slot (s := b) (sl := sl) (z := nI i) b5
            have hv2 := SV.slot τ' b sl (nI i)
            refine ⟨fun j hj => ?_, ?_⟩
            · obtain ⟨x1, x2, x3, x4⟩ := hsp3 j (by omega)
              obtain ⟨y1, y2, y3, y4⟩ := hs2 j hj
              exact ⟨x1.trans y1, x2.trans y2, fun c => (x3 (fun z => by cases z.1)).trans (y3 c), fun c => (x4 (fun z => by cases z; omega)).trans (y4 c)⟩
            · cases sl with
              | none => exact ((hsp3 b (by omega)).2.2.1 (fun z => by cases z.1)).trans hv2
              | some y =>
                have := hsl.lt
                exact ((hsp3 y (by omega)).2.2.2 (fun z => by cases z; omega)).trans hv2
          refine q5 n hn2 b sp fin W hsp hW (M' + 1) (by omega) (slot τ' b sl (nI i)) q' (some i) (slot_mi b1) (by omega) (hsl.add hb b2 b3 (by omega) b6 b5) (fun e he hs τ3 q3' x d1 d2 d3 d4 d5 d6 => ?_) (fun he τ3 q3' d1 d2 d3 d4 => ?_)
          · obtain ⟨s1, s2⟩ := hspr τ3 d4
            refine hY (.branch 0 e1 e) (by rw [he]; rfl) hs τ3 q3' (nI i) d1 (by omega) (b4.tr ((slot_of _ _ _ _).tr d3)) s1 s2 ?_
            show (if 0 = 0 then _ else _)
            rw [if_pos rfl]
            have hq8 := d1.2.2.2.2.2
            have d5' : τ3.1.2.1.1.1 i = x := d5
            refine ⟨i, q, q', q', q3', rfl, Nat.le_refl _, b2, b3, d2, Nat.le_refl _, Nat.le_refl _, ?_, by rw [d5']; exact d6⟩
            refine MS.fr (τ := τ') e1 1 q q' (nI i) (by omega) (fun j j1 j2 => ?_) (fun j j1 j2 j3 => ?_) b7
            · obtain ⟨x1, x2, x3, x4⟩ := d4 j j2
              cases sl with
              | none => exact ⟨x1, x2, (x3 (fun z => by cases z.1)).trans (pk_un (k := b) (by omega))⟩
              | some y => exact ⟨x1, x2, x3 (fun z => by cases z.1)⟩
            · obtain ⟨x1, x2, x3, x4⟩ := d4 j j2
              have ji : ¬ j = i := fun z => j3 rfl (by rw [z])
              refine (x4 (fun z => by cases z; exact ji rfl)).trans ?_
              cases sl with
              | none => rfl
              | some y =>
                have := hsl.lt
                exact pk_un (k := y) (by omega)
          · obtain ⟨s1, s2⟩ := hspr τ3 d4
            refine hF (he.elim (fun z => Or.inl (by rw [z]; rfl)) (fun z => Or.inr z)) τ3 q3' d1 (by omega) (b4.tr ((slot_of _ _ _ _).tr d3)) s1
end Stmts
