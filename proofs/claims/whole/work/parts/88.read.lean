section ReadAll
def szD : List DD → Nat
  | [] => 0
  | x :: ds => 1 + bN x.2.2 + szD ds
def dnS : List DD → Nat
  | [] => 0
  | x :: ds => dn x + dnS ds
/-- DECLARATIONs one behind the other, from token t on to token t' -/
def WFDs (T : TX) (N : Nat) : List DD → Nat → Nat → Prop
  | [], t, t' => t = t'
  | x :: ds, t, t' => x.1 = t ∧ WFD T N x ∧ WFDs T N ds (ndk x) t'
def CD (T : TX) (σ : SX4) : List DD → Nat → Prop
  | [], _ => True
  | x :: ds, s => nv σ s 11 (PL T (ntk x)) (nI (mann T x)) ∧ (x.2.2 = true → nv σ (s + 1) 12 (PL T (ntk x + 2)) (nI (NB T (ntk x + 2)))) ∧ CD T σ ds (s + 1 + bN x.2.2)
theorem CD.fr {T : TX} {σ σ' : SX4} {lo hi : Nat} (ha : AG σ σ' lo hi) (hv : AV σ σ' lo hi) : ∀ (ds : List DD) (s : Nat), CD T σ ds s → lo ≤ s → s + szD ds ≤ hi → CD T σ' ds s := by
  intro ds
  induction ds with
  | nil => intro s _ _ _; trivial
  | cons x ds ih =>
    intro s h h1 h2
    have e : szD (x :: ds) = 1 + bN x.2.2 + szD ds := rfl
    refine ⟨h.1.fr ha hv h1 (by omega), fun c => ?_, ih _ h.2.2 (by omega) (by omega)⟩
    have : bN x.2.2 = 1 := by rw [c]; rfl
    exact (h.2.1 c).fr ha hv (by omega) (by omega)
def lnk (ds : List DD) (q : Nat) (x : Int32) : Int32 := match ds with | [] => x | _ :: _ => nI q
def MDx (T : TX) (τ : SX12) : List DD → Nat → Int32 → Prop
  | [], _, _ => True
  | d :: ds, q, x => DNk T τ d q ∧ τ.1.2.1.1.1 q = lnk ds (q + dn d) x ∧ MDx T τ ds (q + dn d) x
abbrev ROP : Type := Nat × Option (List DD × Tr)
theorem read39F {T : TX} {N L : Nat} {t8 : SX8} {t : Nat} {σ : WSX7} {post : Int32 → WSX7 → Prop} (hn : T.2 ≤ 3000) (h : CF T N L t8 σ t) (hp : post (nI (PL T t)) σ) : wp_X7_read_39 post σ := by
  refine ⟨1, by omega, ⟨1, ?_⟩⟩
  have done : wp_X7_take σ 0 (fun r4 τ5 => post τ5.1.1 τ5) := c_takeF h hn (by rw [h.1]; exact hp)
  show wb_X7_statements_2 (wg_rd 0) (fun τ2 => wp_X7_take τ2 0 (fun r4 τ5 => post τ5.1.1 τ5)) (fun _ => False) σ 0 0
  exact ⟨fun _ => done, fun _ => ⟨fun _ => done, fun c => absurd c (h.ne hn)⟩⟩
theorem prog {T : TX} {N L : Nat} {t8 : SX8} (hg : GL T N L) : ∀ m t, N - t ≤ m → t < N → ∃ o : ROP,
    ((∀ ds e, o.2 = some (ds, e) → (∃ t1, WFDs T N ds t t1 ∧ t ≤ t1 ∧ WFS T N e 0 ∧ XS T e 0 t1 o.1 31) ∧ PL T t + szD ds + szS T e 0 ≤ PL T o.1 ∧ TK T o.1 = 0) ∧ t ≤ o.1 ∧ o.1 < N) ∧
    (∀ M i, N - t < M → i ≤ t → ∀ (σ : WSX7) (u : Nat) (post : Int32 → WSX7 → Prop), CI T N L t8 σ t u →
      (∀ ds e, o.2 = some (ds, e) → ∀ σ', σ'.1.1 = -1 → NW σ'.2.2 (u + szD ds + szS T e 0) L → σ'.2.1 = t8 → σ'.1.2.1.1.1 < 2 ^ 31 → AG σ.2.2 σ'.2.2 0 u → AV σ.2.2 σ'.2.2 0 u → CD T σ'.2.2 ds u → CB T σ'.2.2 e 0 (u + szD ds) → CW T σ'.2.2 e 0 (u + szD ds) → post (-1) σ') →
      (o.2 = none → ∀ σ', CF T N L t8 σ' o.1 → post (nI (PL T o.1)) σ') → wp_X7_read_7 post M σ (nI i)) ∧
    (∀ (b : Nat) (post : Int32 → SX12 → Prop) M, N - t < M → ∀ (τ : SX12) (q : Nat) (sl : Option Nat), MI T N τ t q → b < q → slotB τ q b sl →
      (∀ ds e, o.2 = some (ds, e) → ∀ τ' q' x, MI T N τ' o.1 q' → MOF τ τ' → SP τ τ' q b sl → SV τ' b sl (lnk ds q x) → MDx T τ' ds q x → q + dnS ds ≤ q' → MS T τ' e 0 (q + dnS ds) q' x → post (nI b) τ') →
      (o.2 = none → ∀ τ' q', MB T N 3 τ' o.1 q' → MOF τ τ' → post (nI b) τ') → wp_X12_program_9 post M τ (nI b)) := by
  have hn := hg.2.1
  have hN : N ≤ 3001 := by have := hg.1.2.1; omega
  have hL := hg.2.2.1
  intro m
  induction m with
  | zero => intro t h1 h2; omega
  | succ m ih =>
    intro t hm ht
    have hkr := TK_r T t
    by_cases K : TK T t = 4 ∨ TK T t = 5
    · obtain ⟨o1, ⟨p1, p2, p3⟩, p4, p5⟩ := decl (t8 := t8) hg ht K
      have hnf := not_fin hg.1 ht (k := TK T t) rfl (by omega) (by omega)
      have cstep : ∀ M i, i ≤ t → ∀ (σ : WSX7) (u : Nat) (post : Int32 → WSX7 → Prop), CI T N L t8 σ t u → wp_X7_declaration σ (fun τ9 => wp_X7_read_7 post M τ9 (nI (i + 1))) → wp_X7_read_7 post (M + 1) σ (nI i) := by
        intro M i hi σ u post h w
        obtain ⟨a1, a2, a3, a4, a5, a6, a7⟩ := id h
        show wb_X7_read_7 post _ σ (nI i)
        have w2 : wp_X7_declaration σ (fun τ9 => wp_X7_read_7 post M τ9 (nI i + 1)) := by
          rw [nI_1]
          exact w
        refine ⟨fun c => absurd ((nI_leI (a := 3000) (by omega) (by omega)).mp c) (by omega), fun _ => ⟨fun c => absurd a1 c, fun _ => c_kind a2 a3 a4 ⟨fun c => ⟨fun c => absurd c (by decide), fun _ => w2⟩, fun c => c_kind a2 a3 a4 ⟨fun c2 => ⟨fun _ => ?_, fun c => absurd rfl c⟩, fun c2 => ⟨fun c => absurd c (by decide), fun _ => w2⟩⟩⟩⟩⟩
        exfalso
        rcases K with z | z
        · exact c (by rw [z]; rfl)
        · exact c2 (by rw [z]; rfl)
      have mstep : ∀ (b : Nat) (post : Int32 → SX12 → Prop) M, ∀ (τ : SX12) (q : Nat), MI T N τ t q → wp_X12_program_42 (fun a => wp_X12_program_9 post M a.1 a.2) post τ (nI b) → wp_X12_program_9 post (M + 1) τ (nI b) := by
        intro b post M τ q h w
        obtain ⟨a1, a2, a3, a4, a5, a6⟩ := id h
        show wb_X12_program_9 post _ τ (nI b)
        refine ⟨fun c => absurd a1 c, fun _ => ?_⟩
        show vp_in τ.1.1.2.1.1 3002 ∧ ((τ.1.1.1.2.1 (τ.1.1.2.1.1).toNatClampNeg = 3 → _) ∧ (¬ τ.1.1.1.2.1 (τ.1.1.2.1.1).toNatClampNeg = 3 → vp_in τ.1.1.2.1.1 3002 ∧ ((¬ τ.1.1.1.2.1 (τ.1.1.2.1.1).toNatClampNeg = 4 → _) ∧ (τ.1.1.1.2.1 (τ.1.1.2.1.1).toNatClampNeg = 4 → _))))
        have w2 : wp_X12_program_42 (fun a => wp_X12_program_9 post M a.1 a.2) post τ (nI b) := w
        rw [a2, nI_clamp (by omega), m_tok a4 a3]
        refine ⟨in_k (by omega) (by omega), fun _ => w2, fun c => ⟨in_k (by omega) (by omega), fun c2 => ?_, fun _ => w2⟩⟩
        exfalso
        rcases K with z | z
        · exact c (by rw [z]; rfl)
        · exact c2 (by rw [z]; rfl)
      cases ho : o1.2 with
      | none =>
        refine ⟨(o1.1, none), ⟨fun ds e he => (by cases he), by show t ≤ o1.1; omega, p3⟩, fun M i hM hi σ u post h hY hF => ?_, fun b post M hM τ q sl h hb hsl hY hF => ?_⟩
        · obtain ⟨M', rfl⟩ : ∃ M', M = M' + 1 + 1 := ⟨M - 2, by omega⟩
          refine cstep (M' + 1) i hi σ u post h (p4 σ u _ h (fun x hx => by rw [ho] at hx; cases hx) (fun _ σ' c => ?_))
          have done := read39F hn c (hF rfl σ' c)
          show wb_X7_read_7 post _ σ' _
          exact ⟨fun _ => done, fun _ => ⟨fun _ => done, fun c2 => absurd c2 (c.ne hn)⟩⟩
        · obtain ⟨M', rfl⟩ : ∃ M', M = M' + 1 + 1 := ⟨M - 2, by omega⟩
          have hq6 := h.2.2.2.2.2
          refine mstep b post (M' + 1) τ q h (p5 τ q b _ post h (fun x hx => by rw [ho] at hx; cases hx) (fun _ τ' q' b1 b2 b3 b4 b5 => ?_))
          refine m_addS (sl := sl) (by omega) (hsl.ok (by omega) hb b4) ?_
          have mb : MB T N 3 (slot τ' b sl (nI q)) o1.1 q' := slot_mb b1
          have fin := hF rfl _ q' mb (b3.tr (slot_of _ _ _ _))
          generalize (slot τ' b sl (nI q)) = τ1 at *
          show wb_X12_program_9 post _ τ1 (nI b)
          have nb : ¬ τ1.1.1.2.1.2.1 = 0 := fun c => absurd (mb.1.symm.trans c) (by decide)
          exact ⟨fun _ => ⟨1, ⟨fun _ => fin, fun c => absurd c nb⟩⟩, fun c => absurd c nb⟩
      | some x =>
        obtain ⟨e1, w1, e2⟩ := p1 x ho
        obtain ⟨o, ⟨q1, q2, q3⟩, q4, q5⟩ := ih o1.1 (by omega) p3
        have hPL : PL T t + 1 + bN x.2.2 ≤ PL T o1.1 := by
          obtain ⟨_, _, _, _, z1, z2, _⟩ := w1
          rw [e1] at z1
          rw [← e2] at z2
          omega
        refine ⟨(o.1, o.2.map (fun p => (x :: p.1, p.2))), ⟨fun ds e he => ?_, by show t ≤ o.1; omega, q3⟩, fun M i hM hi σ u post h hY hF => ?_, fun b post M hM τ q sl h hb hsl hY hF => ?_⟩
        · cases h2 : o.2 with
          | none =>
            rw [h2] at he
            cases he
          | some p =>
            rw [h2] at he
            cases he
            obtain ⟨⟨t1, z1, z2, z3, z4⟩, z5, z6⟩ := q1 p.1 p.2 h2
            refine ⟨⟨t1, ⟨e1, w1, by rw [← e2]; exact z1⟩, by omega, z3, z4⟩, ?_, z6⟩
            show PL T t + (1 + bN x.2.2 + szD p.1) + szS T p.2 0 ≤ PL T o.1
            omega
        · obtain ⟨M', rfl⟩ : ∃ M', M = M' + 1 + 1 := ⟨M - 2, by omega⟩
          refine cstep (M' + 1) i hi σ u post h (p4 σ u _ h (fun x' hx σ' c1 c2 c3 c4 c5 => ?_) (fun he => by rw [ho] at he; cases he))
          rw [ho] at hx
          cases hx
          refine q4 (M' + 1) (i + 1) (by omega) (by omega) σ' (u + 1 + bN x.2.2) post c1 (fun ds e he σ3 d1 d2 d3 d4 d5 d6 d7 d8 d9 => ?_) (fun he σ3 d1 => hF (by rw [he]; rfl) σ3 d1)
          have es : szD (x :: ds) = 1 + bN x.2.2 + szD ds := rfl
          refine hY (x :: ds) e (by rw [he]; rfl) σ3 d1 ?_ d3 d4 (c2.tr d5 (Nat.le_refl _) (Nat.le_refl _) (Nat.le_refl _) (by omega)) (c3.tr d6 (Nat.le_refl _) (Nat.le_refl _) (Nat.le_refl _) (by omega)) ⟨c4.fr d5 d6 (by omega) (by omega), fun c => ?_, d7⟩ ?_ ?_
          · rw [es, show u + (1 + bN x.2.2 + szD ds) + szS T e 0 = u + 1 + bN x.2.2 + szD ds + szS T e 0 by omega]
            exact d2
          · have : bN x.2.2 = 1 := by rw [c]; rfl
            exact (c5 c).fr d5 d6 (by omega) (by omega)
          · rw [es, show u + (1 + bN x.2.2 + szD ds) = u + 1 + bN x.2.2 + szD ds by omega]
            exact d8
          · rw [es, show u + (1 + bN x.2.2 + szD ds) = u + 1 + bN x.2.2 + szD ds by omega]
            exact d9
        · obtain ⟨M', rfl⟩ : ∃ M', M = M' + 1 + 1 := ⟨M - 2, by omega⟩
          have hq6 := h.2.2.2.2.2
          refine mstep b post (M' + 1) τ q h (p5 τ q b _ post h (fun x' hx τ' b1 b2 b3 b4 b5 => ?_) (fun he => by rw [ho] at he; cases he))
          rw [ho] at hx
          cases hx
          have hdn : 2 ≤ dn x := by unfold dn; omega
          have hq7 := b1.2.2.2.2.2
          refine m_addS (sl := sl) (by omega) (hsl.ok (by omega) hb b3) ?_
          refine q5 b post (M' + 1) (by omega) (slot τ' b sl (nI q)) (q + dn x) (some q) (slot_mi b1) (by omega) (hsl.add hb (Nat.le_refl _) (by omega) (by omega) b4 b3) (fun ds e he τ3 q3' y d1 d2 d3 d4 d5 d6 d7 => ?_) (fun he τ3 q3' d1 d2 => hF (by rw [he]; rfl) τ3 q3' d1 (b2.tr ((slot_of _ _ _ _).tr d2)))
          have es : dnS (x :: ds) = dn x + dnS ds := rfl
          have hs2 := SP.slot (s := b) (sl := sl) (z := nI q) b3
          have hv2 := SV.slot τ' b sl (nI q)
          refine hY (x :: ds) e (by rw [he]; rfl) τ3 q3' y d1 (b2.tr ((slot_of _ _ _ _).tr d2)) (fun j hj => ?_) ?_ ⟨?_, d4, d5⟩ (by rw [es]; omega) (by rw [es, show q + (dn x + dnS ds) = q + dn x + dnS ds by omega]; exact d7)
          · obtain ⟨x1, x2, x3, x4⟩ := d3 j (by omega)
            obtain ⟨y1, y2, y3, y4⟩ := hs2 j hj
            exact ⟨x1.trans y1, x2.trans y2, fun c => (x3 (fun z => by cases z.1)).trans (y3 c), fun c => (x4 (fun z => by cases z; omega)).trans (y4 c)⟩
          · cases sl with
            | none => exact ((d3 b (by omega)).2.2.1 (fun z => by cases z.1)).trans hv2
            | some y =>
              have := hsl.lt
              exact ((d3 y (by omega)).2.2.2 (fun z => by cases z; omega)).trans hv2
          · refine b5.fr (fun j j1 j2 => ?_) (fun j j1 j2 => ?_)
            · obtain ⟨x1, x2, x3, x4⟩ := d3 j j2
              cases sl with
              | none => exact ⟨x1, x2, (x3 (fun z => by cases z.1)).trans (pk_un (k := b) (by omega))⟩
              | some y => exact ⟨x1, x2, x3 (fun z => by cases z.1)⟩
            · obtain ⟨x1, x2, x3, x4⟩ := d3 j j2
              refine (x4 (fun z => by cases z; omega)).trans ?_
              cases sl with
              | none => rfl
              | some y =>
                have := hsl.lt
                exact pk_un (k := y) (by omega)
    · -- the statements
      obtain ⟨o, ⟨q1, q2, q3⟩, q4, q5⟩ := stmts hg (ss_all (t8 := t8) hg 31 0 rfl) (N - t) t (Nat.le_refl _) ht
      have cs : ∀ M i, 0 < M → ∀ (σ : WSX7) (u : Nat) (post : Int32 → WSX7 → Prop), CI T N L t8 σ t u →
          (∀ e, o.2 = some e → ∀ σ', CI T N L t8 σ' o.1 (u + szS T e 0) → AG σ.2.2 σ'.2.2 0 u → AV σ.2.2 σ'.2.2 0 u → CB T σ'.2.2 e 0 u → CW T σ'.2.2 e 0 u → wp_X7_take σ' 0 (fun r4 τ5 => post τ5.1.1 τ5)) →
          (o.2 = none → ∀ σ', CF T N L t8 σ' o.1 → post (nI (PL T o.1)) σ') → wp_X7_read_7 post M σ i := by
        intro M i hM σ u post h hY hF
        obtain ⟨M', rfl⟩ : ∃ M', M = M' + 1 := ⟨M - 1, by omega⟩
        obtain ⟨a1, a2, a3, a4, a5, a6, a7⟩ := id h
        have done : wp_X7_read_39 post σ := by
          refine ⟨337, by omega, ⟨N + 1, ?_⟩⟩
          refine q4 336 (by omega) (N + 1) 0 (by omega) (by omega) σ u _ h (fun e he σ' c1 c2 c3 c4 c5 => hY e he σ' c1 c2 c3 c4 c5) (fun he σ' c => ?_)
          exact c_takeF c hn (by rw [c.1]; exact hF he σ' c)
        show wb_X7_read_7 post _ σ i
        refine ⟨fun _ => done, fun _ => ⟨fun _ => done, fun _ => c_kind a2 a3 a4 ⟨fun c => absurd (Or.inl ((nI_eq (b := 4) (by omega) (by omega)).mp c)) K, fun _ => c_kind a2 a3 a4 ⟨fun _ => ⟨fun _ => done, fun c => absurd rfl c⟩, fun c => absurd (Or.inr ((nI_eq (b := 5) (by omega) (by omega)).mp c)) K⟩⟩⟩⟩
      have lp : ∀ (b : Nat) (post : Int32 → SX12 → Prop), LoopM T N b 0 273 (fun k => k = 0) (fun τ => post (nI b) τ) (fun M τ => wp_X12_program_193 post M τ (nI b)) := by
        intro b post
        refine ⟨fun M τ2 t2 q2 hm hs hf => ?_, fun M τ2 t2 q2 hm hs hf => ?_, fun M τ2 t2 q2 hm hf => ?_⟩
        · obtain ⟨m1, m2, m3, m4, m5, m6⟩ := hm
          refine ⟨fun c => absurd m1 c, fun _ => ?_⟩
          show vp_in τ2.1.1.2.1.1 3002 ∧ ((τ2.1.1.1.2.1 (τ2.1.1.2.1.1).toNatClampNeg = 10 → _) ∧ (¬ τ2.1.1.1.2.1 (τ2.1.1.2.1.1).toNatClampNeg = 10 → _))
          rw [m2, nI_clamp (by omega), m_tok m4 m3]
          exact ⟨in_k (by omega) (by omega), fun _ => hf, fun c => absurd (by rw [show TK T t2 = 0 from hs]; rfl) c⟩
        · obtain ⟨m1, m2, m3, m4, m5, m6⟩ := hm
          refine ⟨fun c => absurd m1 c, fun _ => ?_⟩
          show vp_in τ2.1.1.2.1.1 3002 ∧ ((τ2.1.1.1.2.1 (τ2.1.1.2.1.1).toNatClampNeg = 10 → _) ∧ (¬ τ2.1.1.1.2.1 (τ2.1.1.2.1.1).toNatClampNeg = 10 → _))
          rw [m2, nI_clamp (by omega), m_tok m4 m3]
          exact ⟨in_k (by omega) (by omega), fun c => absurd (kM_inj (b := 0) (TK_r T t2).1 (TK_r T t2).2 (by omega) (by omega) c) hs, fun _ => ⟨273, by omega, hf⟩⟩
        · exact ⟨fun _ => hf, fun c => absurd (hm.1.symm.trans c) (by decide)⟩
      have ms : ∀ (b : Nat) (post : Int32 → SX12 → Prop) M, 0 < M → ∀ (τ : SX12) (q : Nat) (sl : Option Nat), MI T N τ t q → b < q → slotB τ q b sl →
          (∀ e, o.2 = some e → TK T o.1 = 0 → ∀ τ' q' x, MI T N τ' o.1 q' → q ≤ q' → MOF τ τ' → SP τ τ' q b sl → SV τ' b sl x → MS T τ' e 0 q q' x → post (nI b) τ') →
          (o.2 = none ∨ ¬ TK T o.1 = 0 → ∀ τ' q', MB T N 3 τ' o.1 q' → MOF τ τ' → post (nI b) τ') → wp_X12_program_9 post M τ (nI b) := by
        intro b post M hM τ q sl h hb hsl hY hF
        obtain ⟨M', rfl⟩ : ∃ M', M = M' + 1 := ⟨M - 1, by omega⟩
        have w : wp_X12_program_193 post (N + 1) τ (nI b) := q5 273 (by omega) b (fun k => k = 0) _ _ (fun k hk => Or.inr hk) (lp b post) (N + 1) (by omega) τ q sl h hb hsl (fun e he hs τ' q' x b1 b2 b3 b4 b5 b6 => hY e he hs τ' q' x b1 b2 b3 b4 b5 b6) (fun he τ' q' b1 b2 b3 b4 => hF he τ' q' b1 b3)
        obtain ⟨a1, a2, a3, a4, a5, a6⟩ := id h
        show wb_X12_program_9 post _ τ (nI b)
        refine ⟨fun c => absurd a1 c, fun _ => ?_⟩
        show vp_in τ.1.1.2.1.1 3002 ∧ ((τ.1.1.1.2.1 (τ.1.1.2.1.1).toNatClampNeg = 3 → _) ∧ (¬ τ.1.1.1.2.1 (τ.1.1.2.1.1).toNatClampNeg = 3 → vp_in τ.1.1.2.1.1 3002 ∧ ((¬ τ.1.1.1.2.1 (τ.1.1.2.1.1).toNatClampNeg = 4 → _) ∧ (τ.1.1.1.2.1 (τ.1.1.2.1.1).toNatClampNeg = 4 → _))))
        rw [a2, nI_clamp (by omega), m_tok a4 a3]
        exact ⟨in_k (by omega) (by omega), fun c => absurd (Or.inl (kM_inj (b := 4) hkr.1 hkr.2 (by omega) (by omega) c)) K, fun _ => ⟨in_k (by omega) (by omega), fun _ => ⟨N + 1, w⟩, fun c => absurd (Or.inr (kM_inj (b := 5) hkr.1 hkr.2 (by omega) (by omega) c)) K⟩⟩
      cases ho : o.2 with
      | none =>
        exact ⟨(o.1, none), ⟨fun ds e he => (by cases he), q2, q3⟩, fun M i hM hi σ u post h hY hF => cs M (nI i) (by omega) σ u post h (fun e he => by rw [ho] at he; cases he) (fun _ σ' c => hF rfl σ' c), fun b post M hM τ q sl h hb hsl hY hF => ms b post M (by omega) τ q sl h hb hsl (fun e he => by rw [ho] at he; cases he) (fun _ τ' q' b1 b2 => hF rfl τ' q' b1 b2)⟩
      | some e =>
        obtain ⟨⟨w1, w2⟩, w3, w4⟩ := q1 e ho
        by_cases E : TK T o.1 = 0
        · refine ⟨(o.1, some ([], e)), ⟨fun ds e' he => ?_, q2, q3⟩, fun M i hM hi σ u post h hY hF => cs M (nI i) (by omega) σ u post h (fun e' he σ' c1 c2 c3 c4 c5 => ?_) (fun he => by rw [ho] at he; cases he), fun b post M hM τ q sl h hb hsl hY hF => ms b post M (by omega) τ q sl h hb hsl (fun e' he _ τ' q' x b1 b2 b3 b4 b5 b6 => ?_) (fun he => he.elim (fun z => by rw [ho] at z; cases z) (fun z => absurd E z))⟩
          · cases he
            exact ⟨⟨t, rfl, Nat.le_refl _, w1, w2⟩, w3, E⟩
          · rw [ho] at he
            cases he
            obtain ⟨a1, a2, a3, a4, a5, a6, a7⟩ := id c1
            refine ⟨fun c => absurd a1 c, fun _ => c_kind a2 a3 a4 ⟨fun c => absurd (by rw [E]; rfl) c, fun _ => c_next a2 a3 a4 ?_⟩⟩
            show post σ'.1.1 _
            rw [a1]
            exact hY [] e rfl ((-1, (σ'.1.2.1, ((σ'.1.2.2.1.1, (nI (o.1 + 1))), σ'.1.2.2.2))), σ'.2) rfl a5 a7 a2.2.1 c2 c3 trivial c4 c5
          · rw [ho] at he
            cases he
            exact hY [] e rfl τ' q' x b1 b3 b4 b5 trivial b2 b6
        · refine ⟨(o.1, none), ⟨fun ds e he => (by cases he), q2, q3⟩, fun M i hM hi σ u post h hY hF => cs M (nI i) (by omega) σ u post h (fun e' he σ' c1 c2 c3 c4 c5 => ?_) (fun he => by rw [ho] at he; cases he), fun b post M hM τ q sl h hb hsl hY hF => ms b post M (by omega) τ q sl h hb hsl (fun e' he z => absurd z E) (fun _ τ' q' b1 b2 => hF rfl τ' q' b1 b2)⟩
          obtain ⟨a1, a2, a3, a4, a5, a6, a7⟩ := id c1
          have hr := (TK_r T o.1).1
          refine ⟨fun c => absurd a1 c, fun _ => c_kind a2 a3 a4 ⟨fun _ => c_fail c1 (fun σ3 c => ?_), fun c => absurd ((nI_eq (b := 0) (by omega) (by omega)).mp c) E⟩⟩
          show post σ3.1.1 σ3
          rw [c.1]
          exact hF rfl σ3 c
end ReadAll
