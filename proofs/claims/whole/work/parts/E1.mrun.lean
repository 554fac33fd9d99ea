section Mrun
/-- only what a run writes has changed -/
abbrev qst (τ : SX12) (v o : Nat → Int32) (oc st en ep : Int32) (ov : Nat → Int32) : SX12 := (τ.1, ((τ.2.1.1, ((τ.2.1.2.1.1, (τ.2.1.2.1.2.1, v)), (o, (oc, st)))), (((τ.2.2.1.1.1, (en, ep)), (τ.2.2.1.2.1, (ov, τ.2.2.1.2.2.2))), τ.2.2.2)))
def QR (τ τ' : SX12) : Prop := ∃ v o oc st en ep ov, τ' = qst τ v o oc st en ep ov
theorem QR.rf (τ : SX12) : QR τ τ := ⟨τ.2.1.2.1.2.2, τ.2.1.2.2.1, τ.2.1.2.2.2.1, τ.2.1.2.2.2.2, τ.2.2.1.1.2.1, τ.2.2.1.1.2.2, τ.2.2.1.2.2.1, rfl⟩
theorem QR.tr {a b c : SX12} (h : QR a b) (k : QR b c) : QR a c := by
  obtain ⟨v, o, oc, st, en, ep, ov, rfl⟩ := h
  obtain ⟨v', o', oc', st', en', ep', ov', rfl⟩ := k
  exact ⟨v', o', oc', st', en', ep', ov', rfl⟩
theorem ER.qr {a b : SX12} {lo hi : Nat} (h : ER a b lo hi) : QR a b := by
  obtain ⟨o, en, ep, rfl, _⟩ := h
  exact ⟨_, _, _, _, _, _, _, rfl⟩
theorem QR.ms {T : TX} {τ τ' : SX12} (h : QR τ τ') {e : Tr} {m lo hi : Nat} {x : Int32} (hh : hi ≤ 9000) (k : MS T τ e m lo hi x) : MS T τ' e m lo hi x := by
  obtain ⟨v, o, oc, st, en, ep, ov, rfl⟩ := h
  exact MS.fr (τ := τ) e m lo hi x hh (fun _ _ _ => ⟨rfl, rfl, rfl⟩) (fun _ _ _ _ => rfl) k
theorem QR.mjs {T : TX} {g : List DD} {τ τ' : SX12} (h : QR τ τ') {e : Tr} {m lo hi : Nat} {x : Int32} (hh : hi ≤ 9000) (k0 : MS T τ e m lo hi x) (k : MJS T g τ e m x) : MJS T g τ' e m x := by
  obtain ⟨v, o, oc, st, en, ep, ov, rfl⟩ := h
  exact MJS.fr (τ := τ) (τ' := qst τ v o oc st en ep ov) rfl rfl e m lo hi x hh k0 (fun _ _ _ => ⟨rfl, rfl⟩) k
theorem QR.mji {T : TX} {N : Nat} {g : List DD} {τ τ' : SX12} (h : QR τ τ') (k : MJI T N g τ) : MJI T N g τ' := by
  obtain ⟨v, o, oc, st, en, ep, ov, rfl⟩ := h
  exact k
theorem QR.me {T : TX} {τ τ' : SX12} (h : QR τ τ') {e : Tr} {lo hi i : Nat} (k : ME T τ e lo hi i) : ME T τ' e lo hi i := by
  obtain ⟨v, o, oc, st, en, ep, ov, rfl⟩ := h
  exact ME.fr (τ := τ) e lo hi i (fun _ _ _ => ⟨rfl, rfl, rfl⟩) (fun _ _ _ _ => rfl) k
theorem QR.mj {T : TX} {g : List DD} {τ τ' : SX12} (h : QR τ τ') {e : Tr} {lo hi i : Nat} (hh : hi ≤ 9000) (k0 : ME T τ e lo hi i) (k : MJ T g τ e i) : MJ T g τ' e i := by
  obtain ⟨v, o, oc, st, en, ep, ov, rfl⟩ := h
  exact MJ.fr (τ := τ) (τ' := qst τ v o oc st en ep ov) rfl rfl e lo hi i hh k0 (fun _ _ _ => rfl) k
theorem QR.sh {τ τ' : SX12} (h : QR τ τ') : τ'.1 = τ.1 ∧ τ'.2.2.1.1.1 = τ.2.2.1.1.1 := by
  obtain ⟨v, o, oc, st, en, ep, ov, rfl⟩ := h
  exact ⟨rfl, rfl⟩
/-- the reference at work, and what has been done -/
def endR (T : TX) (τ : SX12) : Option (Nat × Nat) → Prop
  | none => τ.2.2.1.1.2.1 = 0 ∧ τ.2.2.1.1.2.2 = -1
  | some z => τ.2.2.1.1.2.1 = nI z.1 ∧ (0 < z.1 ∧ z.1 < 4) ∧ τ.2.2.1.1.2.2 = nI (PL T z.2)
def RU (T : TX) (most : Nat) (τ : SX12) (S : SR) : Prop := τ.2.1.2.1.2.2 = S.1 ∧ S.2.1 ≤ most ∧ τ.2.2.1.1.1 = nI most ∧ τ.2.1.2.2.2.2 = nI (most - S.2.1) ∧ τ.2.1.2.2.2.1 = nI S.2.2.1.length ∧ S.2.2.1.length ≤ 100 ∧ (∀ k, k < S.2.2.1.length → τ.2.1.2.2.1 k = (S.2.2.1[k]?).getD 0) ∧ endR T τ S.2.2.2
theorem RU.none {T : TX} {most : Nat} {τ : SX12} {S : SR} (h : RU T most τ S) : τ.2.2.1.1.2.1 = 0 ↔ S.2.2.2 = none := by
  obtain ⟨_, _, _, _, _, _, _, h8⟩ := h
  cases hs : S.2.2.2 with
  | none =>
    rw [hs] at h8
    exact ⟨fun _ => rfl, fun _ => h8.1⟩
  | some z =>
    rw [hs] at h8
    refine ⟨fun c => ?_, fun c => by cases c⟩
    rw [h8.1] at c
    have := (nI_eq (b := 0) (by have := h8.2.1.2; omega) (by omega)).mp c
    have := h8.2.1.1
    omega
theorem m_step {T : TX} {N : Nat} {τ : SX12} {S : SR} {w : Bool} {t most : Nat} {post : Int32 → SX12 → Prop} (hL : LM τ T N) (hN : N ≤ 3001) (ht : t < N) (hr : RU T most τ S) (hm : most ≤ 2000) (hs : S.2.2.2 = none)
    (h1 : ∀ τ', QR τ τ' → RU T most τ' (stepS w t S) → (stepS w t S).2.2.2 = none → post 1 τ') (h0 : ∀ τ', QR τ τ' → RU T most τ' (stepS w t S) → ¬ (stepS w t S).2.2.2 = none → post 0 τ') : wp_X12_step τ (bi w) (nI t) post := by
  have e0 := hr.none.mpr hs
  obtain ⟨a1, a2, a3, a4, a5, a6, a7, a8⟩ := id hr
  have e0' : τ.2.2.1.1.2.1 = 0 := e0
  have a4' : τ.2.1.2.2.2.2 = nI (most - S.2.1) := a4
  have a3' : τ.2.2.1.1.1 = nI most := a3
  refine ⟨fun _ => ?_, fun c => absurd e0 c⟩
  cases w with
  | true =>
    refine ⟨fun _ => ⟨fun c => absurd c (by decide), fun _ y ey => ⟨fun c => absurd e0 c, fun _ => ?_⟩⟩, fun c => absurd c (by decide)⟩
    have ey : y = nI (most - S.2.1) := by
      rw [ey, a4']
      exact Int32.add_zero _
    rw [ey]
    refine h1 _ ⟨τ.2.1.2.1.2.2, τ.2.1.2.2.1, τ.2.1.2.2.2.1, nI (most - S.2.1), τ.2.2.1.1.2.1, τ.2.2.1.1.2.2, τ.2.2.1.2.2.1, rfl⟩ ?_ hs
    exact ⟨a1, a2, a3, rfl, a5, a6, a7, a8⟩
  | false =>
    refine ⟨fun c => absurd rfl c, fun _ => ⟨fun c => ⟨fun _ y ey => ⟨fun c => absurd e0 c, fun _ => ?_⟩, fun c => absurd rfl c⟩, fun c => ⟨fun z => absurd e0 z, fun _ => ⟨in_k (by omega) (by omega), fun y ey => ?_⟩⟩⟩⟩
    · rw [a4', a3'] at c
      have hne : ¬ S.2.1 = 0 := by
        intro z
        apply c
        rw [z, Nat.sub_zero]
      have es : stepS false t S = (S.1, S.2.1 - 1, S.2.2.1, none) := by
        unfold stepS
        rw [if_neg (by decide), if_neg hne]
      have ey : y = nI (most - (S.2.1 - 1)) := by
        rw [ey, a4']
        show nI (most - S.2.1) + nI 1 = _
        rw [nI_add]
        congr 1
        omega
      rw [ey]
      rw [es] at h1
      refine h1 _ ⟨τ.2.1.2.1.2.2, τ.2.1.2.2.1, τ.2.1.2.2.2.1, nI (most - (S.2.1 - 1)), τ.2.2.1.1.2.1, τ.2.2.1.1.2.2, τ.2.2.1.2.2.1, rfl⟩ ?_ rfl
      rw [hs] at a8
      exact ⟨a1, by show S.2.1 - 1 ≤ most; omega, a3, rfl, a5, a6, a7, a8⟩
    · rw [a4', a3'] at c
      have hz : S.2.1 = 0 := by
        have := (nI_eq (by omega) (by omega)).mp c
        omega
      have es : stepS false t S = (S.1, 0, S.2.2.1, some (2, t)) := by
        unfold stepS
        rw [if_neg (by decide), if_pos hz]
      have hpl : τ.1.1.1.2.2.1 t = nI (PL T t) := (hL t ht).2.1
      rw [nI_clamp (by omega), hpl] at ey
      rw [ey]
      rw [es] at h0
      refine ⟨fun _ => h0 _ ⟨τ.2.1.2.1.2.2, τ.2.1.2.2.1, τ.2.1.2.2.2.1, τ.2.1.2.2.2.2, 2, nI (PL T t), τ.2.2.1.2.2.1, rfl⟩ ?_ (fun c => by cases c), fun c => absurd c (by decide : ¬ (2 : Int32) = 0)⟩
      refine ⟨a1, by show 0 ≤ most; omega, a3, ?_, a5, a6, a7, rfl, ⟨(by decide : 0 < 2), (by decide : 2 < 4)⟩, rfl⟩
      show τ.2.1.2.2.2.2 = nI (most - 0)
      rw [a4, hz]
/-- a look at an EXPR in a run -/
theorem m_evr {T : TX} {N : Nat} {g : List DD} (hv : GV T N g) (hN : N ≤ 3001) {e : Tr} {lo hi i most : Nat} {τ : SX12} {S : SR} {post : Int32 → SX12 → Prop} (hc : hc e ≤ 164) (hm : ME T τ e lo hi i) (hmj : MJ T g τ e i) (hw : WF T N e) (hh : hi ≤ 9000) (hj : MJI T N g τ) (hr : RU T most τ S) (hs : S.2.2.2 = none)
    (hE : ∀ v t τ', ev T g S.1 e = .error t → QR τ τ' → RU T most τ' (failS S 1 t) → ¬ τ'.2.2.1.1.2.1 = 0 → post v τ') (hY : ∀ v τ', ev T g S.1 e = .ok v → QR τ τ' → RU T most τ' S → τ'.2.2.1.1.2.1 = 0 → post v τ') : ∃ n, n ≤ 400 ∧ wg_ev n 0 τ [nI i] post := by
  refine ⟨164, by omega, m_ev hv hN e 164 lo hi i τ post hc hm hmj hw hh hj (fun v τ' r1 r2 => ?_)⟩
  have e0 := hr.none.mpr hs
  obtain ⟨a1, a2, a3, a4, a5, a6, a7, a8⟩ := id hr
  have q := r1.qr
  obtain ⟨o, en, ep, rfl, _⟩ := r1
  cases hev : ev T g S.1 e with
  | error t =>
    obtain ⟨z1, z2⟩ := (r2.2 e0).2 t (by rw [a1]; exact hev)
    refine hE v t _ hev q ⟨a1, a2, a3, a4, a5, a6, a7, z1, ⟨(by decide : 0 < 1), (by decide : 1 < 4)⟩, z2⟩ ?_
    rw [z1]
    decide
  | ok x =>
    obtain ⟨z1, z2, z3⟩ := (r2.2 e0).1 x (by rw [a1]; exact hev)
    rw [z3]
    refine hY x _ hev q ⟨a1, a2, a3, a4, a5, a6, a7, ?_⟩ z1
    rw [hs] at a8 ⊢
    exact ⟨z1, z2.trans a8.2⟩
/-- statements run by the reference -/
def SRUN (T : TX) (N : Nat) (g : List DD) (most n : Nat) : Prop := ∀ (e : Tr) (k lo hi t t' bh M : Nat) (w : Bool) (x : Int32) (τ : SX12) (S : SR) (post : SX12 → Prop), tsz e < n → WFS T N e 0 → js T g e 0 w = .ok () → XS T e 0 t t' bh → 2 * bh + 1 ≤ k → MS T τ e 0 lo hi x → MJS T g τ e 0 x → hi ≤ 9000 → MJI T N g τ → RU T most τ S → bl e < M → (∀ τ', QR τ τ' → RU T most τ' (rs T g e 0 w S) → post τ') → wp_X12_runAll_7 (wg_ra k) post M τ (bi w) x
/-- one statement, behind its step -/
def SONE (T : TX) (N : Nat) (g : List DD) (most : Nat) (e : Tr) : Prop := ∀ (k lo hi t t' bh : Nat) (w : Bool) (x : Int32) (τ : SX12) (S S0 : SR) (po : Int32 → SX12 → Prop), WFS T N e 1 → js T g e 1 w = .ok () → XS T e 1 t t' bh → 2 * bh ≤ k → MS T τ e 1 lo hi x → MJS T g τ e 1 x → hi ≤ 9000 → MJI T N g τ → RU T most τ S → S.2.2.2 = none → (∀ p a b, e = .branch p a b → stepS w (p / 8) S0 = S) → S0.2.2.2 = none → (∀ τ', QR τ τ' → RU T most τ' (rs T g e 1 w S0) → po 0 τ') → wg_ra (k + 1) 1 τ [x, bi w] po
theorem run_cons {T : TX} {N : Nat} {g : List DD} (hN : N ≤ 3001) {most n : Nat} (hmost : most ≤ 2000) (ih : SRUN T N g most n) (h1 : ∀ e, tsz e < n → SONE T N g most e) : SRUN T N g most (n + 1) := by
  intro e k lo hi t t' bh M w x τ S post hn hwf hjs hxs hk hms hmj hh hj hr hM hp
  obtain ⟨M', rfl⟩ : ∃ M', M = M' + 1 := ⟨M - 1, by omega⟩
  cases e with
  | leaf y =>
    have hx0 : x = -1 := hms
    show wb_X12_runAll_7 (wg_ra k) post (fun a => wp_X12_runAll_7 (wg_ra k) post M' a.1 a.2.1 a.2.2) τ (bi w) x
    exact ⟨fun _ => hp τ (QR.rf τ) hr, fun c => absurd hx0 c⟩
  | branch p a b =>
    rw [tsz] at hn
    have ta := tsz_pos a
    have tb := tsz_pos b
    rw [MS, if_pos rfl] at hms
    obtain ⟨j, l1, u1, l2, u2, x1, x2, x3, x4, x5, x6, x7, g1, g2⟩ := hms
    rw [WFS, if_pos rfl] at hwf
    obtain ⟨js1, js2⟩ := js_0 hjs
    rw [XS, if_pos rfl] at hxs
    obtain ⟨tm, xs1, xs2⟩ := hxs
    rw [MJS, if_pos rfl, x1, nI_clamp (by omega)] at hmj
    have hbl : bl (.branch p a b) = bl b + 1 := rfl
    show wb_X12_runAll_7 (wg_ra k) post (fun a => wp_X12_runAll_7 (wg_ra k) post M' a.1 a.2.1 a.2.2) τ (bi w) x
    rw [x1]
    have ers : rs T g (.branch p a b) 0 w S = rs T g b 0 w (rs T g a 1 w S) := by rw [rs, if_pos rfl]
    rw [ers] at hp
    refine ⟨fun c => absurd c (nI_nem1 (by omega)), fun _ => ⟨fun c => ?_, fun c0 => ?_⟩⟩
    · -- it had ended before
      have hs : ¬ S.2.2.2 = none := fun z => c (hr.none.mpr z)
      obtain ⟨z, hz⟩ : ∃ z, S.2.2.2 = some z := by
        cases h : S.2.2.2 with
        | none => exact absurd h hs
        | some z => exact ⟨z, rfl⟩
      rw [rs_end a 1 w S hz, rs_end b 0 w S hz] at hp
      exact hp τ (QR.rf τ) hr
    · have hs : S.2.2.2 = none := hr.none.mp c0
      obtain ⟨n3, n4⟩ := one_kind g1 hwf.1 (by omega) (by omega)
      -- what follows the statement
      have cont : ∀ τ1, QR τ τ1 → RU T most τ1 (rs T g a 1 w S) → wp_X12_runAll_59 (wg_ra k) (fun a => wp_X12_runAll_7 (wg_ra k) post M' a.1 a.2.1 a.2.2) post τ1 (bi w) (nI j) := by
        intro τ1 q1 r1
        refine ⟨in_k (by omega) (by omega), fun y ey => ?_⟩
        have e2 : τ1.1.2.1.1.1 j = τ.1.2.1.1.1 j := by rw [q1.sh.1]
        rw [nI_clamp (by omega), e2] at ey
        have ey : y = τ.1.2.1.1.1 j := ey
        rw [ey]
        refine ih b k l2 u2 tm t' bh M' w _ τ1 _ post (by omega) hwf.2 js2 xs2 hk (q1.ms (by omega) g2) (q1.mjs (by omega) g2 hmj.2) (by omega) (q1.mji hj) r1 (by omega) (fun τ' q2 r2 => hp τ' (q1.tr q2) r2)
      cases a with
      | leaf v => exact absurd (show (1 : Nat) = 0 from hwf.1) (by omega)
      | branch pa a1 a2 =>
        have hat : τ.1.1.2.2.2.1 j = nI (pa / 8) := by
          rw [MS, if_neg (by omega), if_pos rfl] at g1
          obtain ⟨i, la, ha, y, e1, e2, e3, e4, e5, e6⟩ := g1
          have hy : y < 9000 ∧ la ≤ y := by
            split at e6
            · obtain ⟨_, v, lb, hb, z0, _, _, _, _, _, _, _, y8, _⟩ := e6
              have := y8.bd
              omega
            · have := e6.2.1.bd
              omega
          have : j = i := (nI_eq (by omega) (by omega)).mp e1
          rw [this]
          exact e5
        have hpa : pa / 8 + 1 < N := by
          have := hwf.1
          rw [WFS, if_neg (by omega), if_pos rfl] at this
          exact this.1
        refine ⟨in_k (by omega) (by omega), ?_⟩
        rw [nI_clamp (by omega)]
        refine ⟨fun c => absurd c n3, fun _ => ⟨in_k (by omega) (by omega), fun c => absurd c n4, fun _ => ⟨in_k (by omega) (by omega), ?_⟩⟩⟩
        rw [hat]
        refine m_step (S := S) hj.2.1 hN (by omega) hr hmost hs (fun τ1 q1 r1 e1 => ⟨fun c => absurd c (by decide), fun _ => ?_⟩) (fun τ1 q1 r1 e1 => ⟨fun _ => ?_, fun c => absurd rfl c⟩)
        · obtain ⟨k', rfl⟩ : ∃ k', k = k' + 1 := ⟨k - 1, by omega⟩
          refine h1 (.branch pa a1 a2) (by omega) k' l1 u1 t tm bh w (nI j) τ1 _ S _ hwf.1 js1 xs1 (by omega) (q1.ms (by omega) g1) (q1.mjs (by omega) g1 hmj.1) (by omega) (q1.mji hj) r1 e1 (fun p' a' b' h => ?_) hs (fun τ2 q2 r2 => cont τ2 (q1.tr q2) r2)
          cases h
          rfl
        · have hz : ∃ z, (stepS w (pa / 8) S).2.2.2 = some z := by
            cases h : (stepS w (pa / 8) S).2.2.2 with
            | none => exact absurd h e1
            | some z => exact ⟨z, rfl⟩
          obtain ⟨z, hz⟩ := hz
          refine cont τ1 q1 ?_
          rw [rs_stop hs hz]
          exact r1
end Mrun
