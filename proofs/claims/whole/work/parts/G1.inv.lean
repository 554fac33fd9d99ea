section Inv
/-- of the reference nothing has changed that a program is read from -/
def SAMEP (τ τ' : SX12) : Prop := τ'.1.1.1.1.2.2 = τ.1.1.1.1.2.2 ∧ τ'.1.1.1.2 = τ.1.1.1.2 ∧ τ'.1.1.2 = τ.1.1.2 ∧ τ'.1.2 = τ.1.2 ∧ τ'.2.1.1.1.2.1 = τ.2.1.1.1.2.1 ∧ τ'.2.2.1.2.1 = τ.2.2.1.2.1
def RPG (T : TX) (N : Nat) (g : List DD) (e : Tr) (q : Nat) (x : Int32) (τ : SX12) : Prop := MJI T N g τ ∧ τ.1.1.2.2.2.2 0 = lnk g 1 x ∧ MDx T τ g 1 x ∧ MS T τ e 0 (1 + dnS g) q x ∧ MJS T g τ e 0 x ∧ τ.2.1.1.1.2.1 = 0
theorem MDx.fr {T : TX} {τ τ' : SX12} {x : Int32} (h1 : τ'.1.1.2 = τ.1.1.2) (h2 : τ'.1.2 = τ.1.2) : ∀ (ds : List DD) (q : Nat), MDx T τ ds q x → MDx T τ' ds q x := by
  intro ds
  induction ds with
  | nil => intro q _; trivial
  | cons d ds ih =>
    intro q k
    refine ⟨DNk.fr k.1 (fun j _ _ => ⟨?_, ?_, ?_⟩) (fun j _ _ => ?_), ?_, ih _ k.2.2⟩
    · show τ'.1.1.2.2.1 j = _
      rw [h1]
    · show τ'.1.1.2.2.2.1 j = _
      rw [h1]
    · show τ'.1.1.2.2.2.2 j = _
      rw [h1]
    · show τ'.1.2.1.1.1 j = _
      rw [h2]
    · have : τ'.1.2.1.1.1 q = τ.1.2.1.1.1 q := by rw [h2]
      exact this.trans k.2.1
theorem RPG.fr {T : TX} {N : Nat} {g : List DD} {e : Tr} {q : Nat} {x : Int32} {τ τ' : SX12} (h : RPG T N g e q x τ) (hq : q ≤ 9000) (hs : SAMEP τ τ') : RPG T N g e q x τ' := by
  obtain ⟨s1, s2, s3, s4, s5, s6⟩ := hs
  obtain ⟨⟨a1, a2, a3⟩, b1, b2, b3, b4, b5⟩ := h
  have kf : τ'.1.1.2.2.2.2 = τ.1.1.2.2.2.2 := by
    show τ'.1.1.2.2.2.2 = _
    rw [s3]
  have kn : τ'.1.2.1.1.1 = τ.1.2.1.1.1 := by
    show τ'.1.2.1.1.1 = _
    rw [s4]
  refine ⟨⟨?_, ?_, ?_⟩, ?_, MDx.fr s3 s4 g 1 b2, ?_, ?_, ?_⟩
  · obtain ⟨c1, c2, c3⟩ := a1
    refine ⟨s1.trans c1, c2, fun k hk => ⟨(c3 k hk).1, ?_⟩⟩
    show τ'.2.2.1.2.1 k = _
    rw [s6]
    exact (c3 k hk).2
  · intro t ht
    have := a2 t ht
    show τ'.1.1.1.2.1 t = _ ∧ τ'.1.1.1.2.2.1 t = _ ∧ τ'.1.1.1.2.2.2 t = _
    rw [s2]
    exact this
  · unfold NM at a3 ⊢
    rw [s4]
    exact a3
  · rw [kf]
    exact b1
  · refine MS.fr (τ := τ) e 0 (1 + dnS g) q x hq (fun j _ _ => ⟨?_, ?_, ?_⟩) (fun j _ _ _ => by rw [kn]) b3
    · show τ'.1.1.2.2.1 j = _
      rw [s3]
    · show τ'.1.1.2.2.2.1 j = _
      rw [s3]
    · rw [kf]
  · refine MJS.fr (τ := τ) kf kn e 0 (1 + dnS g) q x hq b3 (fun j _ _ => ⟨?_, ?_⟩) b4
    · show τ'.1.2.1.1.2.2 j = _
      rw [s4]
    · show τ'.1.2.1.1.2.1 j = _
      rw [s4]
  · exact s5.trans b5
/-- the class's right program -/
def CPG (T : TX) (N : Nat) (g : List DD) (e : Tr) (u s t1 t' L : Nat) (M : Nat → Int32) (q : Nat) (n4 : SX4) (n3 : SX3) : Prop := GV T N g ∧ NC T g n3 ∧ NW0 n4 u L ∧ u ≤ 3000 ∧ PRG T g e s M n4.2.1.2.2 ∧ BI u n4.2.1.2.2 4096 ∧ WFS T N e 0 ∧ XS T e 0 t1 t' 31 ∧ CB T n4 e 0 s ∧ js T g e 0 false = .ok () ∧ s + szS T e 0 = u ∧ N ≤ 3001 ∧ WFDs T N g 0 t1 ∧ 1 + dnS g ≤ q ∧ q ≤ 9000
def DYN (T : TX) (g : List DD) (e : Tr) (u : Nat) (M : Nat → Int32) (r : Nat) (A : SX10) (n4 : SX4) (mc : SX2) (p p2 : SX6) (τ : SX12) : Prop :=
  (∀ k, k < 200 → A.1.1 k = τ.2.1.1.1.1 k) ∧ (∀ j, 512 ≤ j → j < 4096 → mc.1.1.1 j = M j) ∧
  (0 < r → A.2.1 = τ.2.2.1.1.2.2 ∧ A.2.2.1 = τ.2.1.2.2.2.2 ∧ A.2.2.2 = τ.2.1.2.2.2.1 ∧ (∀ k, k < 200 → mc.1.1.1 k = τ.2.1.2.1.2.2 k) ∧ (∃ n, n ≤ 100 ∧ τ.2.1.2.2.2.1 = nI n ∧ ∀ k, k < n → mc.1.1.1 (200 + k) = τ.2.1.2.2.1 k) ∧ ∃ inp st, PASTOK T g e u n4.1.2.1 n4.2.1.2.2 M p inp st) ∧
  (1 < r → ∃ inp st, PASTOK T g e u n4.1.2.1 n4.2.1.2.2 M p2 inp st)
def PGM (r : Nat) (n4 : SX4) (n3 : SX3) (A : SX10) (mc : SX2) (p p2 : SX6) (τ : SX12) : Prop := ∃ T N g e u s t1 t' L M q x, CPG T N g e u s t1 t' L M q n4 n3 ∧ RPG T N g e q x τ ∧ DYN T g e u M r A n4 mc p p2 τ
def RDY (σ : WSX11) (τ : SX12) : Prop := ∃ (rd : Bool) (r : Nat), σ.1.1.1.1 = bi rd ∧ τ.2.1.1.1.2.2 = bi rd ∧ σ.2.2.1.2.1.2 = nI r ∧ r ≤ 2 ∧ τ.2.1.2.1.2.1 = bi (decide (0 < r)) ∧ (rd = false → r = 0) ∧ (rd = true → PGM r σ.1.2.2.1 σ.1.2.2.2 σ.2.2.1.2 σ.2.2.1.1 σ.2.2.2.1 σ.2.2.2.2 τ)
def INV (σ : WSX11) (τ : SX12) (n : Nat) : Prop := RM σ.1.2.1 τ ∧ (σ.1.1.2.1.2 = nI n ∧ n ≤ 3000 ∧ τ.1.1.1.1.2.1 = nI n ∧ TB σ.1.1.2.1.1 τ.1.1.1.1.1 n) ∧ (σ.1.1.1.2.1 = τ.2.1.1.2.1 ∧ σ.1.1.1.2.2 = τ.2.1.1.2.2.1) ∧ ((∀ j, 32 ≤ j → σ.2.2.1.1.1.2.1 j = 0) ∧ σ.1.1.2.2.1.1.1 < 2 ^ 31 ∧ σ.1.2.2.1.1.1.1 < 2 ^ 31) ∧ RDY σ τ
theorem RDY.fr {σ : WSX11} {τ τ' : SX12} (h : RDY σ τ) {t8 : SX8} {s2 : SX2} (hs : SAMEP τ τ') (h1 : τ'.2.1 = τ.2.1) (h2 : τ'.2.2.1.1 = τ.2.2.1.1) : RDY (((σ.1.1.1, (t8, σ.1.1.2.2)), (s2, σ.1.2.2)), σ.2) τ' := by
  obtain ⟨rd, r, a1, a2, a3, a4, a5, a6, a7⟩ := h
  refine ⟨rd, r, a1, ?_, a3, a4, ?_, a6, fun c => ?_⟩
  · show τ'.2.1.1.1.2.2 = _
    rw [h1]
    exact a2
  · show τ'.2.1.2.1.2.1 = _
    rw [h1]
    exact a5
  · obtain ⟨T, N, g, e, u, s, t1, t', L, M, q, x, b1, b2, b3, b4, b5, b6⟩ := a7 c
    refine ⟨T, N, g, e, u, s, t1, t', L, M, q, x, b1, b2.fr b1.2.2.2.2.2.2.2.2.2.2.2.2.2.2 hs, fun k hk => ?_, b4, fun c => ?_, b6⟩
    · show _ = τ'.2.1.1.1.1 k
      rw [h1]
      exact b3 k hk
    · have := b5 c
      show _ = τ'.2.2.1.1.2.2 ∧ _ = τ'.2.1.2.2.2.2 ∧ _ = τ'.2.1.2.2.2.1 ∧ (∀ k, k < 200 → _ = τ'.2.1.2.1.2.2 k) ∧ (∃ n, n ≤ 100 ∧ τ'.2.1.2.2.2.1 = nI n ∧ ∀ k, k < n → _ = τ'.2.1.2.2.1 k) ∧ _
      rw [h1, h2]
      exact this
theorem INV.mo {σ : WSX11} {τ τ' : SX12} {n : Nat} (h : INV σ τ n) {s2 : SX2} (h1 : RM s2 τ') (h2 : MO τ τ') : INV ((σ.1.1, (s2, σ.1.2.2)), σ.2) τ' n := by
  obtain ⟨a1, ⟨b1, b2, b3, b4⟩, ⟨c1, c2⟩, d1, d2⟩ := h
  obtain ⟨m1, m2, m3, m4, m5⟩ := h2
  refine ⟨h1, ⟨b1, b2, ?_, ?_⟩, ⟨?_, ?_⟩, d1, d2.fr ⟨by rw [m1], by rw [m1], by rw [m1], by rw [m1], by rw [m2], m4⟩ m2 m3⟩
  · show τ'.1.1.1.1.2.1 = _
    rw [m1]
    exact b3
  · show TB _ τ'.1.1.1.1.1 n
    rw [m1]
    exact b4
  · show _ = τ'.2.1.1.2.1
    rw [m2]
    exact c1
  · show _ = τ'.2.1.1.2.2.1
    rw [m2]
    exact c2
end Inv
