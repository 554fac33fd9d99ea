section Calls
theorem bz0 : aw_bz 0 := ⟨rfl, rfl⟩
theorem bz1 : aw_bz 1 := ⟨rfl, rfl⟩
theorem rm_poke2 {σ : SX2} {τ : SX12} {a v : Int32} (h : RM σ τ) : wp_X2_store σ a v (fun r σ' => aw_bz r ∧ wp_X12_poke τ a v (fun r' τ' => r = r' ∧ RM σ' τ' ∧ MO τ τ')) := by
  unfold wp_X2_store wp_X12_poke
  refine isP_c (fun hp => ?_) (fun hp => ?_)
  · refine ⟨fun _ => ?_, fun c => absurd c (by decide)⟩
    obtain ⟨k, hk, rfl⟩ := id hp
    rw [ix_c hk]
    refine ⟨in_k hk (by omega), fun y ey => ⟨bz1, ?_⟩⟩
    refine isP_m (fun _ => ⟨fun _ => ?_, fun c => absurd c (by decide)⟩) (fun c => absurd hp c)
    rw [ix_m hk]
    refine ⟨in_k hk (by omega), fun z ez => ⟨rfl, ⟨fun j hj => ?_, h.2⟩, ⟨rfl, rfl, rfl, rfl, rfl⟩⟩⟩
    show y j = z j
    rw [ey, ez]
    simp only [upd]
    rw [h.1 j hj]
  · refine ⟨fun c => absurd rfl c, fun _ => ⟨bz0, ?_⟩⟩
    refine isP_m (fun c => absurd c hp) (fun _ => ⟨fun c => absurd rfl c, fun _ => ⟨rfl, h, MO.rf τ⟩⟩)
theorem lt32 {a : Int32} : a < 32 ↔ a ≤ 31 := by
  rw [Int32.lt_iff_toInt_lt, Int32.le_iff_toInt_le]
  have e1 : (32 : Int32).toInt = 32 := by decide
  have e2 : (31 : Int32).toInt = 31 := by decide
  omega
theorem in32 {a : Int32} (h0 : ¬ a < 0) (h : a ≤ 31) : ∃ j : Nat, j < 32 ∧ a = nI j := by
  obtain ⟨j, hj, e⟩ := nI_of2 (n := 31) (by decide) h0 h
  exact ⟨j, by omega, e⟩
theorem rm_set {σ : SX2} {τ : SX12} {a v : Int32} (h : RM σ τ) : wp_X2_fill σ a v (fun r σ' => aw_bz r ∧ wp_X12_set τ a v (fun r' τ' => r = r' ∧ RM σ' τ' ∧ MO τ τ')) := by
  unfold wp_X2_fill wp_X12_set
  obtain ⟨h1, h2, h3, h4⟩ := id h
  refine ⟨fun c => ⟨bz0, fun _ => ⟨rfl, h, MO.rf τ⟩, fun q => absurd c q⟩, fun c => ⟨fun c2 => ⟨fun c3 => ⟨bz1, fun q => absurd q c, fun _ => ⟨fun _ => ⟨fun q => absurd c3 q, fun _ => ?_⟩, fun q => absurd (lt32.mp c2) q⟩⟩, fun c3 => ⟨?_, fun y ey => ⟨bz1, fun q => absurd q c, fun _ => ⟨fun _ => ⟨fun _ => ?_, fun q => absurd q c3⟩, fun q => absurd (lt32.mp c2) q⟩⟩⟩⟩, fun c2 => ⟨bz0, fun q => absurd q c, fun _ => ⟨fun q => absurd (lt32.mpr q) c2, fun _ => ⟨rfl, h, MO.rf τ⟩⟩⟩⟩⟩
  · obtain ⟨j, hj, e⟩ := in32 c (lt32.mp c2)
    rw [e]
    refine ⟨in_k hj (by omega), fun y ey => ⟨rfl, ⟨h1, fun i hi => ?_, h3, h4⟩, ⟨rfl, rfl, rfl, rfl, rfl⟩⟩⟩
    show σ.1.1.2 i = y i
    have j0 : j = 0 := by
      have := (nI_eq (a := j) (b := 0) (by omega) (by omega)).mp (e.symm.trans c3)
      exact this
    rw [ey, nI_clamp (by omega), j0]
    simp only [upd]
    split
    · rename_i q
      rw [q]
      exact h3
    · exact h2 i hi
  · obtain ⟨j, hj, e⟩ := in32 c (lt32.mp c2)
    rw [e]
    exact in_k hj (by omega)
  · obtain ⟨j, hj, e⟩ := in32 c (lt32.mp c2)
    rw [e]
    refine ⟨in_k hj (by omega), fun z ez => ⟨rfl, ⟨h1, fun i hi => ?_, ?_, h4⟩, ⟨rfl, rfl, rfl, rfl, rfl⟩⟩⟩
    · show y i = z i
      rw [ey, ez, e]
      simp only [upd]
      rw [h2 i hi]
    · show y 0 = 0
      have j0 : ¬ j = 0 := fun q => c3 (by rw [e, q]; rfl)
      rw [ey, e, nI_clamp (by omega)]
      simp only [upd]
      rw [if_neg (fun q => j0 q.symm)]
      exact h3
theorem rm_get {σ : SX2} {τ : SX12} {a : Int32} (h : RM σ τ) : wp_X2_register σ a (fun r σ' => wp_X12_get τ a (fun r' τ' => r = r' ∧ σ' = σ ∧ τ' = τ)) := by
  unfold wp_X2_register wp_X12_get
  refine ⟨fun c => ⟨fun _ => ⟨rfl, rfl, rfl⟩, fun q => absurd c q⟩, fun c => ⟨fun c2 => ?_, fun c2 => ⟨fun q => absurd q c, fun _ => ⟨fun q => absurd (lt32.mpr q) c2, fun _ => ⟨rfl, rfl, rfl⟩⟩⟩⟩⟩
  obtain ⟨j, hj, e⟩ := in32 c (lt32.mp c2)
  refine ⟨by rw [e]; exact in_k hj (by omega), fun q => absurd q c, fun _ => ⟨fun _ => ⟨by rw [e]; exact in_k hj (by omega), ?_, rfl, rfl⟩, fun q => absurd (lt32.mp c2) q⟩⟩
  rw [e, nI_clamp (by omega)]
  exact h.2.1 j hj
theorem rm_start {σ : SX2} {τ : SX12} {a : Int32} (h : RM σ τ) : wp_X2_beginAt σ a (fun r σ' => aw_bz r ∧ wp_X12_start τ a (fun r' τ' => r = r' ∧ RM σ' τ' ∧ MO τ τ')) := by
  unfold wp_X2_beginAt wp_X12_start
  refine isP_c (fun hp => ⟨fun _ => ?_, fun c => absurd c (by decide)⟩) (fun hp => ⟨fun c => absurd rfl c, fun _ => ⟨bz0, isP_m (fun c => absurd c hp) (fun _ => ⟨fun c => absurd rfl c, fun _ => ⟨rfl, h, MO.rf τ⟩⟩)⟩⟩)
  intro y ey
  refine ⟨bz1, isP_m (fun _ => ⟨fun _ => ⟨33, ?_⟩, fun c => absurd c (by decide)⟩) (fun c => absurd hp c)⟩
  obtain ⟨h1, h2, h3, h4⟩ := id h
  have loop : ∀ (m i : Nat), i + m = 32 → ∀ τ' : SX12, τ'.1 = τ.1 → τ'.2.1 = τ.2.1 → τ'.2.2.1 = τ.2.2.1 → τ'.2.2.2.1 = (τ.2.2.2.1.1, (a, (0 : Int32))) → τ'.2.2.2.2.1 = ((0 : Int32), (0 : Int32)) → τ'.2.2.2.2.2.1 = (0 : Int64) → (∀ j, j < i → τ'.2.2.2.2.2.2 j = 0) → wp_X12_start_36 (fun r' τ' => (1 : Int32) = r' ∧ RM ((σ.1.1, (y, a)), (((0 : Int32), (0 : Int64)), ((0 : Int32), (0 : Int64)))) τ' ∧ MO τ τ') (m + 1) τ' (nI i) := by
    intro m
    induction m with
    | zero =>
      intro i hi τ' e1 e2 e3 e4 e5 e6 e7
      refine ⟨fun _ => ⟨rfl, ⟨fun j hj => ?_, fun j hj => ?_, h3, fun j hj => ?_, ?_, ?_, ?_, ?_, ?_⟩, e1, e2, by rw [e3], by rw [e3], by rw [e3]⟩, fun c => absurd (nI_le (a := 32) (by omega) (by omega)) c⟩
      · show σ.1.1.1 j = τ'.2.2.1.2.2.2 j
        rw [e3]
        exact h1 j hj
      · show σ.1.1.2 j = τ'.2.2.2.1.1 j
        rw [e4]
        exact h2 j hj
      · show y j = _
        rw [e7 j (by omega), ey]
        unfold aw_fill
        rw [if_pos hj]
      · show a = _
        rw [e4]
      · show 0 = _
        rw [e4]
      · show (0 : Int64).toInt32 = _
        rw [e5]
        rfl
      · show 0 = _
        rw [e5]
      · show 0 = _
        rw [e6]
    | succ m ih =>
      intro i hi τ' e1 e2 e3 e4 e5 e6 e7
      refine ⟨fun c => absurd c (nI_ge (b := 32) (by omega) (by omega)), fun _ => ⟨in_k (by omega) (by omega), fun z ez => ?_⟩⟩
      have := ih (i + 1) (by omega) (τ'.1, (τ'.2.1, (τ'.2.2.1, (τ'.2.2.2.1, (τ'.2.2.2.2.1, (τ'.2.2.2.2.2.1, z)))))) e1 e2 e3 e4 e5 e6 (fun j hj => by
        show z j = 0
        rw [ez, nI_clamp (by omega)]
        simp only [upd]
        split
        · rfl
        · exact e7 j (by omega))
      rw [← nI_1] at this
      exact this
  exact loop 32 0 rfl _ rfl rfl rfl rfl rfl rfl (fun j hj => absurd hj (by omega))
theorem rm_work : ∀ (m i n : Nat), i + m = n → n < 2 ^ 31 → ∀ (σ : SX2) (τ : SX12), RM σ τ → ∃ r σ' τ', (∀ P : Int32 → SX2 → Prop, P r σ' → wp_X2_work_2 P (m + 1) σ (nI n) (nI i)) ∧ (∀ Q : Int32 → SX12 → Prop, Q r τ' → wp_X12_go_17 Q (m + 2) τ (nI n) 0 (nI i)) ∧ RM σ' τ' ∧ MO τ τ' := by
  intro m
  induction m with
  | zero =>
    intro i n hi hn σ τ h
    have le : nI n ≤ nI i := nI_le (by omega) (by omega)
    exact ⟨0, σ, τ, fun P hP => ⟨fun _ => hP, fun c => absurd le c⟩, fun Q hQ => ⟨fun _ => hQ, fun c => absurd le c⟩, h, MO.rf τ⟩
  | succ m ih =>
    intro i n hi hn σ τ h
    have nle : ¬ nI n ≤ nI i := nI_ge (by omega) (by omega)
    obtain ⟨r, σ1, τ1, c1, m1, h1, o1⟩ := rm_order h
    by_cases hr : r = 0
    · obtain ⟨r2, σ2, τ2, c2, m2, h2, o2⟩ := ih (i + 1) n (by omega) hn σ1 τ1 h1
      refine ⟨r2, σ2, τ2, fun P hP => ⟨fun c => absurd c nle, fun _ => c1 _ ⟨fun _ => ?_, fun c => absurd hr c⟩⟩, fun Q hQ => ⟨fun c => absurd c nle, fun _ => ⟨fun c => absurd rfl c, fun _ => m1 _ ?_⟩⟩, h2, o1.tr o2⟩
      · have := c2 P hP
        rw [← nI_1] at this
        exact this
      · have := m2 Q hQ
        rw [← nI_1] at this
        rw [hr]
        exact this
    · refine ⟨r, σ1, τ1, fun P hP => ⟨fun c => absurd c nle, fun _ => c1 _ ⟨fun c => absurd c hr, fun _ => hP⟩⟩, fun Q hQ => ⟨fun c => absurd c nle, fun _ => ⟨fun c => absurd rfl c, fun _ => m1 _ ?_⟩⟩, h1, o1⟩
      show wb_X12_go_17 Q _ τ1 (nI n) r (nI i + 1)
      exact ⟨fun _ => hQ, fun _ => ⟨fun _ => hQ, fun c => absurd c hr⟩⟩
theorem rm_go {σ : SX2} {τ : SX12} {a : Int32} (h : RM σ τ) (h0 : ¬ a < 0) (h2 : a ≤ 2000) : wp_X2_work σ a (fun r σ' => wp_X12_go τ a (fun r' τ' => r = r' ∧ RM σ' τ' ∧ MO τ τ')) := by
  obtain ⟨n, hn, rfl⟩ := nI_of2 (n := 2000) (by decide) h0 h2
  obtain ⟨r, σ', τ', c, m, h3, h4⟩ := rm_work n 0 n (by omega) (by omega) σ τ h
  refine ⟨n + 1, c _ ?_⟩
  unfold wp_X12_go
  exact ⟨fun q => absurd q h0, fun _ => ⟨fun _ => ⟨n + 2, m _ ⟨rfl, h3, h4⟩⟩, fun q => absurd h2 q⟩⟩
end Calls
