section Calls2
variable {K : Prop → Prop} {Q : Int32 → SX2 → Int32 → SX12 → Prop} {σ : SX2} {τ : SX12}
theorem y_poke {a v : Int32} (h : RM σ τ) (hK : ∀ A : Prop, A → K A) (hQ : ∀ r σ' τ', RM σ' τ' → MO τ τ' → Q r σ' r τ') : wp_X2_store σ a v (fun r σ' => aw_bz r ∧ K (wp_X12_poke τ a v (Q r σ'))) := by
  unfold wp_X2_store wp_X12_poke
  refine isP_c (fun hp => ?_) (fun hp => ?_)
  · refine ⟨fun _ => ?_, fun c => absurd c (by decide)⟩
    obtain ⟨k, hk, rfl⟩ := id hp
    rw [ix_c hk]
    refine ⟨in_k hk (by omega), fun y ey => ⟨bz1, hK _ ?_⟩⟩
    refine isP_m (fun _ => ⟨fun _ => ?_, fun c => absurd c (by decide)⟩) (fun c => absurd hp c)
    rw [ix_m hk]
    refine ⟨in_k hk (by omega), fun z ez => hQ _ _ _ ⟨fun j hj => ?_, h.2⟩ ⟨rfl, rfl, rfl, rfl, rfl⟩⟩
    show y j = z j
    rw [ey, ez]
    simp only [upd]
    rw [h.1 j hj]
  · refine ⟨fun c => absurd rfl c, fun _ => ⟨bz0, hK _ ?_⟩⟩
    exact isP_m (fun c => absurd c hp) (fun _ => ⟨fun c => absurd rfl c, fun _ => hQ _ _ _ h (MO.rf τ)⟩)
theorem y_peek {a : Int32} (h : RM σ τ) (hK : ∀ A : Prop, A → K A) (hQ : ∀ r, Q r σ r τ) : wp_X2_fetch σ a (fun r σ' => K (wp_X12_peek τ a (Q r σ'))) := by
  unfold wp_X2_fetch wp_X12_peek
  refine isP_c (fun hp => ⟨fun c => absurd c (by decide), fun _ => ?_⟩) (fun hp => ⟨fun _ => ?_, fun c => absurd rfl c⟩)
  · obtain ⟨k, hk, rfl⟩ := id hp
    rw [ix_c hk]
    refine ⟨in_k hk (by omega), hK _ ?_⟩
    refine isP_m (fun _ => ⟨fun c => absurd c (by decide), fun _ => ?_⟩) (fun c => absurd hp c)
    rw [ix_m hk]
    refine ⟨in_k hk (by omega), ?_⟩
    rw [nI_clamp (by omega), h.1 k hk]
    exact hQ _
  · exact hK _ (isP_m (fun c => absurd c hp) (fun _ => ⟨fun _ => hQ _, fun c => absurd rfl c⟩))
theorem y_set {a v : Int32} (h : RM σ τ) (hK : ∀ A : Prop, A → K A) (hQ : ∀ r σ' τ', RM σ' τ' → MO τ τ' → Q r σ' r τ') : wp_X2_fill σ a v (fun r σ' => aw_bz r ∧ K (wp_X12_set τ a v (Q r σ'))) := by
  unfold wp_X2_fill wp_X12_set
  obtain ⟨h1, h2, h3, h4⟩ := id h
  refine ⟨fun c => ⟨bz0, hK _ ⟨fun _ => hQ _ _ _ h (MO.rf τ), fun q => absurd c q⟩⟩, fun c => ⟨fun c2 => ⟨fun c3 => ⟨bz1, hK _ ⟨fun q => absurd q c, fun _ => ⟨fun _ => ⟨fun q => absurd c3 q, fun _ => ?_⟩, fun q => absurd (lt32.mp c2) q⟩⟩⟩, fun c3 => ⟨?_, fun y ey => ⟨bz1, hK _ ⟨fun q => absurd q c, fun _ => ⟨fun _ => ⟨fun _ => ?_, fun q => absurd q c3⟩, fun q => absurd (lt32.mp c2) q⟩⟩⟩⟩⟩, fun c2 => ⟨bz0, hK _ ⟨fun q => absurd q c, fun _ => ⟨fun q => absurd (lt32.mpr q) c2, fun _ => hQ _ _ _ h (MO.rf τ)⟩⟩⟩⟩⟩
  · obtain ⟨j, hj, e⟩ := in32 c (lt32.mp c2)
    rw [e]
    refine ⟨in_k hj (by omega), fun y ey => hQ _ _ _ ⟨h1, fun i hi => ?_, h3, h4⟩ ⟨rfl, rfl, rfl, rfl, rfl⟩⟩
    show σ.1.1.2 i = y i
    have j0 : j = 0 := by
      have := (nI_eq (a := j) (b := 0) (by omega) (by omega)).mp (e.symm.trans c3)
      exact this
    rw [ey, nI_clamp (by omega), j0]
    simp only [upd]
    split
    · rename_i q
      rw [q]
      exact h3
    · exact h2 i hi
  · obtain ⟨j, hj, e⟩ := in32 c (lt32.mp c2)
    rw [e]
    exact in_k hj (by omega)
  · obtain ⟨j, hj, e⟩ := in32 c (lt32.mp c2)
    rw [e]
    refine ⟨in_k hj (by omega), fun z ez => hQ _ _ _ ⟨h1, fun i hi => ?_, ?_, h4⟩ ⟨rfl, rfl, rfl, rfl, rfl⟩⟩
    · show y i = z i
      rw [ey, ez, e]
      simp only [upd]
      rw [h2 i hi]
    · show y 0 = 0
      have j0 : ¬ j = 0 := fun q => c3 (by rw [e, q]; rfl)
      rw [ey, e, nI_clamp (by omega)]
      simp only [upd]
      rw [if_neg (fun q => j0 q.symm)]
      exact h3
theorem y_get {a : Int32} (h : RM σ τ) (hK : ∀ A : Prop, A → K A) (hQ : ∀ r, Q r σ r τ) : wp_X2_register σ a (fun r σ' => K (wp_X12_get τ a (Q r σ'))) := by
  unfold wp_X2_register wp_X12_get
  refine ⟨fun c => hK _ ⟨fun _ => hQ _, fun q => absurd c q⟩, fun c => ⟨fun c2 => ?_, fun c2 => hK _ ⟨fun q => absurd q c, fun _ => ⟨fun q => absurd (lt32.mpr q) c2, fun _ => hQ _⟩⟩⟩⟩
  obtain ⟨j, hj, e⟩ := in32 c (lt32.mp c2)
  refine ⟨by rw [e]; exact in_k hj (by omega), hK _ ⟨fun q => absurd q c, fun _ => ⟨fun _ => ⟨by rw [e]; exact in_k hj (by omega), ?_⟩, fun q => absurd (lt32.mp c2) q⟩⟩⟩
  rw [e, nI_clamp (by omega), h.2.1 j hj]
  exact hQ _
theorem y_start {a : Int32} (h : RM σ τ) (hK : ∀ A : Prop, A → K A) (hQ : ∀ r σ' τ', RM σ' τ' → MO τ τ' → Q r σ' r τ') : wp_X2_beginAt σ a (fun r σ' => aw_bz r ∧ K (wp_X12_start τ a (Q r σ'))) := by
  unfold wp_X2_beginAt wp_X12_start
  refine isP_c (fun hp => ⟨fun _ => ?_, fun c => absurd c (by decide)⟩) (fun hp => ⟨fun c => absurd rfl c, fun _ => ⟨bz0, hK _ (isP_m (fun c => absurd c hp) (fun _ => ⟨fun c => absurd rfl c, fun _ => hQ _ _ _ h (MO.rf τ)⟩))⟩⟩)
  intro y ey
  refine ⟨bz1, hK _ (isP_m (fun _ => ⟨fun _ => ⟨33, ?_⟩, fun c => absurd c (by decide)⟩) (fun c => absurd hp c))⟩
  obtain ⟨h1, h2, h3, h4⟩ := id h
  have loop : ∀ (m i : Nat), i + m = 32 → ∀ τ' : SX12, τ'.1 = τ.1 → τ'.2.1 = τ.2.1 → τ'.2.2.1 = τ.2.2.1 → τ'.2.2.2.1 = (τ.2.2.2.1.1, (a, (0 : Int32))) → τ'.2.2.2.2.1 = ((0 : Int32), (0 : Int32)) → τ'.2.2.2.2.2.1 = (0 : Int64) → (∀ j, j < i → τ'.2.2.2.2.2.2 j = 0) → wp_X12_start_36 (Q 1 ((σ.1.1, (y, a)), (((0 : Int32), (0 : Int64)), ((0 : Int32), (0 : Int64))))) (m + 1) τ' (nI i) := by
    intro m
    induction m with
    | zero =>
      intro i hi τ' e1 e2 e3 e4 e5 e6 e7
      refine ⟨fun _ => hQ _ _ _ ⟨fun j hj => ?_, fun j hj => ?_, h3, fun j hj => ?_, ?_, ?_, ?_, ?_, ?_⟩ ⟨e1, e2, by rw [e3], by rw [e3], by rw [e3]⟩, fun c => absurd (nI_le (a := 32) (by omega) (by omega)) c⟩
      · show σ.1.1.1 j = τ'.2.2.1.2.2.2 j
        rw [e3]
        exact h1 j hj
      · show σ.1.1.2 j = τ'.2.2.2.1.1 j
        rw [e4]
        exact h2 j hj
      · show y j = _
        rw [e7 j (by omega), ey]
        unfold aw_fill
        rw [if_pos hj]
      · show a = _
        rw [e4]
      · show 0 = _
        rw [e4]
      · show (0 : Int64).toInt32 = _
        rw [e5]
        rfl
      · show 0 = _
        rw [e5]
      · show 0 = _
        rw [e6]
    | succ m ih =>
      intro i hi τ' e1 e2 e3 e4 e5 e6 e7
      refine ⟨fun c => absurd c (nI_ge (b := 32) (by omega) (by omega)), fun _ => ⟨in_k (by omega) (by omega), fun z ez => ?_⟩⟩
      have := ih (i + 1) (by omega) (τ'.1, (τ'.2.1, (τ'.2.2.1, (τ'.2.2.2.1, (τ'.2.2.2.2.1, (τ'.2.2.2.2.2.1, z)))))) e1 e2 e3 e4 e5 e6 (fun j hj => by
        show z j = 0
        rw [ez, nI_clamp (by omega)]
        simp only [upd]
        split
        · rfl
        · exact e7 j (by omega))
      rw [← nI_1] at this
      exact this
  exact loop 32 0 (by omega) _ rfl rfl rfl rfl rfl rfl (fun j hj => absurd hj (Nat.not_lt_zero j))
theorem y_go {a : Int32} (h : RM σ τ) (h0 : ¬ a < 0) (h2 : a ≤ 2000) (hK : ∀ A : Prop, A → K A) (hQ : ∀ r σ' τ', RM σ' τ' → MO τ τ' → Q r σ' r τ') : wp_X2_work σ a (fun r σ' => K (wp_X12_go τ a (Q r σ'))) := by
  obtain ⟨n, hn, rfl⟩ := nI_of2 (n := 2000) (by decide) h0 h2
  obtain ⟨r, σ', τ', c, m, h3, h4⟩ := rm_work n 0 n (by omega) (by omega) σ τ h
  refine ⟨n + 1, c _ (hK _ ?_)⟩
  unfold wp_X12_go
  exact ⟨fun q => absurd q h0, fun _ => ⟨fun _ => ⟨n + 2, m _ (hQ _ _ _ h3 h4)⟩, fun q => absurd h2 q⟩⟩
end Calls2
