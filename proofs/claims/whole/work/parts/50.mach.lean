section Mach
/-- a place of the machine -/
def isP (p : Int32) : Prop := ∃ k : Nat, k < 4096 ∧ p = nI (4 * k)
theorem isP_c {p : Int32} {post : Int32 → Unit → Prop} (h1 : isP p → post 1 ()) (h0 : ¬ isP p → post 0 ()) : wp_X2_isPlace p post := by
  unfold wp_X2_isPlace
  refine ⟨fun c => h0 ?_, fun c => ⟨fun c2 => h0 ?_, fun c2 => ?_⟩⟩
  · rintro ⟨k, hk, rfl⟩
    exact absurd c (nI_pos (by omega))
  · rintro ⟨k, hk, rfl⟩
    exact absurd ((nI_leI (a := 16384) (by omega) (by omega)).mp c2) (by omega)
  · obtain ⟨j, hj, rfl⟩ := nI_of c
    have hj2 : j < 16384 := Nat.not_le.mp fun q => c2 ((nI_leI (a := 16384) (by omega) hj).mpr q)
    have e : nI j &&& 3 = nI (j % 4) := pk_andN (m := 3) (by omega) 2 (by decide)
    refine ⟨fun c3 => h0 ?_, fun c3 => h1 ?_⟩
    · rintro ⟨k, hk, e2⟩
      have : j = 4 * k := (nI_eq (by omega) (by omega)).mp e2
      refine c3 ?_
      rw [e, show j % 4 = 0 by omega]
      rfl
    · rw [e] at c3
      have : j % 4 = 0 := (nI_eq (b := 0) (by omega) (by omega)).mp c3
      exact ⟨j / 4, by omega, by rw [show 4 * (j / 4) = j by omega]⟩
theorem isP_m {p : Int32} {post : Int32 → Unit → Prop} (h1 : isP p → post 1 ()) (h0 : ¬ isP p → post 0 ()) : wp_X12_isPlace p post := by
  unfold wp_X12_isPlace
  refine ⟨fun c => h0 ?_, fun c => ⟨fun c2 => h0 ?_, fun c2 => ?_⟩⟩
  · rintro ⟨k, hk, rfl⟩
    exact absurd c (nI_pos (by omega))
  · rintro ⟨k, hk, rfl⟩
    exact absurd ((nI_ltI (a := 16380) (by omega) (by omega)).mp c2) (by omega)
  · obtain ⟨j, hj, rfl⟩ := nI_of c
    have hj2 : j < 16384 := by
      have : ¬ 16380 < j := fun q => c2 ((nI_ltI (a := 16380) (by omega) hj).mpr q)
      omega
    have e : nI j - nI j / 4 * 4 = nI (j % 4) := pk_rem (d := 4) hj (by omega) (by omega)
    refine ⟨fun c3 => h0 ?_, fun c3 => h1 ?_⟩
    · rintro ⟨k, hk, e2⟩
      have : j = 4 * k := (nI_eq (by omega) (by omega)).mp e2
      refine c3 ?_
      rw [e, show j % 4 = 0 by omega]
      rfl
    · rw [e] at c3
      have h16 : ¬ 16380 < j := fun q => c2 ((nI_ltI (a := 16380) (by omega) hj).mpr q)
      have : j % 4 = 0 := (nI_eq (b := 0) (by omega) (by omega)).mp c3
      exact ⟨j / 4, by omega, by rw [show 4 * (j / 4) = j by omega]⟩
theorem ix_c {k : Nat} (hk : k < 4096) : nI (4 * k) >>> ((2 : Int32) &&& 31) = nI k := by
  rw [pk_shrN (by omega) _ 2 (by decide), show 4 * k / 2 ^ 2 = k by omega]
theorem ix_m {k : Nat} (hk : k < 4096) : nI (4 * k) / 4 = nI k := by
  have := pk_div (a := 4 * k) (d := 4) (by omega) (by omega) (by omega)
  rw [show 4 * k / 4 = k by omega] at this
  exact this
theorem in_k {k n : Nat} (hk : k < n) (hn : n < 2 ^ 31) : vp_in (nI k) n := vp_in_nI hk hn
/-- the class's machine and the reference's hold the same -/
def RM (σ : SX2) (τ : SX12) : Prop :=
  (∀ j, j < 4096 → σ.1.1.1 j = τ.2.2.1.2.2.2 j) ∧ (∀ j, j < 32 → σ.1.1.2 j = τ.2.2.2.1.1 j) ∧ σ.1.1.2 0 = 0 ∧ (∀ j, j < 32 → σ.1.2.1 j = τ.2.2.2.2.2.2 j) ∧
  σ.1.2.2 = τ.2.2.2.1.2.1 ∧ σ.2.1.1 = τ.2.2.2.1.2.2 ∧ σ.2.1.2.toInt32 = τ.2.2.2.2.1.1 ∧ σ.2.2.1 = τ.2.2.2.2.1.2 ∧ σ.2.2.2 = τ.2.2.2.2.2.1
/-- of the reference only its machine has changed -/
def MO (τ τ' : SX12) : Prop := τ'.1 = τ.1 ∧ τ'.2.1 = τ.2.1 ∧ τ'.2.2.1.1 = τ.2.2.1.1 ∧ τ'.2.2.1.2.1 = τ.2.2.1.2.1 ∧ τ'.2.2.1.2.2.1 = τ.2.2.1.2.2.1
theorem MO.rf (τ : SX12) : MO τ τ := ⟨rfl, rfl, rfl, rfl, rfl⟩
theorem MO.tr {a b c : SX12} (h : MO a b) (h2 : MO b c) : MO a c := ⟨h2.1.trans h.1, h2.2.1.trans h.2.1, h2.2.2.1.trans h.2.2.1, h2.2.2.2.1.trans h.2.2.2.1, h2.2.2.2.2.trans h.2.2.2.2⟩
theorem rm_poke {σ : SX2} {τ : SX12} {a v : Int32} (h : RM σ τ) : wp_X2_store σ a v (fun r σ' => wp_X12_poke τ a v (fun r' τ' => r = r' ∧ RM σ' τ' ∧ MO τ τ')) := by
  unfold wp_X2_store wp_X12_poke
  refine isP_c (fun hp => ?_) (fun hp => ?_)
  · refine ⟨fun _ => ?_, fun c => absurd c (by decide)⟩
    obtain ⟨k, hk, rfl⟩ := id hp
    rw [ix_c hk]
    refine ⟨in_k hk (by omega), fun y ey => ?_⟩
    refine isP_m (fun _ => ⟨fun _ => ?_, fun c => absurd c (by decide)⟩) (fun c => absurd hp c)
    rw [ix_m hk]
    refine ⟨in_k hk (by omega), fun z ez => ⟨rfl, ⟨fun j hj => ?_, h.2⟩, ⟨rfl, rfl, rfl, rfl, rfl⟩⟩⟩
    show y j = z j
    rw [ey, ez]
    simp only [upd]
    rw [h.1 j hj]
  · refine ⟨fun c => absurd rfl c, fun _ => ?_⟩
    refine isP_m (fun c => absurd c hp) (fun _ => ⟨fun c => absurd rfl c, fun _ => ⟨rfl, h, MO.rf τ⟩⟩)
theorem rm_peek {σ : SX2} {τ : SX12} {a : Int32} (h : RM σ τ) : wp_X2_fetch σ a (fun r σ' => wp_X12_peek τ a (fun r' τ' => r = r' ∧ σ' = σ ∧ τ' = τ)) := by
  unfold wp_X2_fetch wp_X12_peek
  refine isP_c (fun hp => ⟨fun c => absurd c (by decide), fun _ => ?_⟩) (fun hp => ⟨fun _ => ?_, fun c => absurd rfl c⟩)
  · obtain ⟨k, hk, rfl⟩ := id hp
    rw [ix_c hk]
    refine ⟨in_k hk (by omega), ?_⟩
    refine isP_m (fun _ => ⟨fun c => absurd c (by decide), fun _ => ?_⟩) (fun c => absurd hp c)
    rw [ix_m hk]
    refine ⟨in_k hk (by omega), ?_, rfl, rfl⟩
    rw [nI_clamp (by omega)]
    exact h.1 k hk
  · exact isP_m (fun c => absurd c hp) (fun _ => ⟨fun _ => ⟨rfl, rfl, rfl⟩, fun c => absurd rfl c⟩)
end Mach
