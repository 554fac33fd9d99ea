section Order
/-! one order of the machine: the class's and the reference's -/
def acS (p : Nat) : Nat := 2 * (p / 16 % 16)
def acL (p : Nat) : Int32 := nI (p / 16 + 1)
def acF (f : Nat → Int32) (p : Nat) : Nat → Int32 := if f (acS p) = acL p then f else upd (upd f (acS p + 1) (f (acS p))) (acS p) (acL p)
def acC (f : Nat → Int32) (p : Nat) : Nat := if f (acS p) = acL p then 0 else if f (acS p + 1) = acL p then 0 else 1
theorem acS_lt (p : Nat) : acS p + 1 < 32 := by unfold acS; omega
theorem acF_congr {f g : Nat → Int32} {p : Nat} (h : ∀ j, j < 32 → f j = g j) : ∀ j, j < 32 → acF f p j = acF g p j := by
  intro j hj
  have h1 := acS_lt p
  unfold acF
  rw [h (acS p) (by omega)]
  split
  · exact h j hj
  · simp only [upd]
    rw [h j hj]
theorem acC_congr {f g : Nat → Int32} {p : Nat} (h : ∀ j, j < 32 → f j = g j) : acC f p = acC g p := by
  have h1 := acS_lt p
  unfold acC
  rw [h (acS p) (by omega), h (acS p + 1) (by omega)]
/-- the trail behind an event -/
noncomputable def evS : {f : Int64 → Int64 → Int64 // ∀ h e, f h e = h * 6364136223846793005 + e + 1} := Classical.choice ⟨⟨fun h e => h * 6364136223846793005 + e + 1, fun _ _ => rfl⟩⟩
noncomputable def evE (h : Int64) (e : Int64) : Int64 := evS.1 h e
theorem evE_eq (h e : Int64) : evE h e = h * 6364136223846793005 + e + 1 := evS.2 h e
noncomputable def cAcc (σ : SX2) (p : Nat) : SX2 := ((σ.1.1, (acF σ.1.2.1 p, σ.1.2.2)), ((σ.2.1.1, σ.2.1.2 + Int64.ofNat (20 * acC σ.1.2.1 p)), (σ.2.2.1 + nI (acC σ.1.2.1 p), evE σ.2.2.2 (nI p).toInt64)))
theorem c_reach {σ : SX2} {p : Nat} {post : SX2 → Prop} (hp : p < 16384) (h : post (cAcc σ p)) : wp_X2_reach σ (nI p) post := by
  have e1 : nI p >>> ((4 : Int32) &&& 31) = nI (p / 16) := by rw [pk_shrN (by omega) _ 4 (by decide)]
  have e2 : nI (p / 16) &&& 15 = nI (p / 16 % 16) := pk_andN (m := 15) (by omega) 4 (by decide)
  have hs := acS_lt p
  unfold wp_X2_reach
  intro y1 ey1 y2 ey2
  have ey2 : y2 = nI (acS p) := by
    rw [ey2, ey1, e1, e2]
    have := pk_mul (p / 16 % 16) 2
    rw [show p / 16 % 16 * 2 = acS p by unfold acS; omega] at this
    exact this
  have ey1 : y1 = nI (p / 16) := ey1.trans e1
  have e3 : y1 + 1 = acL p := by rw [ey1]; exact nI_1 _
  have e4 : y2 + 1 = nI (acS p + 1) := by rw [ey2]; exact nI_1 _
  have last : ∀ σ' : SX2, post (σ'.1, (σ'.2.1, (σ'.2.2.1, evE σ'.2.2.2 (nI p).toInt64))) → wp_X2_reach_82 post σ' (nI p) := by
    intro σ' h'
    unfold wp_X2_reach_82 wp_X2_note
    intro y ey
    rw [← evE_eq] at ey
    rw [ey]
    exact h'
  have mid : ∀ σ' : SX2, σ'.1 = σ.1 → ¬ σ.1.2.1 (acS p) = acL p → post ((σ'.1.1, (acF σ.1.2.1 p, σ'.1.2.2)), (σ'.2.1, (σ'.2.2.1, evE σ'.2.2.2 (nI p).toInt64))) → wp_X2_reach_59 post σ' (nI p) y1 y2 := by
    intro σ' hσ hne h'
    unfold wp_X2_reach_59
    rw [e4, ey2]
    refine ⟨in_k (by omega) (by omega), in_k (by omega) (by omega), fun y5 ey5 => ⟨in_k (by omega) (by omega), fun y6 ey6 => ?_⟩⟩
    refine last _ ?_
    have : y6 = acF σ.1.2.1 p := by
      rw [ey6, ey5, e3, nI_clamp (by omega), nI_clamp (by omega), hσ]
      unfold acF
      rw [if_neg hne]
    rw [this]
    exact h'
  rw [ey2, e3]
  refine ⟨in_k (by omega) (by omega), fun c => ?_, fun c => ⟨?_, fun c2 => ?_, fun c2 y7 ey7 y8 ey8 => ?_⟩⟩
  · rw [nI_clamp (by omega)] at c
    refine last σ ?_
    have hc : acC σ.1.2.1 p = 0 := by unfold acC; simp [c]
    have hf : acF σ.1.2.1 p = σ.1.2.1 := by unfold acF; rw [if_pos c]
    have := h
    unfold cAcc at this
    rw [hc, hf] at this
    simpa [show nI 0 = 0 from rfl] using this
  · rw [show nI (acS p) + 1 = nI (acS p + 1) from nI_1 _]; exact in_k (by omega) (by omega)
  · rw [nI_clamp (by omega)] at c
    rw [show nI (acS p) + 1 = nI (acS p + 1) from nI_1 _, nI_clamp (by omega)] at c2
    rw [← ey2]
    refine mid σ rfl c ?_
    have hc : acC σ.1.2.1 p = 0 := by unfold acC; simp [c2]
    have := h
    unfold cAcc at this
    rw [hc] at this
    simpa [show nI 0 = 0 from rfl] using this
  · rw [nI_clamp (by omega)] at c
    rw [show nI (acS p) + 1 = nI (acS p + 1) from nI_1 _, nI_clamp (by omega)] at c2
    rw [← ey2]
    refine mid _ rfl c ?_
    have hc : acC σ.1.2.1 p = 1 := by unfold acC; simp [c, c2]
    have := h
    unfold cAcc at this
    rw [hc] at this
    rw [ey7, ey8]
    exact this
noncomputable def mAcc (τ : SX12) (p : Nat) : SX12 := (τ.1, (τ.2.1, (τ.2.2.1, (τ.2.2.2.1, ((τ.2.2.2.2.1.1 + nI (20 * acC τ.2.2.2.2.2.2 p), τ.2.2.2.2.1.2 + nI (acC τ.2.2.2.2.2.2 p)), (τ.2.2.2.2.2.1, acF τ.2.2.2.2.2.2 p))))))
theorem m_access {τ : SX12} {p : Nat} {post : SX12 → Prop} (hp : p < 16384) (h : post (mAcc τ p)) : wp_X12_access τ (nI p) post := by
  have e1 : nI p / 16 = nI (p / 16) := pk_div (d := 16) (by omega) (by omega) (by omega)
  have e2 : nI (p / 16) - nI (p / 16) / 16 * 16 = nI (p / 16 % 16) := pk_rem (d := 16) (by omega) (by omega) (by omega)
  have hs := acS_lt p
  unfold wp_X12_access
  intro y1 ey1 y2 ey2
  rw [e1] at ey1 ey2
  rw [e2] at ey2
  have e3 : y1 = acL p := by rw [ey1]; exact nI_1 _
  have e5 : (2 : Int32) * y2 = nI (acS p) := by
    rw [ey2]
    have := pk_mul 2 (p / 16 % 16)
    exact this
  have e4 : (2 : Int32) * y2 + 1 = nI (acS p + 1) := by rw [e5]; exact nI_1 _
  have mid : ∀ τ' : SX12, τ'.2.2.2.2.2 = τ.2.2.2.2.2 → ¬ τ.2.2.2.2.2.2 (acS p) = acL p → post (τ'.1, (τ'.2.1, (τ'.2.2.1, (τ'.2.2.2.1, (τ'.2.2.2.2.1, (τ.2.2.2.2.2.1, acF τ.2.2.2.2.2.2 p)))))) → wp_X12_access_63 post τ' y1 y2 := by
    intro τ' hτ hne h'
    unfold wp_X12_access_63
    rw [e4, e5, hτ]
    refine ⟨in_k (by omega) (by omega), in_k (by omega) (by omega), fun y5 ey5 => ⟨in_k (by omega) (by omega), fun y6 ey6 => ?_⟩⟩
    have : y6 = acF τ.2.2.2.2.2.2 p := by
      rw [ey6, ey5, e3, nI_clamp (by omega), nI_clamp (by omega)]
      unfold acF
      rw [if_neg hne]
    rw [this]
    exact h'
  rw [e4, e5]
  refine ⟨in_k (by omega) (by omega), fun c => ⟨in_k (by omega) (by omega), fun c2 => ?_, fun c2 y7 ey7 y8 ey8 => ?_⟩, fun c => ?_⟩
  · rw [nI_clamp (by omega), e3] at c
    rw [nI_clamp (by omega), e3] at c2
    refine mid τ rfl c ?_
    have hc : acC τ.2.2.2.2.2.2 p = 0 := by unfold acC; simp [c2]
    have := h
    unfold mAcc at this
    rw [hc] at this
    simpa [show nI 0 = 0 from rfl] using this
  · rw [nI_clamp (by omega), e3] at c
    rw [nI_clamp (by omega), e3] at c2
    refine mid _ rfl c ?_
    have hc : acC τ.2.2.2.2.2.2 p = 1 := by unfold acC; simp [c, c2]
    have := h
    unfold mAcc at this
    rw [hc] at this
    rw [ey7, ey8]
    exact this
  · rw [nI_clamp (by omega), e3] at c
    have hc : acC τ.2.2.2.2.2.2 p = 0 := by unfold acC; simp [c]
    have hf : acF τ.2.2.2.2.2.2 p = τ.2.2.2.2.2.2 := by unfold acF; rw [if_pos c]
    have := h
    unfold mAcc at this
    rw [hc, hf] at this
    simpa [show nI 0 = 0 from rfl] using this
end Order
