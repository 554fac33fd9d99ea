section Switch
def cSw (σ : SX2) (y3 : Int32) (post : Int32 → SX2 → Prop) : Prop :=
  (((y3 &&& (127 : Int32)) = (3 : Int32) → wp_X2_doLoad σ y3 (fun r5 τ6 => post r5 τ6)) ∧ (¬ (y3 &&& (127 : Int32)) = (3 : Int32) → (((y3 &&& (127 : Int32)) = (19 : Int32) → wp_X2_doWithNumber σ y3 (fun r8 τ9 => post r8 τ9)) ∧ (¬ (y3 &&& (127 : Int32)) = (19 : Int32) → (((y3 &&& (127 : Int32)) = (23 : Int32) → wp_X2_begin σ  (fun τ12 => wp_X2_pass τ12 y3 (τ12.1.2.2 + (y3 &&& ((-4096) : Int32))) (fun r13 τ14 => post r13 τ14))) ∧ (¬ (y3 &&& (127 : Int32)) = (23 : Int32) → (((y3 &&& (127 : Int32)) = (35 : Int32) → wp_X2_doStore σ y3 (fun r16 τ17 => post r16 τ17)) ∧ (¬ (y3 &&& (127 : Int32)) = (35 : Int32) → (((y3 &&& (127 : Int32)) = (51 : Int32) → wp_X2_doWithRegisters σ y3 (fun r19 τ20 => post r19 τ20)) ∧ (¬ (y3 &&& (127 : Int32)) = (51 : Int32) → (((y3 &&& (127 : Int32)) = (55 : Int32) → wp_X2_begin σ  (fun τ23 => wp_X2_pass τ23 y3 (y3 &&& ((-4096) : Int32)) (fun r24 τ25 => post r24 τ25))) ∧ (¬ (y3 &&& (127 : Int32)) = (55 : Int32) → (((y3 &&& (127 : Int32)) = (99 : Int32) → wp_X2_doBranch σ y3 (fun r27 τ28 => post r27 τ28)) ∧ (¬ (y3 &&& (127 : Int32)) = (99 : Int32) → (((y3 &&& (127 : Int32)) = (103 : Int32) → wp_X2_doJumpByRegister σ y3 (fun r30 τ31 => post r30 τ31)) ∧ (¬ (y3 &&& (127 : Int32)) = (103 : Int32) → (((y3 &&& (127 : Int32)) = (111 : Int32) → wp_X2_begin σ  (fun τ34 => wp_X2_jumpDistance y3 (fun r35 τ36 => wp_X2_jump τ34 y3 (τ34.1.2.2 + r35) (fun r37 τ38 => post r37 τ38)))) ∧ (¬ (y3 &&& (127 : Int32)) = (111 : Int32) → ((¬ y3 = (115 : Int32) → post (2 : Int32) σ) ∧ (y3 = (115 : Int32) → post (1 : Int32) σ))))))))))))))))))))
def mSw (σ : SX12) (y3 y4 y5 y6 y7 y8 y9 y10 y11 : Int32) (post : Int32 → SX12 → Prop) : Prop :=
  ((¬ y3 = (115 : Int32) → ((¬ y4 = (55 : Int32) → ((¬ y4 = (23 : Int32) → ((¬ y4 = (111 : Int32) → ((¬ y4 = (103 : Int32) → wp_X12_order_239  post σ y3 y4 y5 y6 y7 y8 y9 y10 y11 (0 : Int32) (0 : Int32) (1 : Int32) ((-1) : Int32) (0 : Int32)) ∧ (y4 = (103 : Int32) → ((¬ y6 = 0 → wp_X12_order_239  post σ y3 y4 y5 y6 y7 y8 y9 y10 y11 (0 : Int32) (0 : Int32) (1 : Int32) ((-1) : Int32) (0 : Int32)) ∧ (y6 = 0 → (∀ y82 : Int32, y82 = ((y7 + y10) &&& ((-2) : Int32)) → wp_X12_order_657  post σ y5 y7 y8 y82 (1 : Int32) y11 (1 : Int32) ((-1) : Int32) (0 : Int32))))))) ∧ (y4 = (111 : Int32) → (∀ y85 : Int32, y85 = (σ.2.2.2.1.2.1 + (((((y3 >>> ((31 : Int32) &&& 31)) <<< ((20 : Int32) &&& 31)) ||| (y3 &&& (1044480 : Int32))) ||| ((y3 >>> ((9 : Int32) &&& 31)) &&& (2048 : Int32))) ||| ((y3 >>> ((20 : Int32) &&& 31)) &&& (2046 : Int32)))) → wp_X12_order_657  post σ y5 y7 y8 y85 (1 : Int32) y11 (1 : Int32) ((-1) : Int32) (0 : Int32))))) ∧ (y4 = (23 : Int32) → (∀ y87 : Int32, y87 = (σ.2.2.2.1.2.1 + (y3 &&& ((-4096) : Int32))) → wp_X12_order_657  post σ y5 y7 y8 y11 (0 : Int32) y87 (1 : Int32) ((-1) : Int32) (0 : Int32))))) ∧ (y4 = (55 : Int32) → (∀ y89 : Int32, y89 = (y3 &&& ((-4096) : Int32)) → wp_X12_order_657  post σ y5 y7 y8 y11 (0 : Int32) y89 (1 : Int32) ((-1) : Int32) (0 : Int32))))) ∧ (y3 = (115 : Int32) → post (1 : Int32) σ))
theorem c_pre {σ : SX2} {k : Nat} {post : Int32 → SX2 → Prop} (hk : k < 4096) (ek : σ.1.2.2 = nI (4 * k)) (h : cSw σ (σ.1.1.1 k) post) : wp_X2_doOrder σ post := by
  unfold wp_X2_doOrder
  refine isP_c (fun _ => ⟨fun _ => ?_, fun c => absurd c (by decide)⟩) (fun c => absurd ⟨k, hk, ek⟩ c)
  rw [ek, ix_c hk]
  refine ⟨in_k hk (by omega), fun y ey => ?_⟩
  rw [nI_clamp (by omega)] at ey
  rw [ey]
  exact h
theorem m_pre {τ : SX12} {k : Nat} {w : Int32} {post : Int32 → SX12 → Prop} (hk : k < 4096) (ek : τ.2.2.2.1.2.1 = nI (4 * k)) (hw : τ.2.2.1.2.2.2 k = w) (h : mSw τ w (w &&& 127) ((w >>> ((7 : Int32) &&& 31)) &&& 31) ((w >>> ((12 : Int32) &&& 31)) &&& 7) (τ.2.2.2.1.1 ((w >>> ((15 : Int32) &&& 31)) &&& 31).toNatClampNeg) (τ.2.2.2.1.1 ((w >>> ((20 : Int32) &&& 31)) &&& 31).toNatClampNeg) (w.toUInt32 >>> ((25 : Int32).toUInt32 &&& Int32.toUInt32 31)).toInt32 (w >>> ((20 : Int32) &&& 31)) (nI (4 * k) + 4) post) : wp_X12_order τ post := by
  unfold wp_X12_order
  refine isP_m (fun _ => ⟨fun _ => ?_, fun c => absurd c (by decide)⟩) (fun c => absurd ⟨k, hk, ek⟩ c)
  rw [ek, ix_m hk]
  refine ⟨in_k hk (by omega), fun y3 e3 y4 e4 y5 e5 y6 e6 => ?_⟩
  rw [nI_clamp (by omega), hw] at e3
  subst e3
  refine ⟨rx_in _ _, fun y7 e7 => ⟨rx_in _ _, fun y8 e8 y9 e9 y10 e10 y11 e11 => ?_⟩⟩
  subst e4 e5 e6 e7 e8 e9 e10 e11
  unfold mSw at h
  rw [ek] at h
  exact h
end Switch
