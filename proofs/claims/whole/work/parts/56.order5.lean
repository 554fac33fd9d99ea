section Order5
def jv (f a b : Int32) : Int32 := if f = 0 then a + b else if f = 1 then a <<< ((b &&& 31) &&& 31) else if f = 2 then (if b ≤ a then 0 else 1) else if f = 3 then (if (b ^^^ (-2147483648)) ≤ (a ^^^ (-2147483648)) then 0 else 1) else if f = 4 then a ^^^ b else if f = 5 then (a.toUInt32 >>> ((b &&& 31).toUInt32 &&& Int32.toUInt32 31)).toInt32 else if f = 6 then a ||| b else a &&& b
theorem c_join {f a b : Int32} {P : Int32 → Unit → Prop} (h : P (jv f a b) ()) : wp_X2_join f a b P := by
  unfold wp_X2_join
  unfold jv at h
  simp only [u_ge]
  refine ⟨fun c0 => ?_, fun c0 => ⟨fun c1 => ?_, fun c1 => ⟨fun c2 => ?_, fun c2 => ⟨fun c3 => ?_, fun c3 => ⟨fun c4 => ?_, fun c4 => ⟨fun c5 => ?_, fun c5 => ⟨fun c6 => ?_, fun c6 => ?_⟩⟩⟩⟩⟩⟩⟩
  · rwa [if_pos c0] at h
  · rwa [if_neg c0, if_pos c1] at h
  · rw [if_neg c0, if_neg c1, if_pos c2] at h
    exact ⟨fun q => by rwa [if_pos q] at h, fun q => by rwa [if_neg q] at h⟩
  · rw [if_neg c0, if_neg c1, if_neg c2, if_pos c3] at h
    exact ⟨fun q => by rwa [if_pos q] at h, fun q => by rwa [if_neg q] at h⟩
  · rwa [if_neg c0, if_neg c1, if_neg c2, if_neg c3, if_pos c4] at h
  · rwa [if_neg c0, if_neg c1, if_neg c2, if_neg c3, if_neg c4, if_pos c5] at h
  · rwa [if_neg c0, if_neg c1, if_neg c2, if_neg c3, if_neg c4, if_neg c5, if_pos c6] at h
  · rwa [if_neg c0, if_neg c1, if_neg c2, if_neg c3, if_neg c4, if_neg c5, if_neg c6] at h
theorem m_reckon {f a b : Int32} {P : Int32 → Unit → Prop} (h : P (jv f a b) ()) : wp_X12_reckon f 0 a b P := by
  unfold wp_X12_reckon
  unfold jv at h
  refine ⟨fun c0 => ?_, fun c0 => ⟨fun c1 => ?_, fun c1 => ⟨fun c2 => ?_, fun c2 => ⟨fun c3 => ?_, fun c3 => ⟨fun c4 => ?_, fun c4 => ⟨fun c5 => ?_, fun c5 => ⟨fun c6 => ?_, fun c6 => ?_⟩⟩⟩⟩⟩⟩⟩
  · rw [if_pos c0] at h
    exact ⟨fun _ => h, fun c => absurd rfl c⟩
  · rwa [if_neg c0, if_pos c1] at h
  · rw [if_neg c0, if_neg c1, if_pos c2] at h
    exact ⟨fun q => by rwa [if_pos q] at h, fun q => by rwa [if_neg q] at h⟩
  · rw [if_neg c0, if_neg c1, if_neg c2, if_pos c3] at h
    exact ⟨fun q => by rwa [if_pos q] at h, fun q => by rwa [if_neg q] at h⟩
  · rwa [if_neg c0, if_neg c1, if_neg c2, if_neg c3, if_pos c4] at h
  · rw [if_neg c0, if_neg c1, if_neg c2, if_neg c3, if_neg c4, if_pos c5] at h
    exact ⟨fun _ => h, fun c => absurd rfl c⟩
  · rwa [if_neg c0, if_neg c1, if_neg c2, if_neg c3, if_neg c4, if_neg c5, if_pos c6] at h
  · rwa [if_neg c0, if_neg c1, if_neg c2, if_neg c3, if_neg c4, if_neg c5, if_neg c6] at h
theorem m_reck0 {a b : Int32} {P : Int32 → Unit → Prop} (h : P (a - b) ()) : wp_X12_reckon 0 1 a b P := by
  unfold wp_X12_reckon
  exact ⟨fun _ => ⟨fun c => absurd c (by decide), fun _ => h⟩, fun c => absurd rfl c⟩
theorem m_reck5 {a b : Int32} {P : Int32 → Unit → Prop} (h : P (a >>> ((b &&& 31) &&& 31)) ()) : wp_X12_reckon 5 1 a b P := by
  unfold wp_X12_reckon
  simp (config := {decide := true}) only [false_implies, true_implies, true_and, and_true, not_false_eq_true, not_true_eq_false]
  exact h
theorem o_19 {σ : SX2} {τ : SX12} {k : Nat} {w : Int32} (h : RM σ τ) (hk : k < 4096) (ek : σ.1.2.2 = nI (4 * k)) (ew : σ.1.1.1 k = w) (hc : w &&& 127 = 19) : OO σ τ := by
  have hw := o_115 hc (by decide)
  by_cases hA : oF w = 5 ∧ oS w = 32
  · refine ⟨0, cPass (cBeg σ (4 * k)) w (σ.1.1.2 (oA w).toNatClampNeg >>> ((oI w &&& 31) &&& 31)), mEnd (mB τ (4 * k)) (oD w) (nI (4 * k) + 4) 0 (σ.1.1.2 (oA w).toNatClampNeg >>> ((oI w &&& 31) &&& 31)) 1 0, fun P hP => c_pre hk ek ?_, fun P hP => m_pre2 h hk ek ew ?_, RX.pass (RX.beg (4 * k) h) (by rw [cB_pc, ek]), mo_end _ _ _ _ _ _ (mo_acc τ (4 * k))⟩
    · rw [ew]
      unfold cSw
      rw [hc]
      simp (config := {decide := true}) only [false_implies, true_implies, true_and, and_true, not_false_eq_true, not_true_eq_false]
      unfold wp_X2_doWithNumber wp_X2_third
      intro y3 e3 y4 e4
      refine ⟨fun c => absurd hA.1 c, fun _ => ⟨fun c => absurd (e3.trans hA.2) c, fun _ => ?_⟩⟩
      have hF : (w >>> ((12 : Int32) &&& 31)) &&& (7 : Int32) = 5 := hA.1
      rw [hF]
      unfold wp_X2_doWithNumber_32 wp_X2_doWithNumber_44 wp_X2_doWithNumber_55
      simp (config := {decide := true}) only [false_implies, true_implies, true_and, and_true, not_false_eq_true, not_true_eq_false]
      have last : wp_X2_begin σ (fun τ6 => wp_X2_left τ6 w (fun r13 τ14 => wp_X2_doWithNumber_91 P τ14 (r13 >>> ((y4 &&& (31 : Int32)) &&& 31)) w)) := by
        refine c_begin (by omega) ek ⟨rx_in _ _, c_pass ?_⟩
        rw [e4]
        exact hP
      exact ⟨fun _ => last, fun _ => last⟩
    · unfold mSw
      rw [hc, hA.1, hA.2]
      simp (config := {decide := true}) only [hw, false_implies, true_implies, true_and, and_true, not_false_eq_true, not_true_eq_false]
      unfold wp_X12_order_239 wp_X12_order_409 wp_X12_order_451 wp_X12_order_492
      simp (config := {decide := true}) only [false_implies, true_implies, true_and, and_true, not_false_eq_true, not_true_eq_false]
      unfold wp_X12_order_510 wp_X12_order_528 wp_X12_order_548
      simp (config := {decide := true}) only [false_implies, true_implies, true_and, and_true, not_false_eq_true, not_true_eq_false]
      exact m_reck5 (m_tail hk (o_pcm h ek) hP)
  · by_cases hB : (oF w = 1 ∨ oF w = 5) ∧ ¬ oS w = 0
    · refine o_none h 2 (fun P hP => c_pre hk ek ?_) (fun P hP => m_pre2 h hk ek ew ?_)
      · rw [ew]
        unfold cSw
        rw [hc]
        simp (config := {decide := true}) only [false_implies, true_implies, true_and, and_true, not_false_eq_true, not_true_eq_false]
        unfold wp_X2_doWithNumber wp_X2_third
        intro y3 e3 y4 e4
        have last : wp_X2_doWithNumber_31 P σ w (oF w) y3 y4 := by
          unfold wp_X2_doWithNumber_31 wp_X2_doWithNumber_32 wp_X2_doWithNumber_44
          rw [show y3 = oS w from e3]
          have l2 : ((oS w = 0 → wp_X2_doWithNumber_55 P σ w (oF w) y4 (0 : Int32)) ∧ (¬ oS w = 0 → ((¬ (0 : Int32) = 0 → wp_X2_doWithNumber_55 P σ w (oF w) y4 (0 : Int32)) ∧ ((0 : Int32) = 0 → P (2 : Int32) σ)))) := ⟨fun c => absurd c hB.2, fun _ => ⟨fun c => absurd rfl c, fun _ => hP⟩⟩
          exact ⟨fun _ => l2, fun c => ⟨fun c2 => absurd hB.1 (by rintro (q | q); exact c q; exact c2 q), fun _ => l2⟩⟩
        exact ⟨fun _ => last, fun c => ⟨fun _ => last, fun c2 => absurd ⟨c, e3.symm.trans c2⟩ hA⟩⟩
      · unfold mSw
        rw [hc]
        simp (config := {decide := true}) only [hw, false_implies, true_implies, true_and, and_true, not_false_eq_true, not_true_eq_false]
        unfold wp_X12_order_239 wp_X12_order_409 wp_X12_order_451 wp_X12_order_492
        simp (config := {decide := true}) only [false_implies, true_implies, true_and, and_true, not_false_eq_true, not_true_eq_false]
        have l560 : wp_X12_order_560 P τ 19 (oD w) (oF w) (σ.1.1.2 (oA w).toNatClampNeg) (σ.1.1.2 (oB w).toNatClampNeg) (oS w) (nI (4 * k) + 4) 0 1 (-1) 0 := by
          unfold wp_X12_order_560 wp_X12_order_615
          simp (config := {decide := true}) only [false_implies, true_implies, true_and, and_true, not_false_eq_true, not_true_eq_false]
          exact hP
        have l510 : wp_X12_order_510 P τ 19 (oD w) (oF w) (σ.1.1.2 (oA w).toNatClampNeg) (σ.1.1.2 (oB w).toNatClampNeg) (oS w) (oI w) (nI (4 * k) + 4) 0 1 (-1) 0 := by
          unfold wp_X12_order_510
          exact ⟨fun c => absurd c hB.2, fun _ => ⟨fun _ => l560, fun c => ⟨fun _ => l560, fun c2 => absurd ⟨c, c2⟩ hA⟩⟩⟩
        exact ⟨fun _ => l510, fun c => ⟨fun c2 => absurd hB.1 (by rintro (q | q); exact c q; exact c2 q), fun _ => l510⟩⟩
    · refine ⟨0, cPass (cBeg σ (4 * k)) w (jv (oF w) (σ.1.1.2 (oA w).toNatClampNeg) (oI w)), mEnd (mB τ (4 * k)) (oD w) (nI (4 * k) + 4) 0 (jv (oF w) (σ.1.1.2 (oA w).toNatClampNeg) (oI w)) 1 0, fun P hP => c_pre hk ek ?_, fun P hP => m_pre2 h hk ek ew ?_, RX.pass (RX.beg (4 * k) h) (by rw [cB_pc, ek]), mo_end _ _ _ _ _ _ (mo_acc τ (4 * k))⟩
      · rw [ew]
        unfold cSw
        rw [hc]
        simp (config := {decide := true}) only [false_implies, true_implies, true_and, and_true, not_false_eq_true, not_true_eq_false]
        unfold wp_X2_doWithNumber wp_X2_third
        intro y3 e3 y4 e4
        have l55 : wp_X2_doWithNumber_55 P σ w (oF w) y4 0 := by
          unfold wp_X2_doWithNumber_55
          refine c_begin (by omega) ek ⟨fun _ => ⟨rx_in _ _, c_join (c_pass ?_)⟩, fun c => absurd rfl c⟩
          rw [e4]
          exact hP
        have last : wp_X2_doWithNumber_31 P σ w (oF w) y3 y4 := by
          unfold wp_X2_doWithNumber_31 wp_X2_doWithNumber_32 wp_X2_doWithNumber_44
          rw [show y3 = oS w from e3]
          exact ⟨fun c => ⟨fun _ => l55, fun c2 => absurd ⟨Or.inl c, c2⟩ hB⟩, fun c => ⟨fun c2 => l55, fun c2 => ⟨fun _ => l55, fun c3 => absurd ⟨Or.inr c2, c3⟩ hB⟩⟩⟩
        exact ⟨fun _ => last, fun c => ⟨fun _ => last, fun c2 => absurd ⟨c, e3.symm.trans c2⟩ hA⟩⟩
      · unfold mSw
        rw [hc]
        simp (config := {decide := true}) only [hw, false_implies, true_implies, true_and, and_true, not_false_eq_true, not_true_eq_false]
        unfold wp_X12_order_239 wp_X12_order_409 wp_X12_order_451 wp_X12_order_492
        simp (config := {decide := true}) only [false_implies, true_implies, true_and, and_true, not_false_eq_true, not_true_eq_false]
        have l547 : wp_X12_order_547 P τ (oD w) (σ.1.1.2 (oA w).toNatClampNeg) (σ.1.1.2 (oB w).toNatClampNeg) (oI w) (nI (4 * k) + 4) 0 1 (-1) 0 (oF w) := by
          unfold wp_X12_order_547 wp_X12_order_548
          exact m_reckon (m_tail hk (o_pcm h ek) hP)
        have l528 : wp_X12_order_528 P τ (oD w) (oF w) (σ.1.1.2 (oA w).toNatClampNeg) (σ.1.1.2 (oB w).toNatClampNeg) (oS w) (oI w) (nI (4 * k) + 4) 0 1 (-1) 0 := by
          unfold wp_X12_order_528
          exact ⟨fun _ => l547, fun c => ⟨fun _ => l547, fun c2 => absurd ⟨c, c2⟩ hA⟩⟩
        have l510 : (oF w = 1 ∨ oF w = 5) → wp_X12_order_510 P τ 19 (oD w) (oF w) (σ.1.1.2 (oA w).toNatClampNeg) (σ.1.1.2 (oB w).toNatClampNeg) (oS w) (oI w) (nI (4 * k) + 4) 0 1 (-1) 0 := by
          intro q
          unfold wp_X12_order_510
          exact ⟨fun _ => l528, fun c => absurd ⟨q, c⟩ hB⟩
        exact ⟨fun c => l510 (Or.inl c), fun c => ⟨fun c2 => l528, fun c2 => l510 (Or.inr c2)⟩⟩
end Order5
