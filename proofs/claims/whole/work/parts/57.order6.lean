section Order6
def cAdd (σ : SX2) (d : Int64) : SX2 := (σ.1, ((σ.2.1.1, σ.2.1.2 + d), σ.2.2))
theorem o_prod (j : Nat) (hj : j < 4) (a b : Int32) : ∃ v, (∀ (σ : SX2) (P : Int32 → SX2 → Prop), P v (cAdd σ 3) → wp_X2_product σ (nI j) a b P) ∧ (∀ Q : Int32 → Unit → Prop, Q v () → wp_X12_multiply (nI j) a b Q) := by
  have e : j = 0 ∨ j = 1 ∨ j = 2 ∨ j = 3 := by omega
  rcases e with rfl | rfl | rfl | rfl
  · refine ⟨(a * b), fun σ P hP => ?_, fun Q hQ => ?_⟩
    · unfold wp_X2_product
      intro y ey
      rw [ey]
      simp (config := {decide := true}) only [show nI 0 = 0 from rfl, false_implies, true_implies, true_and, and_true, not_false_eq_true, not_true_eq_false]
      exact hP
    · unfold wp_X12_multiply
      intro y1 e1 y2 e2
      rw [e1, e2]
      simp (config := {decide := true}) only [show nI 0 = 0 from rfl, false_implies, true_implies, true_and, and_true, not_false_eq_true, not_true_eq_false]
      exact hQ
  · refine ⟨(((a).toInt64 * (b).toInt64) >>> (((32 : Int32)).toInt64 &&& 63)).toInt32, fun σ P hP => ?_, fun Q hQ => ?_⟩
    · unfold wp_X2_product
      intro y ey
      rw [ey]
      simp (config := {decide := true}) only [show nI 1 = 1 from rfl, false_implies, true_implies, true_and, and_true, not_false_eq_true, not_true_eq_false]
      exact hP
    · unfold wp_X12_multiply
      intro y1 e1 y2 e2
      rw [e1, e2]
      simp (config := {decide := true}) only [show nI 1 = 1 from rfl, false_implies, true_implies, true_and, and_true, not_false_eq_true, not_true_eq_false]
      exact hQ
  · refine ⟨(((a).toInt64 * ((b).toInt64 &&& (4294967295 : Int64))) >>> (((32 : Int32)).toInt64 &&& 63)).toInt32, fun σ P hP => ?_, fun Q hQ => ?_⟩
    · unfold wp_X2_product
      intro y ey
      rw [ey]
      simp (config := {decide := true}) only [show nI 2 = 2 from rfl, false_implies, true_implies, true_and, and_true, not_false_eq_true, not_true_eq_false]
      exact hP
    · unfold wp_X12_multiply
      intro y1 e1 y2 e2
      rw [e1, e2]
      simp (config := {decide := true}) only [show nI 2 = 2 from rfl, false_implies, true_implies, true_and, and_true, not_false_eq_true, not_true_eq_false]
      exact hQ
  · refine ⟨(((((a).toInt64 &&& (4294967295 : Int64)) * ((b).toInt64 &&& (4294967295 : Int64)))).toUInt64 >>> (((32 : Int32)).toInt64.toUInt64 &&& Int64.toUInt64 63)).toInt64.toInt32, fun σ P hP => ?_, fun Q hQ => ?_⟩
    · unfold wp_X2_product
      intro y ey
      rw [ey]
      simp (config := {decide := true}) only [show nI 3 = 3 from rfl, false_implies, true_implies, true_and, and_true, not_false_eq_true, not_true_eq_false]
      exact hP
    · unfold wp_X12_multiply
      intro y1 e1 y2 e2
      rw [e1, e2]
      simp (config := {decide := true}) only [show nI 3 = 3 from rfl, false_implies, true_implies, true_and, and_true, not_false_eq_true, not_true_eq_false]
      exact hQ
noncomputable def cDiv (σ : SX2) (a b : Int32) : SX2 := cEvt (cEvt (cAdd σ 32) a.toInt64) b.toInt64
theorem o_div (j : Nat) (h4 : 4 ≤ j) (hj : j < 8) (a b : Int32) : ∃ v, (∀ (σ : SX2) (P : Int32 → SX2 → Prop), P v (cDiv σ a b) → wp_X2_division σ (nI j) a b P) ∧ (∀ Q : Int32 → Unit → Prop, Q v () → wp_X12_multiply (nI j) a b Q) := by
  have pre : ∀ (σ : SX2) (P : Int32 → SX2 → Prop) (j : Nat), ((nI j = (4 : Int32) → wp_X2_division_32 P (cDiv σ a b) (nI j) a b) ∧ (¬ nI j = (4 : Int32) → ((¬ nI j = (5 : Int32) → wp_X2_division_37 P (cDiv σ a b) (nI j) a b (0 : Int32)) ∧ (nI j = (5 : Int32) → wp_X2_division_32 P (cDiv σ a b) (nI j) a b)))) → wp_X2_division σ (nI j) a b P := by
    intro σ P j q
    unfold wp_X2_division
    intro y ey
    rw [ey]
    exact c_note (c_note q)
  have e : j = 4 ∨ j = 5 ∨ j = 6 ∨ j = 7 := by omega
  by_cases hb : b = 0
  · rcases e with rfl | rfl | rfl | rfl
    · refine ⟨-1, fun σ P hP => pre σ P _ ?_, fun Q hQ => ?_⟩
      · unfold wp_X2_division_32 wp_X2_division_37
        simp (config := {decide := true}) only [show nI 4 = 4 from rfl, hb, false_implies, true_implies, true_and, and_true, not_false_eq_true, not_true_eq_false]
        rw [hb] at hP
        exact hP
      · unfold wp_X12_multiply
        intro y1 e1 y2 e2
        simp (config := {decide := true}) only [show nI 4 = 4 from rfl, hb, false_implies, true_implies, true_and, and_true, not_false_eq_true, not_true_eq_false]
        exact hQ
    · refine ⟨-1, fun σ P hP => pre σ P _ ?_, fun Q hQ => ?_⟩
      · unfold wp_X2_division_32 wp_X2_division_37
        simp (config := {decide := true}) only [show nI 5 = 5 from rfl, hb, false_implies, true_implies, true_and, and_true, not_false_eq_true, not_true_eq_false]
        rw [hb] at hP
        exact hP
      · unfold wp_X12_multiply
        intro y1 e1 y2 e2
        simp (config := {decide := true}) only [show nI 5 = 5 from rfl, hb, false_implies, true_implies, true_and, and_true, not_false_eq_true, not_true_eq_false]
        exact hQ
    · refine ⟨a, fun σ P hP => pre σ P _ ?_, fun Q hQ => ?_⟩
      · unfold wp_X2_division_32 wp_X2_division_37
        simp (config := {decide := true}) only [show nI 6 = 6 from rfl, hb, false_implies, true_implies, true_and, and_true, not_false_eq_true, not_true_eq_false]
        rw [hb] at hP
        exact hP
      · unfold wp_X12_multiply
        intro y1 e1 y2 e2
        simp (config := {decide := true}) only [show nI 6 = 6 from rfl, hb, false_implies, true_implies, true_and, and_true, not_false_eq_true, not_true_eq_false]
        exact hQ
    · refine ⟨a, fun σ P hP => pre σ P _ ?_, fun Q hQ => ?_⟩
      · unfold wp_X2_division_32 wp_X2_division_37
        simp (config := {decide := true}) only [show nI 7 = 7 from rfl, hb, false_implies, true_implies, true_and, and_true, not_false_eq_true, not_true_eq_false]
        rw [hb] at hP
        exact hP
      · unfold wp_X12_multiply
        intro y1 e1 y2 e2
        simp (config := {decide := true}) only [show nI 7 = 7 from rfl, hb, false_implies, true_implies, true_and, and_true, not_false_eq_true, not_true_eq_false]
        exact hQ
  · rcases e with rfl | rfl | rfl | rfl
    · refine ⟨a / b, fun σ P hP => pre σ P _ ?_, fun Q hQ => ?_⟩
      · have hz := s_zero hb
        unfold wp_X2_division_32 wp_X2_division_37 wp_X2_division_65 wp_X2_division_70 wp_X2_division_88 wp_X2_division_106
        simp (config := {decide := true}) only [show nI 4 = 4 from rfl, hb, cmp_0, hz, false_implies, true_implies, true_and, and_true, not_false_eq_true, not_true_eq_false]
        rw [s_div]
        exact hP
      · have hz := s_zero hb
        unfold wp_X12_multiply
        intro y1 e1 y2 e2
        rw [e1, e2]
        simp (config := {decide := true}) only [show nI 4 = 4 from rfl, hb, hz, false_implies, true_implies, true_and, and_true, not_false_eq_true, not_true_eq_false]
        exact hQ
    · refine ⟨(((a).toInt64 &&& (4294967295 : Int64)) / ((b).toInt64 &&& (4294967295 : Int64))).toInt32, fun σ P hP => pre σ P _ ?_, fun Q hQ => ?_⟩
      · have hz := u_zero hb
        unfold wp_X2_division_32 wp_X2_division_37 wp_X2_division_65 wp_X2_division_70 wp_X2_division_88 wp_X2_division_106
        simp (config := {decide := true}) only [show nI 5 = 5 from rfl, hb, cmp_0, hz, false_implies, true_implies, true_and, and_true, not_false_eq_true, not_true_eq_false]
        skip
        exact hP
      · have hz := u_zero hb
        unfold wp_X12_multiply
        intro y1 e1 y2 e2
        rw [e1, e2]
        simp (config := {decide := true}) only [show nI 5 = 5 from rfl, hb, hz, false_implies, true_implies, true_and, and_true, not_false_eq_true, not_true_eq_false]
        exact hQ
    · refine ⟨a - a / b * b, fun σ P hP => pre σ P _ ?_, fun Q hQ => ?_⟩
      · have hz := s_zero hb
        unfold wp_X2_division_32 wp_X2_division_37 wp_X2_division_65 wp_X2_division_70 wp_X2_division_88 wp_X2_division_106
        simp (config := {decide := true}) only [show nI 6 = 6 from rfl, hb, cmp_0, hz, false_implies, true_implies, true_and, and_true, not_false_eq_true, not_true_eq_false]
        rw [s_rem]
        exact hP
      · have hz := s_zero hb
        unfold wp_X12_multiply
        intro y1 e1 y2 e2
        rw [e1, e2]
        simp (config := {decide := true}) only [show nI 6 = 6 from rfl, hb, hz, false_implies, true_implies, true_and, and_true, not_false_eq_true, not_true_eq_false]
        exact hQ
    · refine ⟨(((a).toInt64 &&& (4294967295 : Int64)) - ((a).toInt64 &&& (4294967295 : Int64)) / ((b).toInt64 &&& (4294967295 : Int64)) * ((b).toInt64 &&& (4294967295 : Int64))).toInt32, fun σ P hP => pre σ P _ ?_, fun Q hQ => ?_⟩
      · have hz := u_zero hb
        unfold wp_X2_division_32 wp_X2_division_37 wp_X2_division_65 wp_X2_division_70 wp_X2_division_88 wp_X2_division_106
        simp (config := {decide := true}) only [show nI 7 = 7 from rfl, hb, cmp_0, hz, false_implies, true_implies, true_and, and_true, not_false_eq_true, not_true_eq_false]
        skip
        exact hP
      · have hz := u_zero hb
        unfold wp_X12_multiply
        intro y1 e1 y2 e2
        rw [e1, e2]
        simp (config := {decide := true}) only [show nI 7 = 7 from rfl, hb, hz, false_implies, true_implies, true_and, and_true, not_false_eq_true, not_true_eq_false]
        exact hQ
theorem cAdd_i {σ : SX2} {τ : SX12} {c : Int32} {n : Nat} (h : RX 1 c σ τ) : RX 1 (c + nI n) (cAdd σ (Int64.ofNat n)) τ := by
  obtain ⟨h1, h2, h3, h4, h5, h6, h7, h8, h9⟩ := h
  refine ⟨h1, h2, h3, h4, h5, h6, ?_, h8, h9⟩
  show (σ.2.1.2 + Int64.ofNat n).toInt32 = τ.2.2.2.2.1.1 + (c + nI n)
  rw [Int64.toInt32_add, h7, ofNat_l2i, Int32.add_assoc]
theorem o_51 {σ : SX2} {τ : SX12} {k : Nat} {w : Int32} (h : RM σ τ) (hk : k < 4096) (ek : σ.1.2.2 = nI (4 * k)) (ew : σ.1.1.1 k = w) (hc : w &&& 127 = 51) : OO σ τ := by
  have hw := o_115 hc (by decide)
  have cpre : ∀ P : Int32 → SX2 → Prop, wp_X2_doWithRegisters σ w P → cSw σ (σ.1.1.1 k) P := by
    intro P q
    rw [ew]
    unfold cSw
    rw [hc]
    simp (config := {decide := true}) only [false_implies, true_implies, true_and, and_true, not_false_eq_true, not_true_eq_false]
    exact q
  have mpre : ∀ P : Int32 → SX12 → Prop, wp_X12_order_560 P τ 51 (oD w) (oF w) (σ.1.1.2 (oA w).toNatClampNeg) (σ.1.1.2 (oB w).toNatClampNeg) (oS w) (nI (4 * k) + 4) 0 1 (-1) 0 → wp_X12_order τ P := by
    intro P q
    refine m_pre2 h hk ek ew ?_
    unfold mSw
    rw [hc]
    simp (config := {decide := true}) only [hw, false_implies, true_implies, true_and, and_true, not_false_eq_true, not_true_eq_false]
    unfold wp_X12_order_239 wp_X12_order_409 wp_X12_order_451 wp_X12_order_492
    simp (config := {decide := true}) only [false_implies, true_implies, true_and, and_true, not_false_eq_true, not_true_eq_false]
    exact q
  have two : ¬ oS w = 0 → ¬ oS w = 1 → ¬ (oS w = 32 ∧ (oF w = 0 ∨ oF w = 5)) → OO σ τ := by
    intro n0 n1 n2
    refine o_none h 2 (fun P hP => c_pre hk ek (cpre P ?_)) (fun P hP => mpre P ?_)
    · unfold wp_X2_doWithRegisters wp_X2_third
      refine ⟨rx_in _ _, rx_in _ _, fun c => absurd c n0, fun _ => ⟨fun c => absurd c n1, fun _ => ⟨fun c => ⟨fun c2 => absurd ⟨c, Or.inl c2⟩ n2, fun _ => ⟨fun c2 => absurd ⟨c, Or.inr c2⟩ n2, fun _ => hP⟩⟩, fun _ => hP⟩⟩⟩
    · have l615 : wp_X12_order_615 P τ 51 (oD w) (oF w) (σ.1.1.2 (oA w).toNatClampNeg) (σ.1.1.2 (oB w).toNatClampNeg) (oS w) (nI (4 * k) + 4) 0 1 (-1) := by
        unfold wp_X12_order_615
        exact ⟨fun _ => hP, fun _ => ⟨fun _ => hP, fun c => absurd c n1⟩⟩
      unfold wp_X12_order_560
      exact ⟨fun c => absurd rfl c, fun _ => ⟨fun c => absurd c n0, fun _ => ⟨fun _ => l615, fun c => ⟨fun c2 => absurd ⟨c, Or.inl c2⟩ n2, fun _ => ⟨fun _ => l615, fun c2 => absurd ⟨c, Or.inr c2⟩ n2⟩⟩⟩⟩⟩
  by_cases s0 : oS w = 0
  · refine ⟨0, cPass (cBeg σ (4 * k)) w (jv (oF w) (σ.1.1.2 (oA w).toNatClampNeg) (σ.1.1.2 (oB w).toNatClampNeg)), mEnd (mB τ (4 * k)) (oD w) (nI (4 * k) + 4) 0 (jv (oF w) (σ.1.1.2 (oA w).toNatClampNeg) (σ.1.1.2 (oB w).toNatClampNeg)) 1 0, fun P hP => c_pre hk ek (cpre P ?_), fun P hP => mpre P ?_, RX.pass (RX.beg (4 * k) h) (by rw [cB_pc, ek]), mo_end _ _ _ _ _ _ (mo_acc τ (4 * k))⟩
    · unfold wp_X2_doWithRegisters wp_X2_third
      exact ⟨rx_in _ _, rx_in _ _, fun _ => c_begin (by omega) ek (c_join (c_pass hP)), fun c => absurd s0 c⟩
    · unfold wp_X12_order_560 wp_X12_order_589 wp_X12_order_603
      rw [s0]
      simp (config := {decide := true}) only [false_implies, true_implies, true_and, and_true, not_false_eq_true, not_true_eq_false]
      exact m_reckon (m_tail hk (o_pcm h ek) hP)
  · by_cases s1 : oS w = 1
    · obtain ⟨j, hj, ej⟩ := f_of w
      have ej : oF w = nI j := ej
      by_cases h4 : 4 ≤ j
      · have le : (4 : Int32) ≤ nI j := (nI_leI (a := 4) (by omega) (by omega)).mpr h4
        obtain ⟨v, hv1, hv2⟩ := o_div j h4 hj (σ.1.1.2 (oA w).toNatClampNeg) (σ.1.1.2 (oB w).toNatClampNeg)
        refine ⟨0, cPass (cDiv (cBeg σ (4 * k)) (σ.1.1.2 (oA w).toNatClampNeg) (σ.1.1.2 (oB w).toNatClampNeg)) w v, mEnd (mEvt (mEvt (mB τ (4 * k)) (σ.1.1.2 (oA w).toNatClampNeg).toInt64) (σ.1.1.2 (oB w).toNatClampNeg).toInt64) (oD w) (nI (4 * k) + 4) 0 v 1 32, fun P hP => c_pre hk ek (cpre P ?_), fun P hP => mpre P ?_, RX.pass (RX.evt _ (RX.evt _ (cAdd_i (n := 32) (RX.beg (4 * k) h)))) (by show _ = σ.1.2.2 + 4; rw [ek]), mo_end _ _ _ _ _ _ (((mo_acc τ (4 * k)).tr (mo_evt _ _)).tr (mo_evt _ _))⟩
        · unfold wp_X2_doWithRegisters wp_X2_third
          refine ⟨rx_in _ _, rx_in _ _, fun c => absurd c s0, fun _ => ⟨fun _ => c_begin (by omega) ek ?_, fun c => absurd s1 c⟩⟩
          rw [show (w >>> ((12 : Int32) &&& 31)) &&& (7 : Int32) = nI j from ej]
          exact ⟨fun _ => hv1 _ _ (c_pass hP), fun c => absurd le c⟩
        · unfold wp_X12_order_560 wp_X12_order_615
          rw [s1, ej]
          simp (config := {decide := true}) only [false_implies, true_implies, true_and, and_true, not_false_eq_true, not_true_eq_false]
          exact hv2 _ ⟨fun _ => m_657 (by omega) (o_pcm h ek) (m_709d (rx_of w _) hP), fun c => absurd le c⟩
      · have le : ¬ (4 : Int32) ≤ nI j := fun q => h4 ((nI_leI (a := 4) (by omega) (by omega)).mp q)
        obtain ⟨v, hv1, hv2⟩ := o_prod j (by omega) (σ.1.1.2 (oA w).toNatClampNeg) (σ.1.1.2 (oB w).toNatClampNeg)
        refine ⟨0, cPass (cAdd (cBeg σ (4 * k)) 3) w v, mEnd (mB τ (4 * k)) (oD w) (nI (4 * k) + 4) 0 v 1 3, fun P hP => c_pre hk ek (cpre P ?_), fun P hP => mpre P ?_, RX.pass (cAdd_i (n := 3) (RX.beg (4 * k) h)) (by show _ = σ.1.2.2 + 4; rw [ek]), mo_end _ _ _ _ _ _ (mo_acc τ (4 * k))⟩
        · unfold wp_X2_doWithRegisters wp_X2_third
          refine ⟨rx_in _ _, rx_in _ _, fun c => absurd c s0, fun _ => ⟨fun _ => c_begin (by omega) ek ?_, fun c => absurd s1 c⟩⟩
          rw [show (w >>> ((12 : Int32) &&& 31)) &&& (7 : Int32) = nI j from ej]
          exact ⟨fun c => absurd c le, fun _ => hv1 _ _ (c_pass hP)⟩
        · unfold wp_X12_order_560 wp_X12_order_615
          rw [s1, ej]
          simp (config := {decide := true}) only [false_implies, true_implies, true_and, and_true, not_false_eq_true, not_true_eq_false]
          exact hv2 _ ⟨fun c => absurd c le, fun _ => m_657 (by omega) (o_pcm h ek) (m_709 (by decide) (rx_of w _) hP)⟩
    · by_cases n2 : oS w = 32 ∧ (oF w = 0 ∨ oF w = 5)
      · rcases n2 with ⟨s2, f0 | f5⟩
        · refine ⟨0, cPass (cBeg σ (4 * k)) w ((σ.1.1.2 (oA w).toNatClampNeg) - (σ.1.1.2 (oB w).toNatClampNeg)), mEnd (mB τ (4 * k)) (oD w) (nI (4 * k) + 4) 0 ((σ.1.1.2 (oA w).toNatClampNeg) - (σ.1.1.2 (oB w).toNatClampNeg)) 1 0, fun P hP => c_pre hk ek (cpre P ?_), fun P hP => mpre P ?_, RX.pass (RX.beg (4 * k) h) (by rw [cB_pc, ek]), mo_end _ _ _ _ _ _ (mo_acc τ (4 * k))⟩
          · unfold wp_X2_doWithRegisters wp_X2_third
            refine ⟨rx_in _ _, rx_in _ _, fun c => absurd c s0, fun _ => ⟨fun c => absurd c s1, fun _ => ⟨fun _ => ⟨fun _ => ?_, fun c => absurd f0 c⟩, fun c => absurd s2 c⟩⟩⟩
            unfold wp_X2_doWithRegisters_118
            exact c_begin (by omega) ek ⟨fun c => absurd f0 c, fun _ => c_pass hP⟩
          · unfold wp_X12_order_560 wp_X12_order_589 wp_X12_order_603
            rw [s2, f0]
            simp (config := {decide := true}) only [false_implies, true_implies, true_and, and_true, not_false_eq_true, not_true_eq_false]
            exact m_reck0 (m_tail hk (o_pcm h ek) hP)
        · refine ⟨0, cPass (cBeg σ (4 * k)) w ((σ.1.1.2 (oA w).toNatClampNeg) >>> (((σ.1.1.2 (oB w).toNatClampNeg) &&& 31) &&& 31)), mEnd (mB τ (4 * k)) (oD w) (nI (4 * k) + 4) 0 ((σ.1.1.2 (oA w).toNatClampNeg) >>> (((σ.1.1.2 (oB w).toNatClampNeg) &&& 31) &&& 31)) 1 0, fun P hP => c_pre hk ek (cpre P ?_), fun P hP => mpre P ?_, RX.pass (RX.beg (4 * k) h) (by rw [cB_pc, ek]), mo_end _ _ _ _ _ _ (mo_acc τ (4 * k))⟩
          · unfold wp_X2_doWithRegisters wp_X2_third
            have n0 : ¬ oF w = 0 := by rw [f5]; decide
            refine ⟨rx_in _ _, rx_in _ _, fun c => absurd c s0, fun _ => ⟨fun c => absurd c s1, fun _ => ⟨fun _ => ⟨fun c => absurd c n0, fun _ => ⟨fun _ => ?_, fun c => absurd f5 c⟩⟩, fun c => absurd s2 c⟩⟩⟩
            unfold wp_X2_doWithRegisters_118
            exact c_begin (by omega) ek ⟨fun _ => c_pass hP, fun c => absurd c n0⟩
          · unfold wp_X12_order_560 wp_X12_order_589 wp_X12_order_603
            rw [s2, f5]
            simp (config := {decide := true}) only [false_implies, true_implies, true_and, and_true, not_false_eq_true, not_true_eq_false]
            exact m_reck5 (m_tail hk (o_pcm h ek) hP)
      · exact two s0 s1 n2
abbrev oR (w : Int32) : Int32 := (((((w >>> ((31 : Int32) &&& 31)) <<< ((12 : Int32) &&& 31)) ||| ((w <<< ((4 : Int32) &&& 31)) &&& (2048 : Int32))) ||| ((w >>> ((20 : Int32) &&& 31)) &&& (2016 : Int32))) ||| ((w >>> ((7 : Int32) &&& 31)) &&& (30 : Int32)))
/-- whether a branch is taken: 0 or 1 -/
theorem o_holds (j : Nat) (hj : j < 8) (h2 : ¬ j = 2) (h3 : ¬ j = 3) (a b : Int32) : ∃ v : Int32, (v = 0 ∨ v = 1) ∧ (∀ P : Int32 → Unit → Prop, P v () → wp_X2_holds (nI j) a b P) ∧ (∀ (τ : SX12) (Q : Int32 → SX12 → Prop) (x1 x2 x3 x7 x8 x9 : Int32), wp_X12_order_348 Q τ x1 x3 a b x9 0 (-1) 0 v → wp_X12_order_239 Q τ x1 99 x3 (nI j) a b x7 x8 x9 0 0 1 (-1) 0) := by
  have e : j = 0 ∨ j = 1 ∨ j = 4 ∨ j = 5 ∨ j = 6 ∨ j = 7 := by omega
  rcases e with rfl | rfl | rfl | rfl | rfl | rfl
  · by_cases c : a = b
    · refine ⟨1, by decide, fun P hP => ?_, fun τ Q x1 x2 x3 x7 x8 x9 hQ => ?_⟩
      · unfold wp_X2_holds
        simp only [u_ge, u_lt]
        simp (config := {decide := true}) only [show nI 0 = 0 from rfl, c, false_implies, true_implies, true_and, and_true, not_false_eq_true, not_true_eq_false]
        exact hP
      · unfold wp_X12_order_239 wp_X12_order_299 wp_X12_order_324
        simp (config := {decide := true}) only [show nI 0 = 0 from rfl, c, false_implies, true_implies, true_and, and_true, not_false_eq_true, not_true_eq_false]
        rw [c] at hQ
        exact ⟨fun _ => hQ, fun _ => hQ⟩
    · refine ⟨0, by decide, fun P hP => ?_, fun τ Q x1 x2 x3 x7 x8 x9 hQ => ?_⟩
      · unfold wp_X2_holds
        simp only [u_ge, u_lt]
        simp (config := {decide := true}) only [show nI 0 = 0 from rfl, c, false_implies, true_implies, true_and, and_true, not_false_eq_true, not_true_eq_false]
        exact hP
      · unfold wp_X12_order_239 wp_X12_order_299 wp_X12_order_324
        simp (config := {decide := true}) only [show nI 0 = 0 from rfl, c, false_implies, true_implies, true_and, and_true, not_false_eq_true, not_true_eq_false]
        skip
        exact ⟨fun _ => hQ, fun _ => hQ⟩
  · by_cases c : a = b
    · refine ⟨0, by decide, fun P hP => ?_, fun τ Q x1 x2 x3 x7 x8 x9 hQ => ?_⟩
      · unfold wp_X2_holds
        simp only [u_ge, u_lt]
        simp (config := {decide := true}) only [show nI 1 = 1 from rfl, c, false_implies, true_implies, true_and, and_true, not_false_eq_true, not_true_eq_false]
        exact hP
      · unfold wp_X12_order_239 wp_X12_order_299 wp_X12_order_324
        simp (config := {decide := true}) only [show nI 1 = 1 from rfl, c, false_implies, true_implies, true_and, and_true, not_false_eq_true, not_true_eq_false]
        rw [c] at hQ
        exact ⟨fun _ => hQ, fun _ => hQ⟩
    · refine ⟨1, by decide, fun P hP => ?_, fun τ Q x1 x2 x3 x7 x8 x9 hQ => ?_⟩
      · unfold wp_X2_holds
        simp only [u_ge, u_lt]
        simp (config := {decide := true}) only [show nI 1 = 1 from rfl, c, false_implies, true_implies, true_and, and_true, not_false_eq_true, not_true_eq_false]
        exact hP
      · unfold wp_X12_order_239 wp_X12_order_299 wp_X12_order_324
        simp (config := {decide := true}) only [show nI 1 = 1 from rfl, c, false_implies, true_implies, true_and, and_true, not_false_eq_true, not_true_eq_false]
        skip
        exact ⟨fun _ => hQ, fun _ => hQ⟩
  · by_cases c : b ≤ a
    · refine ⟨0, by decide, fun P hP => ?_, fun τ Q x1 x2 x3 x7 x8 x9 hQ => ?_⟩
      · unfold wp_X2_holds
        simp only [u_ge, u_lt]
        simp (config := {decide := true}) only [show nI 4 = 4 from rfl, c, false_implies, true_implies, true_and, and_true, not_false_eq_true, not_true_eq_false]
        exact hP
      · unfold wp_X12_order_239 wp_X12_order_299 wp_X12_order_324
        simp (config := {decide := true}) only [show nI 4 = 4 from rfl, c, false_implies, true_implies, true_and, and_true, not_false_eq_true, not_true_eq_false]
        skip
        exact hQ
    · refine ⟨1, by decide, fun P hP => ?_, fun τ Q x1 x2 x3 x7 x8 x9 hQ => ?_⟩
      · unfold wp_X2_holds
        simp only [u_ge, u_lt]
        simp (config := {decide := true}) only [show nI 4 = 4 from rfl, c, false_implies, true_implies, true_and, and_true, not_false_eq_true, not_true_eq_false]
        exact hP
      · unfold wp_X12_order_239 wp_X12_order_299 wp_X12_order_324
        simp (config := {decide := true}) only [show nI 4 = 4 from rfl, c, false_implies, true_implies, true_and, and_true, not_false_eq_true, not_true_eq_false]
        skip
        exact hQ
  · by_cases c : b ≤ a
    · refine ⟨1, by decide, fun P hP => ?_, fun τ Q x1 x2 x3 x7 x8 x9 hQ => ?_⟩
      · unfold wp_X2_holds
        simp only [u_ge, u_lt]
        simp (config := {decide := true}) only [show nI 5 = 5 from rfl, c, Int32.not_lt.mpr c, false_implies, true_implies, true_and, and_true, not_false_eq_true, not_true_eq_false]
        exact hP
      · unfold wp_X12_order_239 wp_X12_order_299 wp_X12_order_324
        simp (config := {decide := true}) only [show nI 5 = 5 from rfl, c, false_implies, true_implies, true_and, and_true, not_false_eq_true, not_true_eq_false]
        skip
        exact hQ
    · refine ⟨0, by decide, fun P hP => ?_, fun τ Q x1 x2 x3 x7 x8 x9 hQ => ?_⟩
      · unfold wp_X2_holds
        simp only [u_ge, u_lt]
        simp (config := {decide := true}) only [show nI 5 = 5 from rfl, c, Int32.not_le.mp c, false_implies, true_implies, true_and, and_true, not_false_eq_true, not_true_eq_false]
        exact hP
      · unfold wp_X12_order_239 wp_X12_order_299 wp_X12_order_324
        simp (config := {decide := true}) only [show nI 5 = 5 from rfl, c, false_implies, true_implies, true_and, and_true, not_false_eq_true, not_true_eq_false]
        skip
        exact hQ
  · by_cases c : (b ^^^ (-2147483648)) ≤ (a ^^^ (-2147483648))
    · refine ⟨0, by decide, fun P hP => ?_, fun τ Q x1 x2 x3 x7 x8 x9 hQ => ?_⟩
      · unfold wp_X2_holds
        simp only [u_ge, u_lt]
        simp (config := {decide := true}) only [show nI 6 = 6 from rfl, c, false_implies, true_implies, true_and, and_true, not_false_eq_true, not_true_eq_false]
        exact hP
      · unfold wp_X12_order_239 wp_X12_order_299 wp_X12_order_324
        simp (config := {decide := true}) only [show nI 6 = 6 from rfl, c, false_implies, true_implies, true_and, and_true, not_false_eq_true, not_true_eq_false]
        skip
        exact hQ
    · refine ⟨1, by decide, fun P hP => ?_, fun τ Q x1 x2 x3 x7 x8 x9 hQ => ?_⟩
      · unfold wp_X2_holds
        simp only [u_ge, u_lt]
        simp (config := {decide := true}) only [show nI 6 = 6 from rfl, c, false_implies, true_implies, true_and, and_true, not_false_eq_true, not_true_eq_false]
        exact hP
      · unfold wp_X12_order_239 wp_X12_order_299 wp_X12_order_324
        simp (config := {decide := true}) only [show nI 6 = 6 from rfl, c, false_implies, true_implies, true_and, and_true, not_false_eq_true, not_true_eq_false]
        skip
        exact hQ
  · by_cases c : (b ^^^ (-2147483648)) ≤ (a ^^^ (-2147483648))
    · refine ⟨1, by decide, fun P hP => ?_, fun τ Q x1 x2 x3 x7 x8 x9 hQ => ?_⟩
      · unfold wp_X2_holds
        simp only [u_ge, u_lt]
        simp (config := {decide := true}) only [show nI 7 = 7 from rfl, c, false_implies, true_implies, true_and, and_true, not_false_eq_true, not_true_eq_false]
        exact hP
      · unfold wp_X12_order_239 wp_X12_order_299 wp_X12_order_324
        simp (config := {decide := true}) only [show nI 7 = 7 from rfl, c, false_implies, true_implies, true_and, and_true, not_false_eq_true, not_true_eq_false]
        skip
        exact hQ
    · refine ⟨0, by decide, fun P hP => ?_, fun τ Q x1 x2 x3 x7 x8 x9 hQ => ?_⟩
      · unfold wp_X2_holds
        simp only [u_ge, u_lt]
        simp (config := {decide := true}) only [show nI 7 = 7 from rfl, c, false_implies, true_implies, true_and, and_true, not_false_eq_true, not_true_eq_false]
        exact hP
      · unfold wp_X12_order_239 wp_X12_order_299 wp_X12_order_324
        simp (config := {decide := true}) only [show nI 7 = 7 from rfl, c, false_implies, true_implies, true_and, and_true, not_false_eq_true, not_true_eq_false]
        skip
        exact hQ
theorem o_99 {σ : SX2} {τ : SX12} {k : Nat} {w : Int32} (h : RM σ τ) (hk : k < 4096) (ek : σ.1.2.2 = nI (4 * k)) (ew : σ.1.1.1 k = w) (hc : w &&& 127 = 99) : OO σ τ := by
  have hw := o_115 hc (by decide)
  have cpre : ∀ P : Int32 → SX2 → Prop, wp_X2_doBranch σ w P → cSw σ (σ.1.1.1 k) P := by
    intro P q
    rw [ew]
    unfold cSw
    rw [hc]
    simp (config := {decide := true}) only [false_implies, true_implies, true_and, and_true, not_false_eq_true, not_true_eq_false]
    exact q
  have mpre : ∀ P : Int32 → SX12 → Prop, wp_X12_order_239 P τ w 99 (oD w) (oF w) (σ.1.1.2 (oA w).toNatClampNeg) (σ.1.1.2 (oB w).toNatClampNeg) (oS w) (oI w) (nI (4 * k) + 4) 0 0 1 (-1) 0 → wp_X12_order τ P := by
    intro P q
    refine m_pre2 h hk ek ew ?_
    unfold mSw
    rw [hc]
    simp (config := {decide := true}) only [hw, false_implies, true_implies, true_and, and_true, not_false_eq_true, not_true_eq_false]
    exact q
  have two : oF w = 2 ∨ oF w = 3 → OO σ τ := by
    intro n
    refine o_none h 2 (fun P hP => c_pre hk ek (cpre P ?_)) (fun P hP => mpre P ?_)
    · unfold wp_X2_doBranch wp_X2_third
      exact ⟨fun _ => hP, fun c => ⟨fun c2 => absurd n (by rintro (q | q); exact c q; exact c2 q), fun _ => hP⟩⟩
    · have l : wp_X12_order_409 P τ w 99 (oD w) (oF w) (σ.1.1.2 (oA w).toNatClampNeg) (σ.1.1.2 (oB w).toNatClampNeg) (oS w) (oI w) (nI (4 * k) + 4) 0 0 1 (-1) 0 := by
        unfold wp_X12_order_409 wp_X12_order_451 wp_X12_order_492 wp_X12_order_560 wp_X12_order_615
        simp (config := {decide := true}) only [false_implies, true_implies, true_and, and_true, not_false_eq_true, not_true_eq_false]
        exact hP
      unfold wp_X12_order_239
      exact ⟨fun _ => l, fun _ => ⟨fun _ => l, fun c => ⟨fun _ => l, fun c2 => absurd n (by rintro (q | q); exact c q; exact c2 q)⟩⟩⟩
  by_cases n : oF w = 2 ∨ oF w = 3
  · exact two n
  · obtain ⟨j, hj, ej⟩ := f_of w
    have ej : oF w = nI j := ej
    have n2 : ¬ j = 2 := fun q => n (Or.inl (by rw [ej, q]; rfl))
    have n3 : ¬ j = 3 := fun q => n (Or.inr (by rw [ej, q]; rfl))
    obtain ⟨v, hv, h1, h2⟩ := o_holds j hj n2 n3 (σ.1.1.2 (oA w).toNatClampNeg) (σ.1.1.2 (oB w).toNatClampNeg)
    have cbr : ∀ P : Int32 → SX2 → Prop, ((v = 0 → P 0 (((cBeg σ (4 * k)).1.1, ((cBeg σ (4 * k)).1.2.1, nI (4 * k) + 4)), (cBeg σ (4 * k)).2)) ∧ (¬ v = 0 → P 0 (((cBeg σ (4 * k)).1.1, ((cBeg σ (4 * k)).1.2.1, nI (4 * k) + oR w)), (((cBeg σ (4 * k)).2.1.1, (cBeg σ (4 * k)).2.1.2 + 1), (cBeg σ (4 * k)).2.2)))) → wp_X2_doBranch σ w P := by
      intro P q
      unfold wp_X2_doBranch wp_X2_third
      refine ⟨fun c => absurd (Or.inl c) n, fun _ => ⟨fun _ => c_begin (by omega) ek ⟨rx_in _ _, ⟨rx_in _ _, ?_⟩⟩, fun c => absurd (Or.inr c) n⟩⟩
      rw [show (w >>> ((12 : Int32) &&& 31)) &&& (7 : Int32) = nI j from ej]
      refine h1 _ ⟨fun c y ey => ?_, fun c y ey z ez => ?_⟩
      · rw [cB_pc, ek] at ey
        rw [ey]
        exact q.1 c
      · rw [cB_pc, ek] at ez
        rw [ey, ez]
        exact q.2 c
    rcases hv with v0 | v1
    · refine ⟨0, (((cBeg σ (4 * k)).1.1, ((cBeg σ (4 * k)).1.2.1, nI (4 * k) + 4)), (((cBeg σ (4 * k)).2.1.1, (cBeg σ (4 * k)).2.1.2 + 0), (cBeg σ (4 * k)).2.2)), mEnd (mB τ (4 * k)) (oD w) (nI (4 * k) + 4) 0 0 0 0, fun P hP => c_pre hk ek (cpre P (cbr P ⟨fun _ => ?_, fun c => absurd v0 c⟩)), fun P hP => mpre P ?_, RX.here (RX.beg (4 * k) h) (Or.inl ⟨rfl, rfl⟩), mo_end _ _ _ _ _ _ (mo_acc τ (4 * k))⟩
      · rw [Int64.add_zero] at hP
        exact hP
      · rw [ej]
        refine h2 _ _ _ 0 _ _ _ _ ?_
        unfold wp_X12_order_348 wp_X12_order_404
        intro y ey
        rw [v0]
        exact ⟨fun _ => m_tail hk (o_pcm h ek) hP, fun c => absurd rfl c⟩
    · refine ⟨0, (((cBeg σ (4 * k)).1.1, ((cBeg σ (4 * k)).1.2.1, nI (4 * k) + oR w)), (((cBeg σ (4 * k)).2.1.1, (cBeg σ (4 * k)).2.1.2 + 1), (cBeg σ (4 * k)).2.2)), mEnd (mB τ (4 * k)) (oD w) (nI (4 * k) + oR w) 1 0 0 0, fun P hP => c_pre hk ek (cpre P (cbr P ⟨fun c => absurd (v1.symm.trans c) (by decide), fun _ => hP⟩)), fun P hP => mpre P ?_, RX.here (RX.beg (4 * k) h) (Or.inr ⟨rfl, rfl⟩), mo_end _ _ _ _ _ _ (mo_acc τ (4 * k))⟩
      rw [ej]
      refine h2 _ _ _ 0 _ _ _ _ ?_
      unfold wp_X12_order_348 wp_X12_order_404
      intro y ey
      rw [v1, ey, o_pcm h ek]
      exact ⟨fun c => absurd c (by decide), fun _ => m_tail hk (o_pcm h ek) hP⟩
theorem rm_order {σ : SX2} {τ : SX12} (h : RM σ τ) : OO σ τ := by
  by_cases hp : isP σ.1.2.2
  · obtain ⟨k, hk, ek⟩ := id hp
    by_cases h1 : σ.1.1.1 k &&& 127 = 3
    · exact o_3 h hk ek rfl h1
    · by_cases h2 : σ.1.1.1 k &&& 127 = 19
      · exact o_19 h hk ek rfl h2
      · by_cases h3 : σ.1.1.1 k &&& 127 = 23
        · exact o_23 h hk ek rfl h3
        · by_cases h4 : σ.1.1.1 k &&& 127 = 35
          · exact o_35 h hk ek rfl h4
          · by_cases h5 : σ.1.1.1 k &&& 127 = 51
            · exact o_51 h hk ek rfl h5
            · by_cases h6 : σ.1.1.1 k &&& 127 = 55
              · exact o_55 h hk ek rfl h6
              · by_cases h7 : σ.1.1.1 k &&& 127 = 99
                · exact o_99 h hk ek rfl h7
                · by_cases h8 : σ.1.1.1 k &&& 127 = 103
                  · exact o_103 h hk ek rfl h8
                  · by_cases h9 : σ.1.1.1 k &&& 127 = 111
                    · exact o_111 h hk ek rfl h9
                    · exact o_else h hk ek rfl h1 h2 h3 h4 h5 h6 h7 h8 h9
  · have hm : ¬ isP τ.2.2.2.1.2.1 := by rw [← h.2.2.2.2.1]; exact hp
    refine o_none h 3 (fun P hP => ?_) (fun P hP => ?_)
    · unfold wp_X2_doOrder
      exact isP_c (fun c => absurd c hp) (fun _ => ⟨fun c => absurd rfl c, fun _ => hP⟩)
    · unfold wp_X12_order
      exact isP_m (fun c => absurd c hm) (fun _ => ⟨fun c => absurd rfl c, fun _ => hP⟩)
end Order6
