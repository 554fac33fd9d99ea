section Order4
/-- both machines do the same order -/
def OO (σ : SX2) (τ : SX12) : Prop := ∃ r σ' τ', (∀ P : Int32 → SX2 → Prop, P r σ' → wp_X2_doOrder σ P) ∧ (∀ P : Int32 → SX12 → Prop, P r τ' → wp_X12_order τ P) ∧ RM σ' τ' ∧ MO τ τ'
abbrev oD (w : Int32) : Int32 := (w >>> ((7 : Int32) &&& 31)) &&& 31
abbrev oF (w : Int32) : Int32 := (w >>> ((12 : Int32) &&& 31)) &&& 7
abbrev oA (w : Int32) : Int32 := (w >>> ((15 : Int32) &&& 31)) &&& 31
abbrev oB (w : Int32) : Int32 := (w >>> ((20 : Int32) &&& 31)) &&& 31
abbrev oS (w : Int32) : Int32 := (w.toUInt32 >>> ((25 : Int32).toUInt32 &&& Int32.toUInt32 31)).toInt32
abbrev oI (w : Int32) : Int32 := w >>> ((20 : Int32) &&& 31)
theorem o_reg {σ : SX2} {τ : SX12} (h : RM σ τ) (w s : Int32) : τ.2.2.2.1.1 ((w >>> s) &&& 31).toNatClampNeg = σ.1.1.2 ((w >>> s) &&& 31).toNatClampNeg := by
  obtain ⟨j, hj, e⟩ := rx_of w s
  rw [e, nI_clamp (by omega)]
  exact (h.2.1 j hj).symm
theorem m_pre2 {σ : SX2} {τ : SX12} {k : Nat} {w : Int32} {post : Int32 → SX12 → Prop} (h : RM σ τ) (hk : k < 4096) (ek : σ.1.2.2 = nI (4 * k)) (ew : σ.1.1.1 k = w) (hm : mSw τ w (w &&& 127) (oD w) (oF w) (σ.1.1.2 (oA w).toNatClampNeg) (σ.1.1.2 (oB w).toNatClampNeg) (oS w) (oI w) (nI (4 * k) + 4) post) : wp_X12_order τ post := by
  refine m_pre hk (h.2.2.2.2.1 ▸ ek) ((h.1 k hk).symm.trans ew) ?_
  rw [o_reg h, o_reg h]
  exact hm
theorem m_tail {τ : SX12} {k : Nat} {w a b goal jump res wr : Int32} {P : Int32 → SX12 → Prop} (hk : k < 4096) (hpc : τ.2.2.2.1.2.1 = nI (4 * k)) (h : P 0 (mEnd (mB τ (4 * k)) (oD w) goal jump res wr 0)) : wp_X12_order_657 P τ (oD w) a b goal jump res wr (-1) 0 :=
  m_657 (by omega) hpc (m_709 (by decide) (rx_of w _) h)
theorem o_pcm {σ : SX2} {τ : SX12} {k : Nat} (h : RM σ τ) (ek : σ.1.2.2 = nI (4 * k)) : τ.2.2.2.1.2.1 = nI (4 * k) := h.2.2.2.2.1 ▸ ek
theorem o_115 {w c : Int32} (hc : w &&& 127 = c) (h : ¬ (115 : Int32) = c) : ¬ w = 115 := by
  rintro rfl
  exact h (by rw [← hc]; decide)
theorem cB_pc {σ : SX2} {p : Nat} : (cBeg σ p).1.2.2 = σ.1.2.2 := rfl
theorem o_55 {σ : SX2} {τ : SX12} {k : Nat} {w : Int32} (h : RM σ τ) (hk : k < 4096) (ek : σ.1.2.2 = nI (4 * k)) (ew : σ.1.1.1 k = w) (hc : w &&& 127 = 55) : OO σ τ := by
  refine ⟨0, cPass (cBeg σ (4 * k)) w (w &&& (-4096)), mEnd (mB τ (4 * k)) (oD w) (nI (4 * k) + 4) 0 (w &&& (-4096)) 1 0, fun P hP => c_pre hk ek ?_, fun P hP => m_pre2 h hk ek ew ?_, RX.pass (RX.beg (4 * k) h) (by rw [cB_pc, ek]), mo_end _ _ _ _ _ _ (mo_acc τ (4 * k))⟩
  · rw [ew]
    unfold cSw
    rw [hc]
    simp (config := {decide := true}) only [false_implies, true_implies, true_and, and_true, not_false_eq_true, not_true_eq_false]
    exact c_begin (by omega) ek (c_pass hP)
  · have hw := o_115 hc (by decide)
    unfold mSw
    rw [hc]
    simp (config := {decide := true}) only [hw, false_implies, true_implies, true_and, and_true, not_false_eq_true, not_true_eq_false]
    intro y ey
    rw [ey]
    exact m_tail hk (o_pcm h ek) hP
theorem o_23 {σ : SX2} {τ : SX12} {k : Nat} {w : Int32} (h : RM σ τ) (hk : k < 4096) (ek : σ.1.2.2 = nI (4 * k)) (ew : σ.1.1.1 k = w) (hc : w &&& 127 = 23) : OO σ τ := by
  refine ⟨0, cPass (cBeg σ (4 * k)) w (nI (4 * k) + (w &&& (-4096))), mEnd (mB τ (4 * k)) (oD w) (nI (4 * k) + 4) 0 (nI (4 * k) + (w &&& (-4096))) 1 0, fun P hP => c_pre hk ek ?_, fun P hP => m_pre2 h hk ek ew ?_, RX.pass (RX.beg (4 * k) h) (by rw [cB_pc, ek]), mo_end _ _ _ _ _ _ (mo_acc τ (4 * k))⟩
  · rw [ew]
    unfold cSw
    rw [hc]
    simp (config := {decide := true}) only [false_implies, true_implies, true_and, and_true, not_false_eq_true, not_true_eq_false]
    refine c_begin (by omega) ek ?_
    rw [cB_pc, ek]
    exact c_pass hP
  · have hw := o_115 hc (by decide)
    unfold mSw
    rw [hc]
    simp (config := {decide := true}) only [hw, false_implies, true_implies, true_and, and_true, not_false_eq_true, not_true_eq_false]
    intro y ey
    rw [ey, o_pcm h ek]
    exact m_tail hk (o_pcm h ek) hP
abbrev oJ (w : Int32) : Int32 := (((((w >>> ((31 : Int32) &&& 31)) <<< ((20 : Int32) &&& 31)) ||| (w &&& (1044480 : Int32))) ||| ((w >>> ((9 : Int32) &&& 31)) &&& (2048 : Int32))) ||| ((w >>> ((20 : Int32) &&& 31)) &&& (2046 : Int32)))
theorem o_111 {σ : SX2} {τ : SX12} {k : Nat} {w : Int32} (h : RM σ τ) (hk : k < 4096) (ek : σ.1.2.2 = nI (4 * k)) (ew : σ.1.1.1 k = w) (hc : w &&& 127 = 111) : OO σ τ := by
  refine ⟨0, cJump (cBeg σ (4 * k)) w (nI (4 * k) + oJ w), mEnd (mB τ (4 * k)) (oD w) (nI (4 * k) + oJ w) 1 (nI (4 * k) + 4) 1 0, fun P hP => c_pre hk ek ?_, fun P hP => m_pre2 h hk ek ew ?_, RX.jump (RX.beg (4 * k) h) (by rw [cB_pc, ek]), mo_end _ _ _ _ _ _ (mo_acc τ (4 * k))⟩
  · rw [ew]
    unfold cSw
    rw [hc]
    simp (config := {decide := true}) only [false_implies, true_implies, true_and, and_true, not_false_eq_true, not_true_eq_false]
    refine c_begin (by omega) ek ?_
    rw [cB_pc, ek]
    exact c_jump hP
  · have hw := o_115 hc (by decide)
    unfold mSw
    rw [hc]
    simp (config := {decide := true}) only [hw, false_implies, true_implies, true_and, and_true, not_false_eq_true, not_true_eq_false]
    intro y ey
    rw [ey, o_pcm h ek]
    exact m_tail hk (o_pcm h ek) hP
/-- where nothing is done -/
theorem o_none {σ : SX2} {τ : SX12} (h : RM σ τ) (r : Int32) (h1 : ∀ P : Int32 → SX2 → Prop, P r σ → wp_X2_doOrder σ P) (h2 : ∀ P : Int32 → SX12 → Prop, P r τ → wp_X12_order τ P) : OO σ τ := ⟨r, σ, τ, h1, h2, h, MO.rf τ⟩
theorem o_103 {σ : SX2} {τ : SX12} {k : Nat} {w : Int32} (h : RM σ τ) (hk : k < 4096) (ek : σ.1.2.2 = nI (4 * k)) (ew : σ.1.1.1 k = w) (hc : w &&& 127 = 103) : OO σ τ := by
  by_cases hf : oF w = 0
  · refine ⟨0, cJump (cBeg σ (4 * k)) w ((σ.1.1.2 (oA w).toNatClampNeg + oI w) &&& (-2)), mEnd (mB τ (4 * k)) (oD w) ((σ.1.1.2 (oA w).toNatClampNeg + oI w) &&& (-2)) 1 (nI (4 * k) + 4) 1 0, fun P hP => c_pre hk ek ?_, fun P hP => m_pre2 h hk ek ew ?_, RX.jump (RX.beg (4 * k) h) (by rw [cB_pc, ek]), mo_end _ _ _ _ _ _ (mo_acc τ (4 * k))⟩
    · rw [ew]
      unfold cSw
      rw [hc]
      simp (config := {decide := true}) only [false_implies, true_implies, true_and, and_true, not_false_eq_true, not_true_eq_false]
      unfold wp_X2_doJumpByRegister wp_X2_third
      refine ⟨fun _ => c_begin (by omega) ek ?_, fun c => absurd hf c⟩
      exact ⟨rx_in _ _, c_jump hP⟩
    · have hw := o_115 hc (by decide)
      unfold mSw
      rw [hc]
      simp (config := {decide := true}) only [hw, hf, false_implies, true_implies, true_and, and_true, not_false_eq_true, not_true_eq_false]
      intro y ey
      rw [ey]
      exact m_tail hk (o_pcm h ek) hP
  · refine o_none h 2 (fun P hP => c_pre hk ek ?_) (fun P hP => m_pre2 h hk ek ew ?_)
    · rw [ew]
      unfold cSw
      rw [hc]
      simp (config := {decide := true}) only [false_implies, true_implies, true_and, and_true, not_false_eq_true, not_true_eq_false]
      unfold wp_X2_doJumpByRegister wp_X2_third
      exact ⟨fun c => absurd c hf, fun _ => hP⟩
    · have hw := o_115 hc (by decide)
      unfold mSw
      rw [hc]
      simp (config := {decide := true}) only [hw, hf, false_implies, true_implies, true_and, and_true, not_false_eq_true, not_true_eq_false]
      unfold wp_X12_order_239 wp_X12_order_409 wp_X12_order_451 wp_X12_order_492 wp_X12_order_560 wp_X12_order_615
      simp (config := {decide := true}) only [false_implies, true_implies, true_and, and_true, not_false_eq_true, not_true_eq_false]
      exact hP
theorem o_else {σ : SX2} {τ : SX12} {k : Nat} {w : Int32} (h : RM σ τ) (hk : k < 4096) (ek : σ.1.2.2 = nI (4 * k)) (ew : σ.1.1.1 k = w) (h1 : ¬ w &&& 127 = 3) (h2 : ¬ w &&& 127 = 19) (h3 : ¬ w &&& 127 = 23) (h4 : ¬ w &&& 127 = 35) (h5 : ¬ w &&& 127 = 51) (h6 : ¬ w &&& 127 = 55) (h7 : ¬ w &&& 127 = 99) (h8 : ¬ w &&& 127 = 103) (h9 : ¬ w &&& 127 = 111) : OO σ τ := by
  by_cases hw : w = 115
  · refine o_none h 1 (fun P hP => c_pre hk ek ?_) (fun P hP => m_pre2 h hk ek ew ?_)
    · rw [ew, hw]
      unfold cSw
      simp (config := {decide := true}) only [false_implies, true_implies, true_and, and_true, not_false_eq_true, not_true_eq_false]
      exact hP
    · unfold mSw
      simp (config := {decide := true}) only [hw, false_implies, true_implies, true_and, and_true, not_false_eq_true, not_true_eq_false]
      exact hP
  · refine o_none h 2 (fun P hP => c_pre hk ek ?_) (fun P hP => m_pre2 h hk ek ew ?_)
    · rw [ew]
      unfold cSw
      simp only [h1, h2, h3, h4, h5, h6, h7, h8, h9, hw, false_implies, true_implies, true_and, and_true, not_false_eq_true, not_true_eq_false]
      exact hP
    · unfold mSw wp_X12_order_239 wp_X12_order_409 wp_X12_order_451 wp_X12_order_492 wp_X12_order_560 wp_X12_order_615
      simp only [h1, h2, h3, h4, h5, h6, h7, h8, h9, hw, false_implies, true_implies, true_and, and_true, not_false_eq_true, not_true_eq_false]
      exact hP
theorem o_3 {σ : SX2} {τ : SX12} {k : Nat} {w : Int32} (h : RM σ τ) (hk : k < 4096) (ek : σ.1.2.2 = nI (4 * k)) (ew : σ.1.1.1 k = w) (hc : w &&& 127 = 3) : OO σ τ := by
  by_cases hf : oF w = 2
  · by_cases hp : isP (σ.1.1.2 (oA w).toNatClampNeg + oI w)
    · obtain ⟨q, hq, eq⟩ := id hp
      refine ⟨0, cPass (cAcc (cBeg σ (4 * k)) (4 * q)) w (σ.1.1.1 q), mEnd (mB (mB τ (4 * k)) (4 * q)) (oD w) (nI (4 * k) + 4) 0 (σ.1.1.1 q) 1 0, fun P hP => c_pre hk ek ?_, fun P hP => m_pre2 h hk ek ew ?_, RX.pass (RX.acc (4 * q) (RX.beg (4 * k) h)) (by show _ = σ.1.2.2 + 4; rw [ek]), mo_end _ _ _ _ _ _ ((mo_acc τ (4 * k)).tr (mo_acc _ (4 * q)))⟩
      · rw [ew]
        unfold cSw
        rw [hc]
        simp (config := {decide := true}) only [false_implies, true_implies, true_and, and_true, not_false_eq_true, not_true_eq_false]
        unfold wp_X2_doLoad wp_X2_third
        refine ⟨fun _ => ⟨rx_in _ _, fun y ey => ?_⟩, fun c => absurd hf c⟩
        rw [ey]
        refine isP_c (fun _ => ⟨fun _ => c_begin (by omega) ek ?_, fun c => absurd c (by decide)⟩) (fun c => absurd hp c)
        rw [eq]
        refine c_reach (by omega) ?_
        rw [ix_c hq, nI_clamp (by omega)]
        exact ⟨in_k hq (by omega), c_pass hP⟩
      · have hw := o_115 hc (by decide)
        unfold mSw
        rw [hc]
        simp (config := {decide := true}) only [hw, hf, false_implies, true_implies, true_and, and_true, not_false_eq_true, not_true_eq_false]
        unfold wp_X12_order_239 wp_X12_order_409
        simp (config := {decide := true}) only [false_implies, true_implies, true_and, and_true, not_false_eq_true, not_true_eq_false]
        intro y ey
        rw [ey]
        refine isP_m (fun _ => ⟨fun _ => ?_, fun c => absurd c (by decide)⟩) (fun c => absurd hp c)
        rw [eq, ix_m hq, nI_clamp (by omega)]
        refine ⟨in_k hq (by omega), fun z ez => ?_⟩
        rw [ez, ← h.1 q hq]
        exact m_657t (by omega) (o_pcm h ek) hq (by decide) (m_709 (by decide) (rx_of w _) hP)
    · refine o_none h 3 (fun P hP => c_pre hk ek ?_) (fun P hP => m_pre2 h hk ek ew ?_)
      · rw [ew]
        unfold cSw
        rw [hc]
        simp (config := {decide := true}) only [false_implies, true_implies, true_and, and_true, not_false_eq_true, not_true_eq_false]
        unfold wp_X2_doLoad wp_X2_third
        refine ⟨fun _ => ⟨rx_in _ _, fun y ey => ?_⟩, fun c => absurd hf c⟩
        rw [ey]
        exact isP_c (fun c => absurd c hp) (fun _ => ⟨fun c => absurd rfl c, fun _ => hP⟩)
      · have hw := o_115 hc (by decide)
        unfold mSw
        rw [hc]
        simp (config := {decide := true}) only [hw, hf, false_implies, true_implies, true_and, and_true, not_false_eq_true, not_true_eq_false]
        unfold wp_X12_order_239 wp_X12_order_409
        simp (config := {decide := true}) only [false_implies, true_implies, true_and, and_true, not_false_eq_true, not_true_eq_false]
        intro y ey
        rw [ey]
        exact isP_m (fun c => absurd c hp) (fun _ => ⟨fun c => absurd rfl c, fun _ => hP⟩)
  · refine o_none h 2 (fun P hP => c_pre hk ek ?_) (fun P hP => m_pre2 h hk ek ew ?_)
    · rw [ew]
      unfold cSw
      rw [hc]
      simp (config := {decide := true}) only [false_implies, true_implies, true_and, and_true, not_false_eq_true, not_true_eq_false]
      unfold wp_X2_doLoad wp_X2_third
      exact ⟨fun c => absurd c hf, fun _ => hP⟩
    · have hw := o_115 hc (by decide)
      unfold mSw
      rw [hc]
      simp (config := {decide := true}) only [hw, hf, false_implies, true_implies, true_and, and_true, not_false_eq_true, not_true_eq_false]
      unfold wp_X12_order_239 wp_X12_order_409 wp_X12_order_451 wp_X12_order_492 wp_X12_order_560 wp_X12_order_615
      simp (config := {decide := true}) only [hf, false_implies, true_implies, true_and, and_true, not_false_eq_true, not_true_eq_false]
      exact hP
abbrev oT (w : Int32) : Int32 := (((w >>> ((25 : Int32) &&& 31)) <<< ((5 : Int32) &&& 31)) ||| oD w)
theorem RX.sto {σ : SX2} {τ : SX12} {q : Nat} {v goal rd res : Int32} (h : RX 1 1 σ τ) : RM (((upd σ.1.1.1 q v, σ.1.1.2), (σ.1.2.1, goal)), σ.2) (mEnd (mSto τ q v) rd goal 0 res 0 0) := by
  obtain ⟨h1, h2, h3, h4, h5, h6, h7, h8, h9⟩ := h
  refine ⟨fun j hj => ?_, fun i hi => ?_, h3, h4, rfl, h6, ?_, h8, h9⟩
  · show upd σ.1.1.1 q v j = upd τ.2.2.1.2.2.2 q v j
    simp only [upd]
    rw [h1 j hj]
  · show σ.1.1.2 i = (if (0 : Int32) = 0 then τ.2.2.2.1.1 else wrM τ.2.2.2.1.1 rd res : Nat → Int32) i
    rw [if_pos rfl]
    exact h2 i hi
  · show σ.2.1.2.toInt32 = τ.2.2.2.2.1.1 + ((1 + 0) + (if (0 : Int32) = 0 then 0 else 1))
    rw [h7, if_pos rfl]
    rfl
theorem mo_sto (τ : SX12) (q : Nat) (v : Int32) : MO τ (mSto τ q v) := ⟨rfl, rfl, rfl, rfl, rfl⟩
theorem o_35 {σ : SX2} {τ : SX12} {k : Nat} {w : Int32} (h : RM σ τ) (hk : k < 4096) (ek : σ.1.2.2 = nI (4 * k)) (ew : σ.1.1.1 k = w) (hc : w &&& 127 = 35) : OO σ τ := by
  by_cases hf : oF w = 2
  · by_cases hp : isP (σ.1.1.2 (oA w).toNatClampNeg + oT w)
    · obtain ⟨q, hq, eq⟩ := id hp
      refine ⟨0, (((upd (cAcc (cBeg σ (4 * k)) (4 * q)).1.1.1 q (σ.1.1.2 (oB w).toNatClampNeg), (cAcc (cBeg σ (4 * k)) (4 * q)).1.1.2), ((cAcc (cBeg σ (4 * k)) (4 * q)).1.2.1, nI (4 * k) + 4)), (cAcc (cBeg σ (4 * k)) (4 * q)).2), mEnd (mSto (mB (mB τ (4 * k)) (4 * q)) q (σ.1.1.2 (oB w).toNatClampNeg)) (oD w) (nI (4 * k) + 4) 0 0 0 0, fun P hP => c_pre hk ek ?_, fun P hP => m_pre2 h hk ek ew ?_, RX.sto (RX.acc (4 * q) (RX.beg (4 * k) h)), mo_end _ _ _ _ _ _ ((mo_acc τ (4 * k)).tr ((mo_acc _ (4 * q)).tr (mo_sto _ _ _)))⟩
      · rw [ew]
        unfold cSw
        rw [hc]
        simp (config := {decide := true}) only [false_implies, true_implies, true_and, and_true, not_false_eq_true, not_true_eq_false]
        unfold wp_X2_doStore wp_X2_third wp_X2_storeDistance
        refine ⟨fun _ => ⟨rx_in _ _, fun y ey => ?_⟩, fun c => absurd hf c⟩
        rw [ey]
        refine isP_c (fun _ => ⟨fun _ => c_begin (by omega) ek ?_, fun c => absurd c (by decide)⟩) (fun c => absurd hp c)
        rw [eq]
        refine c_reach (by omega) ⟨rx_in _ _, ?_⟩
        rw [ix_c hq, nI_clamp (by omega)]
        refine ⟨in_k hq (by omega), fun y1 e1 y2 e2 => ?_⟩
        have e3 : (cAcc (cBeg σ (4 * k)) (4 * q)).1.1.2 = σ.1.1.2 := rfl
        rw [e3] at e1
        rw [show (cAcc (cBeg σ (4 * k)) (4 * q)).1.2.2 = nI (4 * k) from ek] at e2
        rw [e1, e2]
        exact hP
      · have hw := o_115 hc (by decide)
        unfold mSw
        rw [hc]
        simp (config := {decide := true}) only [hw, hf, false_implies, true_implies, true_and, and_true, not_false_eq_true, not_true_eq_false]
        unfold wp_X12_order_239 wp_X12_order_409 wp_X12_order_451
        simp (config := {decide := true}) only [false_implies, true_implies, true_and, and_true, not_false_eq_true, not_true_eq_false]
        intro y ey
        rw [ey]
        refine isP_m (fun _ => ⟨fun _ => ?_, fun c => absurd c (by decide)⟩) (fun c => absurd hp c)
        rw [eq]
        exact m_657s (by omega) (o_pcm h ek) hq (m_709 (by decide) (rx_of w _) hP)
    · refine o_none h 3 (fun P hP => c_pre hk ek ?_) (fun P hP => m_pre2 h hk ek ew ?_)
      · rw [ew]
        unfold cSw
        rw [hc]
        simp (config := {decide := true}) only [false_implies, true_implies, true_and, and_true, not_false_eq_true, not_true_eq_false]
        unfold wp_X2_doStore wp_X2_third wp_X2_storeDistance
        refine ⟨fun _ => ⟨rx_in _ _, fun y ey => ?_⟩, fun c => absurd hf c⟩
        rw [ey]
        exact isP_c (fun c => absurd c hp) (fun _ => ⟨fun c => absurd rfl c, fun _ => hP⟩)
      · have hw := o_115 hc (by decide)
        unfold mSw
        rw [hc]
        simp (config := {decide := true}) only [hw, hf, false_implies, true_implies, true_and, and_true, not_false_eq_true, not_true_eq_false]
        unfold wp_X12_order_239 wp_X12_order_409 wp_X12_order_451
        simp (config := {decide := true}) only [false_implies, true_implies, true_and, and_true, not_false_eq_true, not_true_eq_false]
        intro y ey
        rw [ey]
        exact isP_m (fun c => absurd c hp) (fun _ => ⟨fun c => absurd rfl c, fun _ => hP⟩)
  · refine o_none h 2 (fun P hP => c_pre hk ek ?_) (fun P hP => m_pre2 h hk ek ew ?_)
    · rw [ew]
      unfold cSw
      rw [hc]
      simp (config := {decide := true}) only [false_implies, true_implies, true_and, and_true, not_false_eq_true, not_true_eq_false]
      unfold wp_X2_doStore wp_X2_third
      exact ⟨fun c => absurd c hf, fun _ => hP⟩
    · have hw := o_115 hc (by decide)
      unfold mSw
      rw [hc]
      simp (config := {decide := true}) only [hw, hf, false_implies, true_implies, true_and, and_true, not_false_eq_true, not_true_eq_false]
      unfold wp_X12_order_239 wp_X12_order_409 wp_X12_order_451 wp_X12_order_492 wp_X12_order_560 wp_X12_order_615
      simp (config := {decide := true}) only [hf, false_implies, true_implies, true_and, and_true, not_false_eq_true, not_true_eq_false]
      exact hP
end Order4
