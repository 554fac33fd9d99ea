section Order2
/-- the same but for orders and cycles: o and c are ahead -/
def RX (o c : Int32) (σ : SX2) (τ : SX12) : Prop :=
  (∀ j, j < 4096 → σ.1.1.1 j = τ.2.2.1.2.2.2 j) ∧ (∀ j, j < 32 → σ.1.1.2 j = τ.2.2.2.1.1 j) ∧ σ.1.1.2 0 = 0 ∧ (∀ j, j < 32 → σ.1.2.1 j = τ.2.2.2.2.2.2 j) ∧
  σ.1.2.2 = τ.2.2.2.1.2.1 ∧ σ.2.1.1 = τ.2.2.2.1.2.2 + o ∧ σ.2.1.2.toInt32 = τ.2.2.2.2.1.1 + c ∧ σ.2.2.1 = τ.2.2.2.2.1.2 ∧ σ.2.2.2 = τ.2.2.2.2.2.1
theorem RX.of {σ : SX2} {τ : SX12} (h : RX 0 0 σ τ) : RM σ τ := by
  obtain ⟨h1, h2, h3, h4, h5, h6, h7, h8, h9⟩ := h
  exact ⟨h1, h2, h3, h4, h5, by rw [h6, Int32.add_zero], by rw [h7, Int32.add_zero], h8, h9⟩
theorem RM.to {σ : SX2} {τ : SX12} (h : RM σ τ) : RX 0 0 σ τ := by
  obtain ⟨h1, h2, h3, h4, h5, h6, h7, h8, h9⟩ := h
  exact ⟨h1, h2, h3, h4, h5, by rw [h6, Int32.add_zero], by rw [h7, Int32.add_zero], h8, h9⟩
noncomputable def mEvt (τ : SX12) (e : Int64) : SX12 := (τ.1, (τ.2.1, (τ.2.2.1, (τ.2.2.2.1, (τ.2.2.2.2.1, (evE τ.2.2.2.2.2.1 e, τ.2.2.2.2.2.2))))))
noncomputable def cEvt (σ : SX2) (e : Int64) : SX2 := (σ.1, (σ.2.1, (σ.2.2.1, evE σ.2.2.2 e)))
theorem m_event {τ : SX12} {e : Int64} {post : SX12 → Prop} (h : post (mEvt τ e)) : wp_X12_event τ e post := by
  unfold wp_X12_event
  intro y ey
  rw [← evE_eq] at ey
  rw [ey]
  exact h
theorem c_note {σ : SX2} {e : Int32} {post : SX2 → Prop} (h : post (cEvt σ e.toInt64)) : wp_X2_note σ e post := by
  unfold wp_X2_note
  intro y ey
  rw [← evE_eq] at ey
  rw [ey]
  exact h
theorem ofNat_l2i (n : Nat) : (Int64.ofNat n).toInt32 = nI n := by
  unfold nI
  exact Int64.toInt32_ofNat'
theorem RX.acc {o c : Int32} {σ : SX2} {τ : SX12} (p : Nat) (h : RX o c σ τ) : RX o c (cAcc σ p) (mEvt (mAcc τ p) (nI p).toInt64) := by
  obtain ⟨h1, h2, h3, h4, h5, h6, h7, h8, h9⟩ := h
  refine ⟨h1, h2, h3, acF_congr h4, h5, h6, ?_, ?_, ?_⟩
  · show (σ.2.1.2 + Int64.ofNat (20 * acC σ.1.2.1 p)).toInt32 = (τ.2.2.2.2.1.1 + nI (20 * acC τ.2.2.2.2.2.2 p)) + c
    rw [Int64.toInt32_add, h7, acC_congr h4, ofNat_l2i, Int32.add_assoc, Int32.add_assoc, Int32.add_comm c]
  · show σ.2.2.1 + nI (acC σ.1.2.1 p) = τ.2.2.2.2.1.2 + nI (acC τ.2.2.2.2.2.2 p)
    rw [h8, acC_congr h4]
  · show evE σ.2.2.2 _ = evE τ.2.2.2.2.2.1 _
    rw [h9]
theorem RX.evt {o c : Int32} {σ : SX2} {τ : SX12} (e : Int64) (h : RX o c σ τ) : RX o c (cEvt σ e) (mEvt τ e) := by
  obtain ⟨h1, h2, h3, h4, h5, h6, h7, h8, h9⟩ := h
  refine ⟨h1, h2, h3, h4, h5, h6, h7, h8, ?_⟩
  show evE σ.2.2.2 _ = evE τ.2.2.2.2.2.1 _
  rw [h9]
theorem mo_acc (τ : SX12) (p : Nat) : MO τ (mEvt (mAcc τ p) (nI p).toInt64) := ⟨rfl, rfl, rfl, rfl, rfl⟩
theorem mo_evt (τ : SX12) (e : Int64) : MO τ (mEvt τ e) := ⟨rfl, rfl, rfl, rfl, rfl⟩
/-- the class's beginning of an order -/
noncomputable def cBeg (σ : SX2) (p : Nat) : SX2 := cAcc (σ.1, ((σ.2.1.1 + 1, σ.2.1.2 + 1), σ.2.2)) p
theorem c_begin {σ : SX2} {p : Nat} {post : SX2 → Prop} (hp : p < 16384) (hpl : σ.1.2.2 = nI p) (h : post (cBeg σ p)) : wp_X2_begin σ post := by
  unfold wp_X2_begin
  intro y1 ey1 y2 ey2
  rw [ey1, ey2, hpl]
  exact c_reach hp h
theorem RX.beg {σ : SX2} {τ : SX12} (p : Nat) (h : RM σ τ) : RX 1 1 (cBeg σ p) (mEvt (mAcc τ p) (nI p).toInt64) := by
  refine RX.acc p ?_
  obtain ⟨h1, h2, h3, h4, h5, h6, h7, h8, h9⟩ := h
  refine ⟨h1, h2, h3, h4, h5, ?_, ?_, h8, h9⟩
  · show σ.2.1.1 + 1 = _
    rw [h6]
  · show (σ.2.1.2 + 1).toInt32 = _
    rw [Int64.toInt32_add, h7]
    rfl
/-- a register's place in an order's word -/
theorem rx_in (w s : Int32) : vp_in ((w >>> s) &&& 31) 32 := pk_andIn _ (m := 31) 5 (by decide) (by decide)
theorem rx_of (w s : Int32) : ∃ j : Nat, j < 32 ∧ (w >>> s) &&& 31 = nI j := pk_andE _ (m := 31) 5 (by decide)
def wrR (f : Nat → Int32) (rd v : Int32) : Nat → Int32 := if rd = 0 then f else upd f rd.toNatClampNeg v
def wrM (f : Nat → Int32) (rd v : Int32) : Nat → Int32 := if rd = 0 then upd f rd.toNatClampNeg 0 else upd f rd.toNatClampNeg v
theorem wr_eq {f g : Nat → Int32} {rd v : Int32} (h : ∀ j, j < 32 → f j = g j) (h0 : f 0 = 0) : (∀ j, j < 32 → wrR f rd v j = wrM g rd v j) ∧ wrR f rd v 0 = 0 ∨ rd.toNatClampNeg = 0 ∧ ¬ rd = 0 := by
  by_cases hr : rd = 0
  · left
    refine ⟨fun j hj => ?_, ?_⟩
    · unfold wrR wrM
      rw [if_pos hr, if_pos hr, hr]
      simp only [upd]
      split
      · rename_i e
        rw [e]
        exact h0
      · exact h j hj
    · unfold wrR
      rw [if_pos hr]
      exact h0
  · by_cases hz : rd.toNatClampNeg = 0
    · exact Or.inr ⟨hz, hr⟩
    · left
      refine ⟨fun j hj => ?_, ?_⟩
      · unfold wrR wrM
        rw [if_neg hr, if_neg hr]
        simp only [upd]
        rw [h j hj]
      · unfold wrR
        rw [if_neg hr]
        simp only [upd]
        rw [if_neg (fun e => hz e.symm)]
        exact h0
theorem c_fill {σ : SX2} {w v : Int32} {post : Int32 → SX2 → Prop} (h : ∀ r, post r (((σ.1.1.1, wrR σ.1.1.2 ((w >>> ((7 : Int32) &&& 31)) &&& 31) v), σ.1.2), σ.2)) : wp_X2_fill σ ((w >>> ((7 : Int32) &&& 31)) &&& 31) v post := by
  obtain ⟨j, hj, e⟩ := rx_of w ((7 : Int32) &&& 31)
  have h := h
  rw [e] at h ⊢
  unfold wp_X2_fill
  refine ⟨fun c => absurd c (nI_pos (by omega)), fun _ => ⟨fun _ => ⟨fun c => ?_, fun c => ⟨in_k hj (by omega), fun y ey => ?_⟩⟩, fun c => absurd (nI_lt (b := 32) hj (by omega)) c⟩⟩
  · have := h 1
    unfold wrR at this
    rw [if_pos c] at this
    exact this
  · have := h 1
    unfold wrR at this
    rw [if_neg c] at this
    rw [ey]
    exact this
def cPass (σ : SX2) (w v : Int32) : SX2 := ((( σ.1.1.1, wrR σ.1.1.2 ((w >>> ((7 : Int32) &&& 31)) &&& 31) v), (σ.1.2.1, σ.1.2.2 + 4)), σ.2)
theorem c_pass {σ : SX2} {w v : Int32} {post : Int32 → SX2 → Prop} (h : post 0 (cPass σ w v)) : wp_X2_pass σ w v post := by
  unfold wp_X2_pass
  refine c_fill (fun r y ey => ?_)
  rw [ey]
  exact h
def cJump (σ : SX2) (w goal : Int32) : SX2 := (((σ.1.1.1, wrR σ.1.1.2 ((w >>> ((7 : Int32) &&& 31)) &&& 31) (σ.1.2.2 + 4)), (σ.1.2.1, goal)), ((σ.2.1.1, σ.2.1.2 + 1), σ.2.2))
theorem c_jump {σ : SX2} {w goal : Int32} {post : Int32 → SX2 → Prop} (h : post 0 (cJump σ w goal)) : wp_X2_jump σ w goal post := by
  unfold wp_X2_jump
  refine c_fill (fun r y ey => ?_)
  rw [ey]
  exact h
/-- the reference's end of an order -/
def mEnd (τ : SX12) (rd goal jump res wr ex : Int32) : SX12 := (τ.1, (τ.2.1, (τ.2.2.1, (((if wr = 0 then τ.2.2.2.1.1 else wrM τ.2.2.2.1.1 rd res), (goal, τ.2.2.2.1.2.2 + 1)), ((τ.2.2.2.2.1.1 + ((1 + ex) + (if jump = 0 then 0 else 1)), τ.2.2.2.2.1.2), τ.2.2.2.2.2)))))
theorem m_end {τ : SX12} {rd goal jump res wr ex : Int32} {post : Int32 → SX12 → Prop} (hrd : ∃ j : Nat, j < 32 ∧ rd = nI j) (h : post 0 (mEnd τ rd goal jump res wr ex)) : wp_X12_order_730 post τ rd goal jump res wr ex := by
  obtain ⟨j, hj, rfl⟩ := hrd
  have key : ∀ s0 : Int32, (s0 = if jump = 0 then 0 else 1) → wp_X12_order_749 post τ (nI j) goal res wr s0 (1 + ex) τ.2.2.2.2.1.1 := by
    intro s0 hs0
    unfold wp_X12_order_749
    intro y ey
    rw [hs0] at ey
    refine ⟨fun c => ?_, fun c => ?_⟩
    · unfold wp_X12_order_766
      intro z ez
      have := h
      unfold mEnd at this
      rw [if_pos c] at this
      rw [ez, ey]
      exact this
    · unfold wp_X12_write
      have h2 := h
      unfold mEnd wrM at h2
      rw [if_neg c] at h2
      refine ⟨fun c2 => ⟨in_k hj (by omega), fun z ez => ?_⟩, fun c2 => ⟨in_k hj (by omega), fun z ez => ?_⟩⟩
      · unfold wp_X12_order_766
        intro u eu
        rw [if_neg c2] at h2
        rw [eu, ez, ey]
        exact h2
      · unfold wp_X12_order_766
        intro u eu
        rw [if_pos c2] at h2
        rw [eu, ez, ey]
        exact h2
  unfold wp_X12_order_730
  exact ⟨fun c => key 0 (by rw [if_pos c]), fun c => key 1 (by rw [if_neg c])⟩
theorem m_709 {τ : SX12} {rd a b goal jump res wr ex : Int32} {post : Int32 → SX12 → Prop} (hex : ¬ ex = 32) (hrd : ∃ j : Nat, j < 32 ∧ rd = nI j) (h : post 0 (mEnd τ rd goal jump res wr ex)) : wp_X12_order_709 post τ rd a b goal jump res wr ex := by
  unfold wp_X12_order_709
  exact ⟨fun _ => m_end hrd h, fun c => absurd c hex⟩
theorem m_709d {τ : SX12} {rd a b goal jump res wr : Int32} {post : Int32 → SX12 → Prop} (hrd : ∃ j : Nat, j < 32 ∧ rd = nI j) (h : post 0 (mEnd (mEvt (mEvt τ a.toInt64) b.toInt64) rd goal jump res wr 32)) : wp_X12_order_709 post τ rd a b goal jump res wr 32 := by
  unfold wp_X12_order_709
  exact ⟨fun c => absurd rfl c, fun _ => m_event (m_event (m_end hrd h))⟩
noncomputable abbrev mB (τ : SX12) (p : Nat) : SX12 := mEvt (mAcc τ p) (nI p).toInt64
theorem m_657 {τ : SX12} {p : Nat} {rd a b goal jump res wr ex : Int32} {post : Int32 → SX12 → Prop} (hp : p < 16384) (hpc : τ.2.2.2.1.2.1 = nI p) (h : wp_X12_order_709 post (mB τ p) rd a b goal jump res wr ex) : wp_X12_order_657 post τ rd a b goal jump res wr (-1) ex := by
  unfold wp_X12_order_657
  rw [hpc]
  refine m_access hp ?_
  have e : (mAcc τ p).2.2.2.1.2.1 = nI p := hpc
  rw [e]
  exact m_event ⟨fun _ => h, fun c => absurd rfl c⟩
theorem m_657t {τ : SX12} {p q : Nat} {rd a b goal jump res wr ex : Int32} {post : Int32 → SX12 → Prop} (hp : p < 16384) (hpc : τ.2.2.2.1.2.1 = nI p) (hq : q < 4096) (hwr : ¬ wr = 0) (h : wp_X12_order_709 post (mB (mB τ p) (4 * q)) rd a b goal jump res wr ex) : wp_X12_order_657 post τ rd a b goal jump res wr (nI (4 * q)) ex := by
  unfold wp_X12_order_657
  rw [hpc]
  refine m_access hp ?_
  have e : (mAcc τ p).2.2.2.1.2.1 = nI p := hpc
  rw [e]
  refine m_event ⟨fun c => ?_, fun _ => m_access (by omega) (m_event ⟨fun _ => h, fun c => absurd c hwr⟩)⟩
  have : (nI (4 * q)).toInt = -1 := by rw [c]; decide
  rw [nI_toInt (by omega)] at this
  omega
def mSto (τ : SX12) (q : Nat) (v : Int32) : SX12 := (τ.1, (τ.2.1, ((τ.2.2.1.1, (τ.2.2.1.2.1, (τ.2.2.1.2.2.1, upd τ.2.2.1.2.2.2 q v))), τ.2.2.2)))
theorem m_657s {τ : SX12} {p q : Nat} {rd a b goal jump res ex : Int32} {post : Int32 → SX12 → Prop} (hp : p < 16384) (hpc : τ.2.2.2.1.2.1 = nI p) (hq : q < 4096) (h : wp_X12_order_709 post (mSto (mB (mB τ p) (4 * q)) q b) rd a b goal jump res 0 ex) : wp_X12_order_657 post τ rd a b goal jump res 0 (nI (4 * q)) ex := by
  unfold wp_X12_order_657
  rw [hpc]
  refine m_access hp ?_
  have e : (mAcc τ p).2.2.2.1.2.1 = nI p := hpc
  rw [e]
  refine m_event ⟨fun c => ?_, fun _ => m_access (by omega) (m_event ⟨fun c => absurd rfl c, fun _ => ?_⟩)⟩
  · have : (nI (4 * q)).toInt = -1 := by rw [c]; decide
    rw [nI_toInt (by omega)] at this
    omega
  · rw [ix_m hq]
    refine ⟨in_k hq (by omega), fun y ey => ?_⟩
    rw [nI_clamp (by omega)] at ey
    rw [ey]
    exact h
end Order2
