section CallsM
variable {ι : Type}
/-! the calls that are written once -/
def KStep (M : Nat → Int32) : Prop := M 514 = wB (nI 0) (nI 2) (nI 0) 12 ∧ M 515 = wI 0 2 2 (-1) ∧ M 516 = wJR ∧ M 517 = wI 0 5 0 (nI 2) ∧ M 518 = 115
def KKeep (M : Nat → Int32) : Prop := M 519 = wR 0 4 6 6 7 ∧ M 520 = wR 0 7 6 6 3 ∧ M 521 = wR 0 4 6 6 7 ∧ M 522 = wJR
def KTell (M : Nat → Int32) : Prop := M 523 = wI 0 5 0 (nI 400) ∧ M 524 = wB (nI 0) (nI 4) (nI 5) 16 ∧ M 525 = wS 6 4 800 ∧ M 526 = wI 0 4 4 (nI 4) ∧ M 527 = wJR ∧ M 528 = wI 0 5 0 (nI 3) ∧ M 529 = 115
def KEnd (g : List DD) (M : Nat → Int32) : Prop := M (530 + 5 * nrw g) = wI 0 5 0 (nI 1) ∧ M (531 + 5 * nrw g) = 115
def KR5 (M : Nat → Int32) (b R n : Nat) (w : Int32) : Prop := M b = wI 3 5 6 (nI n) ∧ M (b + 1) = wB (nI 0) (nI 5) (nI 0) (nI (4 * (530 + 5 * R)) - nI (4 * (b + 1))) ∧ M (b + 2) = wI 1 6 6 (nI 2) ∧ M (b + 3) = w ∧ M (b + 4) = wJR
def KRow (T : TX) (g : List DD) (M : Nat → Int32) : Prop := ∀ k, k < g.length → (gx g k).2.2 = true → KR5 M (530 + 5 * nrw (g.take k)) (nrw g) (dsz T (gx g k)) (wL 6 6 (nI (4 * fw T g k))) ∧ KR5 M (532 + 5 * nrw g + 5 * nrw (g.take k)) (nrw g) (dsz T (gx g k)) (wI 0 6 6 (nI (4 * fw T g k)))
def KOK (T : TX) (g : List DD) (M : Nat → Int32) : Prop := KStep M ∧ KKeep M ∧ KTell M ∧ KEnd g M ∧ KRow T g M
theorem nrw_take {g : List DD} : ∀ {k : Nat}, k < g.length → (gx g k).2.2 = true → nrw (g.take k) + 1 ≤ nrw g := by
  induction g with
  | nil => intro k h; exact absurd h (by simp)
  | cons x g ih =>
    intro k h hr
    cases k with
    | zero =>
      have hr : x.2.2 = true := hr
      show 0 + 1 ≤ (if x.2.2 = true then 1 else 0) + nrw g
      rw [if_pos hr]
      omega
    | succ k =>
      have := ih (k := k) (by simpa using h) hr
      show (if x.2.2 = true then 1 else 0) + nrw (g.take k) + 1 ≤ (if x.2.2 = true then 1 else 0) + nrw g
      omega
theorem nrw_le (g : List DD) : nrw g ≤ g.length := by
  induction g with
  | nil => exact Nat.le_refl _
  | cons x g ih =>
    show (if x.2.2 = true then 1 else 0) + nrw g ≤ g.length + 1
    split <;> omega
theorem jv3n {x : Int32} {n : Nat} (hn : n < 2 ^ 31) : jv (nI 3) x (nI n) = if x.toBitVec.toNat < n then 1 else 0 := by
  have e : jv (nI 3) x (nI n) = (if ((nI n) ^^^ (-2147483648)) ≤ (x ^^^ (-2147483648)) then 0 else 1) := rfl
  have h1 : (nI n).toBitVec.toNat = n := pk_tn (by omega)
  rw [e]
  by_cases q : x.toBitVec.toNat < n
  · rw [if_pos q, if_neg]
    rw [Int32.le_iff_toInt_le, u_flip, u_flip, h1]
    omega
  · rw [if_neg q, if_pos]
    rw [Int32.le_iff_toInt_le, u_flip, u_flip, h1]
    omega
theorem jv1 {x : Nat} (hx : x < 2 ^ 29) : jv (nI 1) (nI x) (nI 2) = nI (4 * x) := by
  have e : jv (nI 1) (nI x) (nI 2) = nI x <<< ((nI 2 &&& 31) &&& 31) := rfl
  rw [e, shN (k := 2) _ (by decide) (by omega)]
  congr 1
  omega
/-- a call, the orders of the called part and the way back -/
theorem sim_call {m r : ι → Nat → Int32} {M : Nat → Int32} {c a n n1 : Nat} {Q : (ι → Nat → Int32) → (ι → Nat → Int32) → Nat → Prop} (hM : ∀ i j, 512 ≤ j → j < 4096 → m i j = M j) (hc : 512 ≤ c) (hc2 : c < 4096) (ha : 512 ≤ a) (hac : a ≤ c) (hw : M c = wJ 1 (nI (4 * a) - nI (4 * c)))
    (k : FX n m (fun i => wr (r i) 1 (nI (4 * (c + 1)))) a Q) (hn : n + 1 ≤ n1) : FX n1 m r c Q := by
  have e : nI (4 * c) + (nI (4 * a) - nI (4 * c)) = nI (4 * a) := by
    rw [Int32.add_comm, Int32.sub_add_cancel]
  exact FX.cons (fx_jal (lk := 1) (l0 := 1) hc2 (fun i => (hM i c hc hc2).trans hw) rfl (by omega) (okJ_b hc2 ha hac) e ⟨rfl, rfl, rfl⟩) k hn
theorem sim_step {m r : ι → Nat → Int32} {M : Nat → Int32} {c s : Nat} {Q : (ι → Nat → Int32) → (ι → Nat → Int32) → Nat → Prop} (hK : KStep M) (hM : ∀ i j, 512 ≤ j → j < 4096 → m i j = M j) (hc : 530 ≤ c) (hc2 : c < 4095) (hw : M c = wJ 1 (nI (4 * 514) - nI (4 * c))) (hz : ∀ i, r i 0 = 0) (hs : ∀ i, r i 2 = nI s) (hs2 : s ≤ 2000)
    (h0 : s = 0 → ∀ r' : ι → Nat → Int32, (∀ i, r' i 5 = nI 2) → (∀ i, r' i 1 = nI (4 * (c + 1))) → (∀ i j, ¬ j = 1 → ¬ j = 5 → r' i j = r i j) → Q m r' 518)
    (h1 : 0 < s → ∀ r' : ι → Nat → Int32, (∀ i, r' i 2 = nI (s - 1)) → (∀ i j, ¬ j = 1 → ¬ j = 2 → r' i j = r i j) → Q m r' (c + 1)) : FX 4 m r c Q := by
  obtain ⟨k1, k2, k3, k4, k5⟩ := hK
  refine sim_call (n := 3) hM (by omega) (by omega) (by omega) (by omega) hw ?_ (by omega)
  have gM : ∀ i j (w : Int32), 512 ≤ j → j < 4096 → M j = w → m i j = w := fun i j w j1 j2 h => (hM i j j1 j2).trans h
  by_cases q : s = 0
  · refine FX.cons (n := 1) (fx_br (t := true) (a := 517) (d := 12) (k := 0) (x := 2) (y := 0) (by omega) (fun i => gM i _ _ (by omega) (by omega) k1) (by omega) (by omega) (by omega) okB_1 (by decide) (fun i => ?_) ⟨rfl, rfl, rfl⟩) ?_ (by omega)
    · rw [if_pos rfl]
      show wr _ 1 _ 2 = wr _ 1 _ 0 ↔ _
      rw [wr_n (by omega), wr_n (by omega), hs i, hz i, q]
      exact ⟨fun _ => rfl, fun _ => rfl⟩
    · rw [if_pos rfl]
      refine fx_num (k := 0) (to := 5) (fr := 0) (x := nI 2) (by omega) (fun i => gM i _ _ (by omega) (by omega) k4) (by omega) (by omega) (by omega) (by decide) (by decide) (fun c => absurd c (by omega)) (h0 q _ (fun i => ?_) (fun i => ?_) (fun i j j1 j5 => ?_))
      · show wr _ 5 _ 5 = _
        rw [wr_s (by omega), wr_n (by omega), hz i]
        decide
      · show wr (wr _ 1 _) 5 _ 1 = _
        rw [wr_n (by omega), wr_s (by omega)]
      · show wr (wr _ 1 _) 5 _ j = _
        rw [wr_n j5, wr_n j1]
  · refine FX.cons (n := 2) (fx_br (t := false) (a := 517) (d := 12) (k := 0) (x := 2) (y := 0) (by omega) (fun i => gM i _ _ (by omega) (by omega) k1) (by omega) (by omega) (by omega) okB_1 (by decide) (fun i => ?_) ⟨rfl, rfl, rfl⟩) ?_ (by omega)
    · rw [if_pos rfl]
      show wr _ 1 _ 2 = wr _ 1 _ 0 ↔ _
      rw [wr_n (by omega), wr_n (by omega), hs i, hz i]
      exact ⟨fun e => absurd ((nI_eq (b := 0) (by omega) (by omega)).mp e) q, fun e => absurd e (by decide)⟩
    · rw [if_neg (by decide)]
      refine FX.cons (n := 1) (fx_num (k := 0) (to := 2) (fr := 2) (x := -1) (by omega) (fun i => gM i _ _ (by omega) (by omega) k2) (by omega) (by omega) (by omega) (by decide) (by decide) (fun c => absurd c (by omega)) ⟨rfl, rfl, rfl⟩) ?_ (by omega)
      refine fx_jr (a := c + 1) (by omega) (fun i => gM i _ _ (by omega) (by omega) k3) (by omega) (fun i => ?_) (h1 (by omega) _ (fun i => ?_) (fun i j j1 j2 => ?_))
      · show wr (wr _ 1 _) 2 _ 1 = _
        rw [wr_n (by omega), wr_s (by omega)]
      · show wr _ 2 _ 2 = _
        rw [wr_s (by omega), wr_n (by omega), hs i]
        show nI s + (-1) = nI (s - 1)
        have e2 := nI_1 (s - 1)
        rw [show s - 1 + 1 = s by omega] at e2
        rw [← e2]
        rw [Int32.add_assoc, show (1 : Int32) + (-1) = 0 by decide, Int32.add_zero]
      · show wr (wr _ 1 _) 2 _ j = _
        rw [wr_n j2, wr_n j1]
theorem msk (x y : Int32) : ((x ^^^ y) &&& (-1)) ^^^ y = x := by
  have e1 : (x ^^^ y) &&& (-1) = x ^^^ y := by
    apply Int32.toBitVec_inj.mp
    show (x ^^^ y).toBitVec &&& (-1 : Int32).toBitVec = _
    rw [show (-1 : Int32).toBitVec = BitVec.allOnes 32 by decide, BitVec.and_allOnes]
  rw [e1, Int32.xor_assoc, Int32.xor_self, Int32.xor_zero]
theorem msk0 (x y : Int32) : ((x ^^^ y) &&& 0) ^^^ y = y := by
  rw [Int32.and_zero, Int32.zero_xor]
theorem sim_keep {m r : ι → Nat → Int32} {M : Nat → Int32} {c : Nat} {Q : (ι → Nat → Int32) → (ι → Nat → Int32) → Nat → Prop} (hK : KKeep M) (hM : ∀ i j, 512 ≤ j → j < 4096 → m i j = M j) (hc : 530 ≤ c) (hc2 : c < 4095) (hw : M c = wJ 1 (nI (4 * 519) - nI (4 * c))) (hm : ∀ i, r i 3 = 0 ∨ r i 3 = -1)
    (h1 : ∀ r' : ι → Nat → Int32, (∀ i, r' i 6 = if r i 3 = 0 then r i 7 else r i 6) → (∀ i j, ¬ j = 1 → ¬ j = 6 → r' i j = r i j) → Q m r' (c + 1)) : FX 5 m r c Q := by
  obtain ⟨k1, k2, k3, k4⟩ := hK
  refine sim_call (n := 4) hM (by omega) (by omega) (by omega) (by omega) hw ?_ (by omega)
  have gM : ∀ i j (w : Int32), 512 ≤ j → j < 4096 → M j = w → m i j = w := fun i j w j1 j2 h => (hM i j j1 j2).trans h
  refine FX.cons (n := 3) (fx_reg (u := 0) (k := 4) (to := 6) (x := 6) (y := 7) (by omega) (fun i => gM i _ _ (by omega) (by omega) k1) (Or.inl ⟨rfl, by omega⟩) (fun c => absurd c (by omega)) (by omega) (by omega) (by omega) ⟨rfl, rfl, rfl⟩) ?_ (by omega)
  refine FX.cons (n := 2) (fx_reg (u := 0) (k := 7) (to := 6) (x := 6) (y := 3) (by omega) (fun i => gM i _ _ (by omega) (by omega) k2) (Or.inl ⟨rfl, by omega⟩) (fun c => absurd c (by omega)) (by omega) (by omega) (by omega) ⟨rfl, rfl, rfl⟩) ?_ (by omega)
  refine FX.cons (n := 1) (fx_reg (u := 0) (k := 4) (to := 6) (x := 6) (y := 7) (by omega) (fun i => gM i _ _ (by omega) (by omega) k3) (Or.inl ⟨rfl, by omega⟩) (fun c => absurd c (by omega)) (by omega) (by omega) (by omega) ⟨rfl, rfl, rfl⟩) ?_ (by omega)
  refine fx_jr (a := c + 1) (by omega) (fun i => gM i _ _ (by omega) (by omega) k4) (by omega) (fun i => ?_) (h1 _ (fun i => ?_) (fun i j j1 j6 => ?_))
  · show wr (wr (wr (wr _ 1 _) 6 _) 6 _) 6 _ 1 = _
    rw [wr_n (by omega), wr_n (by omega), wr_n (by omega), wr_s (by omega)]
  · show wr _ 6 _ 6 = _
    rw [wr_s (by omega), wr_s (by omega), wr_s (by omega), wr_n (j := 7) (by omega), wr_n (j := 3) (by omega), wr_n (j := 7) (by omega), wr_n (j := 7) (by omega), wr_n (j := 3) (by omega), wr_n (j := 6) (by omega)]
    show ((r i 6 ^^^ r i 7) &&& r i 3) ^^^ r i 7 = _
    rcases hm i with e | e
    · rw [if_pos e, e, msk0]
    · rw [if_neg (by rw [e]; decide), e, msk]
  · show wr (wr (wr (wr _ 1 _) 6 _) 6 _) 6 _ j = _
    rw [wr_n j6, wr_n j6, wr_n j6, wr_n j1]
theorem sim_tell {m r : ι → Nat → Int32} {M : Nat → Int32} {c n : Nat} {Q : (ι → Nat → Int32) → (ι → Nat → Int32) → Nat → Prop} (hK : KTell M) (hM : ∀ i j, 512 ≤ j → j < 4096 → m i j = M j) (hc : 530 ≤ c) (hc2 : c < 4095) (hw : M c = wJ 1 (nI (4 * 523) - nI (4 * c))) (hz : ∀ i, r i 0 = 0) (hs : ∀ i, r i 4 = nI (4 * n)) (hs2 : n ≤ 100)
    (h0 : n = 100 → ∀ r' : ι → Nat → Int32, (∀ i, r' i 5 = nI 3) → (∀ i, r' i 1 = nI (4 * (c + 1))) → (∀ i j, ¬ j = 1 → ¬ j = 5 → r' i j = r i j) → Q m r' 529)
    (h1 : n < 100 → ∀ r' : ι → Nat → Int32, (∀ i, r' i 4 = nI (4 * (n + 1))) → (∀ i j, ¬ j = 1 → ¬ j = 4 → ¬ j = 5 → r' i j = r i j) → Q (fun i => upd (m i) (200 + n) (r i 6)) r' (c + 1)) : FX 6 m r c Q := by
  obtain ⟨k1, k2, k3, k4, k5, k6, k7⟩ := hK
  refine sim_call (n := 5) hM (by omega) (by omega) (by omega) (by omega) hw ?_ (by omega)
  have gM : ∀ i j (w : Int32), 512 ≤ j → j < 4096 → M j = w → m i j = w := fun i j w j1 j2 h => (hM i j j1 j2).trans h
  have e0 : ∀ x : Int32, jv (nI 0) 0 x = x := fun x => Int32.zero_add x
  refine FX.cons (n := 4) (fx_num (k := 0) (to := 5) (fr := 0) (x := nI 400) (by omega) (fun i => gM i _ _ (by omega) (by omega) k1) (by omega) (by omega) (by omega) (by decide) (by decide) (fun c => absurd c (by omega)) ⟨rfl, rfl, rfl⟩) ?_ (by omega)
  by_cases q : n = 100
  · refine FX.cons (n := 1) (fx_br (t := true) (a := 528) (d := 16) (k := 0) (x := 4) (y := 5) (by omega) (fun i => gM i _ _ (by omega) (by omega) k2) (by omega) (by omega) (by omega) okB_2 (by decide) (fun i => ?_) ⟨rfl, rfl, rfl⟩) ?_ (by omega)
    · rw [if_pos rfl]
      show wr _ 5 _ 4 = wr _ 5 _ 5 ↔ _
      rw [wr_n (by omega), wr_n (by omega), wr_s (by omega), wr_n (by omega), hs i, hz i, e0, q]
      exact ⟨fun _ => rfl, fun _ => rfl⟩
    · rw [if_pos rfl]
      refine fx_num (k := 0) (to := 5) (fr := 0) (x := nI 3) (by omega) (fun i => gM i _ _ (by omega) (by omega) k6) (by omega) (by omega) (by omega) (by decide) (by decide) (fun c => absurd c (by omega)) (h0 q _ (fun i => ?_) (fun i => ?_) (fun i j j1 j5 => ?_))
      · show wr _ 5 _ 5 = _
        rw [wr_s (by omega), wr_n (by omega), wr_n (by omega), hz i, e0]
      · show wr (wr (wr _ 1 _) 5 _) 5 _ 1 = _
        rw [wr_n (by omega), wr_n (by omega), wr_s (by omega)]
      · show wr (wr (wr _ 1 _) 5 _) 5 _ j = _
        rw [wr_n j5, wr_n j5, wr_n j1]
  · refine FX.cons (n := 3) (fx_br (t := false) (a := 528) (d := 16) (k := 0) (x := 4) (y := 5) (by omega) (fun i => gM i _ _ (by omega) (by omega) k2) (by omega) (by omega) (by omega) okB_2 (by decide) (fun i => ?_) ⟨rfl, rfl, rfl⟩) ?_ (by omega)
    · rw [if_pos rfl]
      show wr _ 5 _ 4 = wr _ 5 _ 5 ↔ _
      rw [wr_n (by omega), wr_n (by omega), wr_s (by omega), wr_n (by omega), hs i, hz i, e0]
      refine ⟨fun e => ?_, fun e => absurd e (by decide)⟩
      have := (nI_eq (b := 400) (by omega) (by omega)).mp e
      omega
    · rw [if_neg (by decide)]
      refine FX.cons (n := 2) (fx_sto (fr := 6) (base := 4) (d := 800) (q := 200 + n) (by omega) (fun i => gM i _ _ (by omega) (by omega) k3) (by omega) (by omega) (by omega) (by omega) (fun i => ?_) ⟨rfl, rfl, rfl⟩) ?_ (by omega)
      · show wr (wr _ 1 _) 5 _ 4 + _ = _
        rw [wr_n (by omega), wr_n (by omega), hs i, nI_add, show 4 * n + 800 = 4 * (200 + n) by omega]
      · have gM2 : ∀ i j (w : Int32), 512 ≤ j → j < 4096 → M j = w → upd (m i) (200 + n) (wr (wr (r i) 1 (nI (4 * (c + 1)))) 5 (jv (nI 0) (wr (r i) 1 (nI (4 * (c + 1))) 0) (nI 400)) 6) j = w := fun i j w j1 j2 h => (pk_un (by omega)).trans ((hM i j j1 j2).trans h)
        refine FX.cons (n := 1) (fx_num (k := 0) (to := 4) (fr := 4) (x := nI 4) (by omega) (fun i => gM2 i _ _ (by omega) (by omega) k4) (by omega) (by omega) (by omega) (by decide) (by decide) (fun c => absurd c (by omega)) ⟨rfl, rfl, rfl⟩) ?_ (by omega)
        refine fx_jr (a := c + 1) (by omega) (fun i => gM2 i _ _ (by omega) (by omega) k5) (by omega) (fun i => ?_) ?_
        · show wr (wr (wr _ 1 _) 5 _) 4 _ 1 = _
          rw [wr_n (by omega), wr_n (by omega), wr_s (by omega)]
        · have e6 : (fun i => upd (m i) (200 + n) (wr (wr (r i) 1 (nI (4 * (c + 1)))) 5 (jv (nI 0) (wr (r i) 1 (nI (4 * (c + 1))) 0) (nI 400)) 6)) = (fun i => upd (m i) (200 + n) (r i 6)) := by
            funext i
            rw [wr_n (by omega), wr_n (by omega)]
          rw [e6]
          refine h1 (by omega) _ (fun i => ?_) (fun i j j1 j4 j5 => ?_)
          · show wr _ 4 _ 4 = _
            rw [wr_s (by omega), wr_n (by omega), wr_n (by omega), hs i]
            show nI (4 * n) + nI 4 = _
            rw [nI_add]
            rfl
          · show wr (wr (wr _ 1 _) 5 _) 4 _ j = _
            rw [wr_n j4, wr_n j5, wr_n j1]
/-- a row's call, either kind -/
theorem sim_row {m r : ι → Nat → Int32} {M : Nat → Int32} {c b R n x : Nat} {w : Int32} {Q : (ι → Nat → Int32) → (ι → Nat → Int32) → Nat → Prop} (hK : KR5 M b R n w) (hE1 : M (530 + 5 * R) = wI 0 5 0 (nI 1)) (hn1 : n ≤ 64) (hR : R ≤ 200) (hb : 530 ≤ b) (hb2 : b + 5 ≤ 532 + 10 * R) (hb3 : b ≤ 525 + 5 * R ∨ (532 + 5 * R ≤ b)) (hM : ∀ i j, 512 ≤ j → j < 4096 → m i j = M j) (hc : 532 + 10 * R ≤ c) (hc2 : c < 4095) (hw : M c = wJ 1 (nI (4 * b) - nI (4 * c))) (hz : ∀ i, r i 0 = 0) (hs : ∀ i, r i 6 = nI x) (hx : x < 2 ^ 32)
    (h0 : ¬ x < n → ∀ r' : ι → Nat → Int32, (∀ i, r' i 5 = nI 1) → (∀ i, r' i 1 = nI (4 * (c + 1))) → (∀ i j, ¬ j = 1 → ¬ j = 5 → r' i j = r i j) → Q m r' (531 + 5 * R))
    (h1 : x < n → ∀ r' : ι → Nat → Int32, (∀ i, r' i 6 = nI (4 * x)) → (∀ i, r' i 1 = nI (4 * (c + 1))) → (∀ i j, ¬ j = 1 → ¬ j = 5 → ¬ j = 6 → r' i j = r i j) → FX 2 m r' (b + 3) Q) : FX 6 m r c Q := by
  obtain ⟨k1, k2, k3, k4, k5⟩ := hK
  refine sim_call (n := 5) hM (by omega) (by omega) (by omega) (by omega) hw ?_ (by omega)
  have gM : ∀ i j (w : Int32), 512 ≤ j → j < 4096 → M j = w → m i j = w := fun i j w j1 j2 h => (hM i j j1 j2).trans h
  have e0 : ∀ x : Int32, jv (nI 0) 0 x = x := fun x => Int32.zero_add x
  have hn2 : (nI n).toInt = n := by
    rcases i32_toInt (nI n) with ⟨a1, a2⟩ | ⟨a1, a2, a3⟩ <;> rw [pk_tn (by omega)] at * <;> omega
  have e5 : nI (4 * (b + 1)) + (nI (4 * (530 + 5 * R)) - nI (4 * (b + 1))) = nI (4 * (530 + 5 * R)) := by
    rw [Int32.add_comm, Int32.sub_add_cancel]
  refine FX.cons (n := 4) (fx_num (k := 3) (to := 5) (fr := 6) (x := nI n) (by omega) (fun i => gM i _ _ (by omega) (by omega) k1) (by omega) (by omega) (by omega) (by omega) (by omega) (fun c => absurd c (by omega)) ⟨rfl, rfl, rfl⟩) ?_ (by omega)
  have r5 : ∀ i, jv (nI 3) (wr (r i) 1 (nI (4 * (c + 1))) 6) (nI n) = if x < n then 1 else 0 := by
    intro i
    rw [wr_n (by omega), hs i, jv3n (by omega), pk_tn hx]
  by_cases q : x < n
  · refine FX.cons (n := 3) (fx_br (t := false) (a := 530 + 5 * R) (k := 0) (x := 5) (y := 0) (by omega) (fun i => gM i _ _ (by omega) (by omega) k2) (by omega) (by omega) (by omega) (okB_d (by omega) (by omega)) e5 (fun i => ?_) ⟨rfl, rfl, rfl⟩) ?_ (by omega)
    · rw [if_pos rfl]
      show wr _ 5 _ 5 = wr _ 5 _ 0 ↔ _
      rw [wr_s (by omega), wr_n (j := 0) (by omega), wr_n (j := 0) (by omega), r5, hz i, if_pos q]
      exact ⟨fun e => absurd e (by decide), fun e => absurd e (by decide)⟩
    · rw [if_neg (by decide)]
      refine FX.cons (n := 2) (fx_num (k := 1) (to := 6) (fr := 6) (x := nI 2) (by omega) (fun i => gM i _ _ (by omega) (by omega) k3) (by omega) (by omega) (by omega) (by decide) (by decide) (fun _ => by decide) ⟨rfl, rfl, rfl⟩) ?_ (by omega)
      refine h1 q _ (fun i => ?_) (fun i => ?_) (fun i j j1 j5 j6 => ?_)
      · show wr _ 6 _ 6 = _
        rw [wr_s (by omega), wr_n (by omega), wr_n (by omega), hs i, jv1 (by omega)]
      · show wr (wr (wr _ 1 _) 5 _) 6 _ 1 = _
        rw [wr_n (by omega), wr_n (by omega), wr_s (by omega)]
      · show wr (wr (wr _ 1 _) 5 _) 6 _ j = _
        rw [wr_n j6, wr_n j5, wr_n j1]
  · refine FX.cons (n := 1) (fx_br (t := true) (a := 530 + 5 * R) (k := 0) (x := 5) (y := 0) (by omega) (fun i => gM i _ _ (by omega) (by omega) k2) (by omega) (by omega) (by omega) (okB_d (by omega) (by omega)) e5 (fun i => ?_) ⟨rfl, rfl, rfl⟩) ?_ (by omega)
    · rw [if_pos rfl]
      show wr _ 5 _ 5 = wr _ 5 _ 0 ↔ _
      rw [wr_s (by omega), wr_n (j := 0) (by omega), wr_n (j := 0) (by omega), r5, hz i, if_neg q]
      exact ⟨fun _ => rfl, fun _ => rfl⟩
    · rw [if_pos rfl]
      refine fx_num (k := 0) (to := 5) (fr := 0) (x := nI 1) (by omega) (fun i => gM i _ _ (by omega) (by omega) hE1) (by omega) (by omega) (by omega) (by decide) (by decide) (fun c => absurd c (by omega)) ?_
      rw [show 530 + 5 * R + 1 = 531 + 5 * R by omega]
      refine h0 q _ (fun i => ?_) (fun i => ?_) (fun i j j1 j5 => ?_)
      · show wr _ 5 _ 5 = _
        rw [wr_s (by omega), wr_n (by omega), wr_n (by omega), hz i, e0]
      · show wr (wr (wr _ 1 _) 5 _) 5 _ 1 = _
        rw [wr_n (by omega), wr_n (by omega), wr_s (by omega)]
      · show wr (wr (wr _ 1 _) 5 _) 5 _ j = _
        rw [wr_n j5, wr_n j5, wr_n j1]
/-- an item of a row comes into RESULT -/
theorem sim_item {T : TX} {N : Nat} {g : List DD} (hv : GV T N g) {m r : ι → Nat → Int32} {M : Nat → Int32} {c k x : Nat} {Q : (ι → Nat → Int32) → (ι → Nat → Int32) → Nat → Prop} (hK : KOK T g M) (hk : k < g.length) (hr : (gx g k).2.2 = true) (hM : ∀ i j, 512 ≤ j → j < 4096 → m i j = M j) (hc : 532 + 10 * nrw g ≤ c) (hc2 : c < 4095) (hw : M c = wJ 1 (nI (4 * (530 + 5 * nrw (g.take k))) - nI (4 * c))) (hz : ∀ i, r i 0 = 0) (hs : ∀ i, r i 6 = nI x) (hx : x < 2 ^ 32)
    (h0 : ¬ x < dsz T (gx g k) → ∀ r' : ι → Nat → Int32, (∀ i, r' i 5 = nI 1) → (∀ i, r' i 1 = nI (4 * (c + 1))) → (∀ i j, ¬ j = 1 → ¬ j = 5 → r' i j = r i j) → Q m r' (531 + 5 * nrw g))
    (h1 : x < dsz T (gx g k) → ∀ r' : ι → Nat → Int32, (∀ i, r' i 6 = m i (fw T g k + x)) → (∀ i j, ¬ j = 1 → ¬ j = 5 → ¬ j = 6 → r' i j = r i j) → Q m r' (c + 1)) : FX 6 m r c Q := by
  have n1 := nrw_take hk hr
  have n2 := nrw_le g
  have n3 := hv.len
  have n4 := hv.2
  have n5 := (hv.1 _ (gx_mem hk)).2.2
  have n6 := wds_take (T := T) hk
  have n6 : fw T g k + dsz T (gx g k) ≤ wds T g := n6
  obtain ⟨K1, _⟩ := hK.2.2.2.2 k hk hr
  have gM : ∀ i j (w : Int32), 512 ≤ j → j < 4096 → M j = w → m i j = w := fun i j w j1 j2 h => (hM i j j1 j2).trans h
  refine sim_row K1 hK.2.2.2.1.1 n5 (by omega) (by omega) (by omega) (by omega) hM hc hc2 hw hz hs hx h0 (fun q r' g1 g2 g3 => ?_)
  refine FX.cons (n := 1) (fx_load (to := 6) (fr := 6) (q := fw T g k + x) (by omega) (fun i => gM i _ _ (by omega) (by omega) K1.2.2.2.1) (by omega) (by omega) ?_ ?_ (by omega) (fun i => ?_) ⟨rfl, rfl, rfl⟩) ?_ (by omega)
  · rcases i32_toInt (nI (4 * fw T g k)) with ⟨a1, a2⟩ | ⟨a1, a2, a3⟩ <;> rw [pk_tn (by omega)] at * <;> omega
  · rcases i32_toInt (nI (4 * fw T g k)) with ⟨a1, a2⟩ | ⟨a1, a2, a3⟩ <;> rw [pk_tn (by omega)] at * <;> omega
  · rw [g1 i, nI_add, show 4 * x + 4 * fw T g k = 4 * (fw T g k + x) by omega]
  · refine fx_jr (a := c + 1) (by omega) (fun i => gM i _ _ (by omega) (by omega) K1.2.2.2.2) (by omega) (fun i => ?_) (h1 q _ (fun i => ?_) (fun i j j1 j5 j6 => ?_))
    · show wr _ 6 _ 1 = _
      rw [wr_n (by omega), g2 i]
    · show wr _ 6 _ 6 = _
      rw [wr_s (by omega)]
    · show wr _ 6 _ j = _
      rw [wr_n j6, g3 i j j1 j5 j6]
theorem sim_place {T : TX} {N : Nat} {g : List DD} (hv : GV T N g) {m r : ι → Nat → Int32} {M : Nat → Int32} {c k x : Nat} {Q : (ι → Nat → Int32) → (ι → Nat → Int32) → Nat → Prop} (hK : KOK T g M) (hk : k < g.length) (hr : (gx g k).2.2 = true) (hM : ∀ i j, 512 ≤ j → j < 4096 → m i j = M j) (hc : 532 + 10 * nrw g ≤ c) (hc2 : c < 4095) (hw : M c = wJ 1 (nI (4 * (532 + 5 * nrw g + 5 * nrw (g.take k))) - nI (4 * c))) (hz : ∀ i, r i 0 = 0) (hs : ∀ i, r i 6 = nI x) (hx : x < 2 ^ 32)
    (h0 : ¬ x < dsz T (gx g k) → ∀ r' : ι → Nat → Int32, (∀ i, r' i 5 = nI 1) → (∀ i, r' i 1 = nI (4 * (c + 1))) → (∀ i j, ¬ j = 1 → ¬ j = 5 → r' i j = r i j) → Q m r' (531 + 5 * nrw g))
    (h1 : x < dsz T (gx g k) → ∀ r' : ι → Nat → Int32, (∀ i, r' i 6 = nI (4 * (fw T g k + x))) → (∀ i j, ¬ j = 1 → ¬ j = 5 → ¬ j = 6 → r' i j = r i j) → Q m r' (c + 1)) : FX 6 m r c Q := by
  have n1 := nrw_take hk hr
  have n2 := nrw_le g
  have n3 := hv.len
  have n4 := hv.2
  have n5 := (hv.1 _ (gx_mem hk)).2.2
  have n6 := wds_take (T := T) hk
  have n6 : fw T g k + dsz T (gx g k) ≤ wds T g := n6
  obtain ⟨_, K1⟩ := hK.2.2.2.2 k hk hr
  have gM : ∀ i j (w : Int32), 512 ≤ j → j < 4096 → M j = w → m i j = w := fun i j w j1 j2 h => (hM i j j1 j2).trans h
  refine sim_row K1 hK.2.2.2.1.1 n5 (by omega) (by omega) (by omega) (by omega) hM hc hc2 hw hz hs hx h0 (fun q r' g1 g2 g3 => ?_)
  refine FX.cons (n := 1) (fx_num (k := 0) (to := 6) (fr := 6) (x := nI (4 * fw T g k)) (by omega) (fun i => gM i _ _ (by omega) (by omega) K1.2.2.2.1) (by omega) (by omega) (by omega) ?_ ?_ (fun c => absurd c (by omega)) ⟨rfl, rfl, rfl⟩) ?_ (by omega)
  · rcases i32_toInt (nI (4 * fw T g k)) with ⟨a1, a2⟩ | ⟨a1, a2, a3⟩ <;> rw [pk_tn (by omega)] at * <;> omega
  · rcases i32_toInt (nI (4 * fw T g k)) with ⟨a1, a2⟩ | ⟨a1, a2, a3⟩ <;> rw [pk_tn (by omega)] at * <;> omega
  · refine fx_jr (a := c + 1) (by omega) (fun i => gM i _ _ (by omega) (by omega) K1.2.2.2.2) (by omega) (fun i => ?_) (h1 q _ (fun i => ?_) (fun i j j1 j5 j6 => ?_))
    · show wr _ 6 _ 1 = _
      rw [wr_n (by omega), g2 i]
    · show wr _ 6 _ 6 = _
      rw [wr_s (by omega), g1 i]
      show nI (4 * x) + nI (4 * fw T g k) = _
      rw [nI_add, show 4 * x + 4 * fw T g k = 4 * (fw T g k + x) by omega]
    · show wr _ 6 _ j = _
      rw [wr_n j6, g3 i j j1 j5 j6]
end CallsM
