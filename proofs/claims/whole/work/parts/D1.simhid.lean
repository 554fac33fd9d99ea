section SimH
variable {ι : Type}
theorem wr_0 {f : Nat → Int32} {v : Int32} : wr f 0 v = f := by
  unfold wr
  rw [if_pos rfl]
/-- mask orders -/
theorem and_m1 (x : Int32) : x &&& (-1) = x := by
  apply Int32.toBitVec_inj.mp
  show x.toBitVec &&& (-1 : Int32).toBitVec = _
  rw [show (-1 : Int32).toBitVec = BitVec.allOnes 32 by decide, BitVec.and_allOnes]
def mkA (v mk : Int32) : Int32 := if v = 0 then 0 else mk
theorem sim_mask {m r : ι → Nat → Int32} {M : Nat → Int32} {c h : Nat} {v mk : ι → Int32} {Q : (ι → Nat → Int32) → (ι → Nat → Int32) → Nat → Prop} (hw : M c = wS 3 0 (1200 + 4 * h) ∧ M (c + 1) = wI 3 6 6 (nI 1) ∧ M (c + 2) = wI 0 6 6 (-1) ∧ M (c + 3) = wR 0 7 3 3 6) (hM : ∀ i j, 512 ≤ j → j < 4096 → m i j = M j) (hc : 512 ≤ c) (hc2 : c + 4 ≤ 4095) (hz : ∀ i, r i 0 = 0) (h3 : ∀ i, r i 3 = mk i) (h6 : ∀ i, r i 6 = v i) (hh : h < 212)
    (hq : ∀ r' : ι → Nat → Int32, (∀ i, r' i 3 = mkA (v i) (mk i)) → (∀ i j, ¬ j = 3 → ¬ j = 6 → r' i j = r i j) → Q (fun i => upd (m i) (300 + h) (mk i)) r' (c + 4)) : FX 4 m r c Q := by
  obtain ⟨w1, w2, w3, w4⟩ := hw
  refine FX.cons (n := 3) (fx_sto (fr := 3) (base := 0) (d := 1200 + 4 * h) (q := 300 + h) (by omega) (fun i => (hM i c (by omega) (by omega)).trans w1) (by omega) (by omega) (by omega) (by omega) (fun i => ?_) ⟨rfl, rfl, rfl⟩) ?_ (by omega)
  · rw [hz i, show 1200 + 4 * h = 4 * (300 + h) by omega]
    exact Int32.zero_add _
  have M2 : ∀ i j, 512 ≤ j → j < 4096 → (upd (m i) (300 + h) (r i 3)) j = M j := fun i j k1 k2 => (pk_un (by omega)).trans (hM i j k1 k2)
  refine FX.cons (n := 2) (fx_num (k := 3) (to := 6) (fr := 6) (x := nI 1) (by omega) (fun i => (M2 i _ (by omega) (by omega)).trans w2) (by omega) (by omega) (by omega) (by decide) (by decide) (fun c => absurd c (by omega)) ⟨rfl, rfl, rfl⟩) ?_ (by omega)
  refine FX.cons (n := 1) (fx_num (k := 0) (to := 6) (fr := 6) (x := -1) (by omega) (fun i => (M2 i _ (by omega) (by omega)).trans w3) (by omega) (by omega) (by omega) (by decide) (by decide) (fun c => absurd c (by omega)) ⟨rfl, rfl, rfl⟩) ?_ (by omega)
  refine fx_reg (u := 0) (k := 7) (to := 3) (x := 3) (y := 6) (by omega) (fun i => (M2 i _ (by omega) (by omega)).trans w4) (Or.inl ⟨rfl, by omega⟩) (fun c => absurd c (by omega)) (by omega) (by omega) (by omega) ?_
  have em : (fun i => upd (m i) (300 + h) (r i 3)) = (fun i => upd (m i) (300 + h) (mk i)) := by
    funext i
    rw [h3 i]
  rw [em]
  refine hq _ (fun i => ?_) (fun i j j3 j6 => ?_)
  · show wr _ 3 _ 3 = _
    rw [wr_s (by omega), wr_n (j := 3) (by omega), wr_n (j := 3) (by omega), wr_s (by omega), wr_s (by omega), h3 i, h6 i]
    show mk i &&& (jv (nI 3) (v i) 1 + (-1)) = _
    rw [jv3]
    unfold mkA
    by_cases e : v i = 0
    · rw [if_pos e, if_pos e, show (1 : Int32) + (-1) = 0 by decide, Int32.and_zero]
    · rw [if_neg e, if_neg e, show (0 : Int32) + (-1) = -1 by decide, and_m1]
  · show wr (wr (wr _ 6 _) 6 _) 3 _ j = _
    rw [wr_n j3, wr_n j6, wr_n j6]
theorem sim_unmask {m r : ι → Nat → Int32} {M : Nat → Int32} {d h rg : Nat} {mk : ι → Int32} {Q : (ι → Nat → Int32) → (ι → Nat → Int32) → Nat → Prop} (hw : M d = wL rg 0 (nI (1200 + 4 * h))) (hM : ∀ i j, 512 ≤ j → j < 4096 → m i j = M j) (hc : 512 ≤ d) (hc2 : d < 4095) (hz : ∀ i, r i 0 = 0) (hmk : ∀ i, m i (300 + h) = mk i) (hh : h < 212) (hr : rg < 32) (hr0 : ¬ rg = 0)
    (hq : ∀ r' : ι → Nat → Int32, (∀ i, r' i rg = mk i) → (∀ i j, ¬ j = rg → r' i j = r i j) → Q m r' (d + 1)) : FX 1 m r d Q := by
  refine fx_load (to := rg) (fr := 0) (q := 300 + h) (by omega) (fun i => (hM i d hc (by omega)).trans hw) hr (by omega) ?_ ?_ (by omega) (fun i => ?_) (hq _ (fun i => ?_) (fun i j hj => wr_n hj))
  · rcases i32_toInt (nI (1200 + 4 * h)) with ⟨a1, a2⟩ | ⟨a1, a2, a3⟩ <;> rw [pk_tn (by omega)] at * <;> omega
  · rcases i32_toInt (nI (1200 + 4 * h)) with ⟨a1, a2⟩ | ⟨a1, a2, a3⟩ <;> rw [pk_tn (by omega)] at * <;> omega
  · rw [hz i, show 1200 + 4 * h = 4 * (300 + h) by omega]
    exact Int32.zero_add _
  · show wr _ rg _ rg = _
    rw [wr_s hr0, hmk i]
/-- a way that all go, or none -/
theorem sim_way {m r : ι → Nat → Int32} {M : Nat → Int32} {c : Nat} {v : Int32} {Q : (ι → Nat → Int32) → (ι → Nat → Int32) → Nat → Prop} (hw : M c = wB (nI 1) (nI 6) (nI 0) 8) (hM : ∀ i j, 512 ≤ j → j < 4096 → m i j = M j) (hc : 512 ≤ c) (hc2 : c < 4095) (hz : ∀ i, r i 0 = 0) (h6 : ∀ i, r i 6 = v) (hq : Q m r (if v = 0 then c + 1 else c + 2)) : FX 1 m r c Q := by
  have e8 : nI (4 * c) + 8 = nI (4 * (c + 2)) := by
    show nI (4 * c) + nI 8 = _
    rw [nI_add]
    congr 1
  by_cases q : v = 0
  · rw [if_pos q] at hq
    refine fx_br (t := false) (a := c + 2) (d := 8) (k := 1) (x := 6) (y := 0) (by omega) (fun i => (hM i c hc (by omega)).trans hw) (by omega) (by omega) (by omega) okB_3 e8 (fun i => ?_) (by rw [if_neg (by decide)]; exact hq)
    rw [if_neg (by decide), h6 i, hz i, q]
    exact ⟨fun _ => rfl, fun _ => rfl⟩
  · rw [if_neg q] at hq
    refine fx_br (t := true) (a := c + 2) (d := 8) (k := 1) (x := 6) (y := 0) (by omega) (fun i => (hM i c hc (by omega)).trans hw) (by omega) (by omega) (by omega) okB_3 e8 (fun i => ?_) (by rw [if_pos rfl]; exact hq)
    rw [if_neg (by decide), h6 i, hz i]
    exact ⟨fun e => absurd e q, fun e => absurd e (by decide)⟩
theorem sim_jmp {m r : ι → Nat → Int32} {M : Nat → Int32} {c a : Nat} {Q : (ι → Nat → Int32) → (ι → Nat → Int32) → Nat → Prop} (hw : M c = wJ 0 (nI (4 * a) - nI (4 * c))) (hM : ∀ i j, 512 ≤ j → j < 4096 → m i j = M j) (hc : 512 ≤ c) (hc2 : c < 4096) (ha : 512 ≤ a) (ha2 : a < 4096) (hq : Q m r a) : FX 1 m r c Q := by
  have e : nI (4 * c) + (nI (4 * a) - nI (4 * c)) = nI (4 * a) := by
    rw [Int32.add_comm, Int32.sub_add_cancel]
  refine fx_jal (lk := 0) (l0 := 0) hc2 (fun i => (hM i c hc hc2).trans hw) rfl (by omega) (okJ_d ha2 hc2 ha hc) e ?_
  have : (fun i => wr (r i) 0 (nI (4 * (c + 1)))) = r := by
    funext i
    exact wr_0
  rw [this]
  exact hq
/-- what has happened within an if with a secret EXPR -/
def HQ (b h : Nat) (m r : ι → Nat → Int32) (W : ι → Nat → Int32) (m' r' : ι → Nat → Int32) (p : Nat) : Prop := p = b ∧ (∀ i j, ((200 ≤ j ∧ j < 300 + h) ∨ 512 ≤ j) → m' i j = m i j) ∧ (∀ i k, k < 200 → m' i k = W i k) ∧ (∀ i j, (j = 0 ∨ j = 2 ∨ j = 3 ∨ j = 4) → r' i j = r i j)
noncomputable def mkE (mk : Int32) (E E' : Nat → Int32) : Nat → Int32 := if mk = 0 then E else E'
theorem mkE_0 {mk : Int32} {E E' : Nat → Int32} (h : mk = 0) : mkE mk E E' = E := if_pos h
theorem mkE_1 {mk : Int32} {E E' : Nat → Int32} (h : ¬ mk = 0) : mkE mk E E' = E' := if_neg h
def SHID (ι : Type) (T : TX) (N u : Nat) (g : List DD) (M B : Nat → Int32) (σ4 : SX4) (n : Nat) : Prop := ∀ (e : Tr) (md s h a b t t' bh : Nat) (m r E : ι → Nat → Int32) (mk : ι → Int32), tsz e < n → md ≤ 1 → WFS T N e md → XS T e md t t' bh → CB T σ4 e md s → js T g e md true = .ok () → CSX T g M B e md s true h a b → s + szS T e md ≤ u → h + bh ≤ 40 → PE T g E →
    (∀ i j, 512 ≤ j → j < 4096 → m i j = M j) → (∀ i k, k < 200 → m i k = E i k) → (∀ i, r i 0 = 0) → (∀ i, r i 3 = mk i) → (∀ i, mk i = 0 ∨ mk i = -1) → 532 + 10 * nrw g ≤ a → b ≤ 4090 →
    FX (6 * (b - a)) m r a (HQ b h m r (fun i => mkE (mk i) (E i) (hE T g e md (E i))))
/-- what an if does to the words, once its EXPR is known -/
noncomputable def hIf (T : TX) (g : List DD) (p : Nat) (y : Tr) (v : Int32) (E : Nat → Int32) : Nat → Int32 := if p % 8 = 4 then (if v = 0 then E else hE T g y 0 E) else hE T g y (if v = 0 then 3 else 2) E
theorem hE_2 {T : TX} {N : Nat} {g : List DD} {p : Nat} {x y : Tr} (E : Nat → Int32) : hE T g (.branch p x y) 2 E = hE T g x 0 E ∧ hE T g (.branch p x y) 3 E = hE T g y 0 E := by
  refine ⟨?_, ?_⟩
  · show (rs T g (.branch p x y) 2 true (E, 0, [], none)).1 = (rs T g x 0 true (E, 0, [], none)).1
    rw [rs, if_neg (by omega), if_neg (by omega), if_pos rfl]
  · show (rs T g (.branch p x y) 3 true (E, 0, [], none)).1 = (rs T g y 0 true (E, 0, [], none)).1
    rw [rs, if_neg (by omega), if_neg (by omega), if_neg (by omega)]
theorem PE_mk {T : TX} {N : Nat} {g : List DD} (hv : GV T N g) {E : ι → Nat → Int32} (hPE : PE T g E) (mk : ι → Int32) {e : Tr} (hw : WFS T N e 0) (hj : js T g e 0 true = .ok ()) : PE T g (fun i => mkE (mk i) (E i) (hE T g e 0 (E i))) := by
  intro w hw2 i j
  have k1 : ∀ i, mkE (mk i) (E i) (hE T g e 0 (E i)) w = E i w := by
    intro i
    by_cases q : mk i = 0
    · rw [mkE_0 q]
    · rw [mkE_1 q]
      exact (rs_hid hv e 0 (by omega) hw hj (E i)).2 w hw2
  show mkE _ _ _ w = mkE _ _ _ w
  rw [k1 i, k1 j]
  exact hPE w hw2 i j
theorem mkA_ok {v mk : Int32} (h : mk = 0 ∨ mk = -1) : mkA v mk = 0 ∨ mkA v mk = -1 := by
  unfold mkA
  split
  · exact Or.inl rfl
  · exact h
theorem mkA_x {v mk : Int32} : mkA v mk ^^^ mk = if v = 0 then mk else 0 := by
  unfold mkA
  split
  · exact Int32.zero_xor
  · exact Int32.xor_self
/-- an if with a secret EXPR, once its EXPR is known: both of its BLOCKs -/
theorem sim_sif {T : TX} {N u n : Nat} {g : List DD} {M B : Nat → Int32} {σ4 : SX4} (hv : GV T N g) (ih : SHID ι T N u g M B σ4 n) {p s h c b t t' bh : Nat} {y : Tr} {m r E : ι → Nat → Int32} {v mk : ι → Int32} (hn : tsz y < n) (hp : p % 8 = 4 ∨ p % 8 = 5) (hwf : WFS T N y (if p % 8 = 4 then 0 else 2)) (hxs : XS T y (if p % 8 = 4 then 0 else 2) t t' bh) (hcb : CB T σ4 y (if p % 8 = 4 then 0 else 2) s) (hj : js T g y (if p % 8 = 4 then 0 else 2) true = .ok ())
    (hc : M c = wS 3 0 (1200 + 4 * h) ∧ M (c + 1) = wI 3 6 6 (nI 1) ∧ M (c + 2) = wI 0 6 6 (-1) ∧ M (c + 3) = wR 0 7 3 3 6 ∧ ∃ d, CSX T g M B y (if p % 8 = 4 then 0 else 3) s true (h + 1) (c + 4) d ∧ M d = wL 3 0 (nI (1200 + 4 * h)) ∧ b = d + 1) (hu : s + szS T y (if p % 8 = 4 then 0 else 2) ≤ u) (hh : h + 1 + bh ≤ 40) (hPE : PE T g E)
    (hM : ∀ i j, 512 ≤ j → j < 4096 → m i j = M j) (hW : ∀ i k, k < 200 → m i k = E i k) (hz : ∀ i, r i 0 = 0) (h3 : ∀ i, r i 3 = mk i) (hmk : ∀ i, mk i = 0 ∨ mk i = -1) (h6 : ∀ i, r i 6 = v i) (ha : 532 + 10 * nrw g ≤ c) (hb : b ≤ 4090) :
    FX (6 * (b - c)) m r c (HQ b h m r (fun i => mkE (mk i) (E i) (hIf T g p y (v i) (E i)))) := by
  obtain ⟨w1, w2, w3, w4, d, cx, w5, ed⟩ := hc
  have l0 := CSX.le _ _ _ _ _ _ _ cx
  have m1ok : ∀ i, mkA (v i) (mk i) = 0 ∨ mkA (v i) (mk i) = -1 := fun i => mkA_ok (hmk i)
  refine FX.seq (a := 4) (b := 6 * (d - (c + 4)) + 3) (sim_mask (v := v) (mk := mk) (Q := fun m' r' p' => m' = (fun i => upd (m i) (300 + h) (mk i)) ∧ p' = c + 4 ∧ (∀ i, r' i 3 = mkA (v i) (mk i)) ∧ ∀ i j, ¬ j = 3 → ¬ j = 6 → r' i j = r i j) ⟨w1, w2, w3, w4⟩ hM (by omega) (by omega) hz h3 h6 (by omega) (fun r' y1 y2 => ⟨rfl, rfl, y1, y2⟩)) (fun m1 r1 p1 hQ => ?_) (by omega)
  obtain ⟨e1, e2, e3, e4⟩ := hQ
  rw [e2]
  have M1 : ∀ i j, 512 ≤ j → j < 4096 → m1 i j = M j := fun i j k1 k2 => by rw [e1]; exact (pk_un (by omega)).trans (hM i j k1 k2)
  have W1 : ∀ i k, k < 200 → m1 i k = E i k := fun i k hk => by rw [e1]; exact (pk_un (by omega)).trans (hW i k hk)
  have z1 : ∀ i, r1 i 0 = 0 := fun i => (e4 i 0 (by omega) (by omega)).trans (hz i)
  have f1 : ∀ i j, ((200 ≤ j ∧ j < 300 + h) ∨ 512 ≤ j) → m1 i j = m i j := fun i j hj => by rw [e1]; exact pk_un (by omega)
  have hk1 : ∀ i, m1 i (300 + h) = mk i := fun i => by rw [e1]; exact pk_us
  by_cases c4 : p % 8 = 4
  · rw [if_pos c4] at hwf hxs hcb hj cx hu
    refine FX.seq (a := 6 * (d - (c + 4))) (b := 1) (ih y 0 s (h + 1) (c + 4) d t t' bh m1 r1 E (fun i => mkA (v i) (mk i)) hn (by omega) hwf hxs hcb hj cx hu hh hPE M1 W1 z1 e3 m1ok (by omega) (by omega)) (fun m2 r2 p2 hQ => ?_) (by omega)
    obtain ⟨q1, q2, q3, q4⟩ := hQ
    rw [q1]
    refine sim_unmask (mk := mk) w5 (fun i j k1 k2 => (q2 i j (by omega)).trans (M1 i j k1 k2)) (by omega) (by omega) (fun i => (q4 i 0 (by omega)).trans (z1 i)) (fun i => (q2 i _ (by omega)).trans (hk1 i)) (by omega) (by omega) (by omega) (fun r3 y1 y2 => ?_)
    refine ⟨ed.symm, fun i j hj => (q2 i j (by omega)).trans (f1 i j hj), fun i k hk => ?_, fun i j hj => ?_⟩
    · rw [q3 i k hk]
      show mkE (mkA (v i) (mk i)) (E i) (hE T g y 0 (E i)) k = mkE (mk i) (E i) (hIf T g p y (v i) (E i)) k
      unfold hIf
      rw [if_pos c4]
      by_cases a0 : mk i = 0
      · rw [mkE_0 a0, mkE_0 (by unfold mkA; rw [a0]; split <;> rfl)]
      · rw [mkE_1 a0]
        unfold mkA
        by_cases b0 : v i = 0
        · rw [if_pos b0, if_pos b0, mkE_0 rfl]
        · rw [if_neg b0, if_neg b0, mkE_1 a0]
    · by_cases j3 : j = 3
      · rw [j3, y1 i, h3 i]
      · rw [y2 i j j3, q4 i j hj, e4 i j j3 (by omega)]
  · rw [if_neg c4] at hwf hxs hcb hj cx hu
    cases y with
    | leaf vv => exact absurd (show (2 : Nat) = 0 from hwf) (by omega)
    | branch p2 y1 y2 =>
      rw [tsz] at hn
      rw [WFS, if_neg (by omega), if_neg (by omega)] at hwf
      rw [XS, if_neg (by omega), if_neg (by omega)] at hxs
      rw [CB, if_neg (by omega), if_neg (by omega)] at hcb
      rw [CSX, if_neg (by omega), if_neg (by omega), if_neg (by omega)] at cx
      have eS2 : szS T (.branch p2 y1 y2) 2 = szS T y1 0 + szS T y2 0 + 1 := by rw [szS, if_neg (by omega), if_neg (by omega)]
      rw [eS2] at hu
      obtain ⟨t2, xa, xb⟩ := hxs
      obtain ⟨d0, d1, d2, d3, d4, d5⟩ := hcb
      obtain ⟨j1, j2⟩ := js_2 hj
      obtain ⟨dd, x1, x2, x3, x4⟩ := cx
      have l1 := CSX.le _ _ _ _ _ _ _ x1
      have l2 := CSX.le _ _ _ _ _ _ _ x4
      rw [show h + 1 - 1 = h by omega] at x2
      obtain ⟨h2a, h2b⟩ := (fun (E : Nat → Int32) => hE_2 (T := T) (N := N) (g := g) (p := p2) (x := y1) (y := y2) E) (fun _ => 0)
      refine FX.seq (a := 6 * (dd - (c + 4))) (b := 6 * (d - (dd + 2)) + 3) (ih y1 0 s (h + 1) (c + 4) dd t t2 bh m1 r1 E (fun i => mkA (v i) (mk i)) (by omega) (by omega) hwf.1 xa d1 j1 x1 (by omega) hh hPE M1 W1 z1 e3 m1ok (by omega) (by omega)) (fun m2 r2 p2' hQ => ?_) (by omega)
      obtain ⟨q1, q2, q3, q4⟩ := hQ
      rw [q1]
      have M2 : ∀ i j, 512 ≤ j → j < 4096 → m2 i j = M j := fun i j k1 k2 => (q2 i j (by omega)).trans (M1 i j k1 k2)
      have z2 : ∀ i, r2 i 0 = 0 := fun i => (q4 i 0 (by omega)).trans (z1 i)
      have hk2 : ∀ i, m2 i (300 + h) = mk i := fun i => (q2 i _ (by omega)).trans (hk1 i)
      refine FX.seq (a := 1) (b := 6 * (d - (dd + 2)) + 2) (sim_unmask (rg := 5) (mk := mk) (Q := fun m' r' p' => m' = m2 ∧ p' = dd + 1 ∧ (∀ i, r' i 5 = mk i) ∧ ∀ i j, ¬ j = 5 → r' i j = r2 i j) x2 M2 (by omega) (by omega) z2 hk2 (by omega) (by omega) (by omega) (fun r' u1 u2 => ⟨rfl, rfl, u1, u2⟩)) (fun m3 r3 p3 hQ => ?_) (by omega)
      obtain ⟨u1, u2, u3, u4⟩ := hQ
      rw [u1, u2]
      refine FX.cons (n := 6 * (d - (dd + 2)) + 1) (fx_reg (u := 0) (k := 4) (to := 3) (x := 3) (y := 5) (by omega) (fun i => (M2 i _ (by omega) (by omega)).trans x3) (Or.inl ⟨rfl, by omega⟩) (fun c => absurd c (by omega)) (by omega) (by omega) (by omega) ⟨rfl, rfl, rfl⟩) ?_ (by omega)
      have r33 : ∀ i, wr (r3 i) 3 (rv 0 4 (r3 i 3) (r3 i 5)) 3 = (if v i = 0 then mk i else 0) := by
        intro i
        rw [wr_s (by omega), u4 i 3 (by omega), q4 i 3 (by omega), e3 i, u3 i]
        exact mkA_x
      have m3ok : ∀ i, (if v i = 0 then mk i else 0) = 0 ∨ (if v i = 0 then mk i else 0) = -1 := by
        intro i
        split
        · exact hmk i
        · exact Or.inl rfl
      refine FX.seq (a := 6 * (d - (dd + 2))) (b := 1) (ih y2 0 (s + szS T y1 0 + 1) (h + 1) (dd + 2) d (t2 + 3) t' bh m2 _ (fun i => mkE (mkA (v i) (mk i)) (E i) (hE T g y1 0 (E i))) (fun i => if v i = 0 then mk i else 0) (by omega) (by omega) hwf.2 xb d5 j2 x4 (by omega) hh (PE_mk hv hPE _ hwf.1 j1) M2 q3 (fun i => ?_) r33 m3ok (by omega) (by omega)) (fun m4 r4 p4 hQ => ?_) (by omega)
      · exact (wr_n (by omega)).trans ((u4 i 0 (by omega)).trans (z2 i))
      · obtain ⟨s1, s2, s3, s4⟩ := hQ
        rw [s1]
        refine sim_unmask (mk := mk) w5 (fun i j k1 k2 => (s2 i j (by omega)).trans (M2 i j k1 k2)) (by omega) (by omega) (fun i => ?_) (fun i => (s2 i _ (by omega)).trans (hk2 i)) (by omega) (by omega) (by omega) (fun r5 y1' y2' => ?_)
        · exact (s4 i 0 (by omega)).trans ((wr_n (by omega)).trans ((u4 i 0 (by omega)).trans (z2 i)))
        · refine ⟨ed.symm, fun i j hj => (s2 i j (by omega)).trans ((q2 i j (by omega)).trans (f1 i j hj)), fun i k hk => ?_, fun i j hj => ?_⟩
          · rw [s3 i k hk]
            show mkE (if v i = 0 then mk i else 0) (mkE (mkA (v i) (mk i)) (E i) (hE T g y1 0 (E i))) (hE T g y2 0 (mkE (mkA (v i) (mk i)) (E i) (hE T g y1 0 (E i)))) k = mkE (mk i) (E i) (hIf T g p (.branch p2 y1 y2) (v i) (E i)) k
            unfold hIf
            rw [if_neg c4]
            by_cases a0 : mk i = 0
            · rw [mkE_0 a0, mkE_0 (by rw [a0]; split <;> rfl), mkE_0 (by unfold mkA; rw [a0]; split <;> rfl)]
            · rw [mkE_1 a0]
              unfold mkA
              by_cases b0 : v i = 0
              · rw [if_pos b0, if_pos b0, if_pos b0, mkE_1 a0, mkE_0 rfl, (hE_2 (N := N) (E i)).2]
              · rw [if_neg b0, if_neg b0, if_neg b0, mkE_0 rfl, mkE_1 a0, (hE_2 (N := N) (E i)).1]
          · by_cases j3 : j = 3
            · rw [j3, y1' i, h3 i]
            · exact (y2' i j j3).trans ((s4 i j hj).trans ((wr_n j3).trans ((u4 i j (by omega)).trans ((q4 i j hj).trans (e4 i j j3 (by omega))))))
theorem sim_hid {T : TX} {N u : Nat} {g : List DD} {M B : Nat → Int32} {σ4 : SX4} (i0 : ι) (hv : GV T N g) (hK : KOK T g M) (hu3 : u ≤ 3000) : ∀ (n : Nat), SHID ι T N u g M B σ4 n := by
  intro n
  induction n with
  | zero => intro e md s h a b t t' bh m r E mk hn; exact absurd hn (by omega)
  | succ n ih =>
    intro e md s h a b t t' bh m r E mk hn hmd hwf hxs hcb hj hcx hu hh hPE hM hW hz h3 hmk ha hb
    have hl := CSX.le _ _ _ _ _ _ _ hcx
    have rh0 := fun i => rs_hid hv e md (by omega) (by rw [show szM md = md by unfold szM; rw [if_neg (by omega)]]; exact hwf) (by rw [show szM md = md by unfold szM; rw [if_neg (by omega)]]; exact hj) (E i)
    cases e with
    | leaf x =>
      rw [CSX] at hcx
      refine FX.le (a := 0) (FX.nil ⟨hcx, fun _ _ _ => rfl, fun i k hk => ?_, fun _ _ _ => rfl⟩) (by omega)
      rw [hW i k hk]
      show E i k = mkE (mk i) (E i) (E i) k
      unfold mkE
      split <;> rfl
    | branch p x y =>
      have px := sz_pos T x
      have tx := tsz_pos x
      have ty := tsz_pos y
      rw [tsz] at hn
      by_cases m0 : md = 0
      · subst m0
        rw [WFS, if_pos rfl] at hwf
        rw [XS, if_pos rfl] at hxs
        rw [CB, if_pos rfl] at hcb
        rw [CSX, if_pos rfl] at hcx
        have eS : szS T (.branch p x y) 0 = szS T x 1 + szS T y 0 := by rw [szS, if_pos rfl]
        rw [eS] at hu
        obtain ⟨t1, x1, x2⟩ := hxs
        obtain ⟨j1, j2⟩ := js_0 hj
        obtain ⟨c, g1, g2⟩ := hcx
        have l1 := CSX.le _ _ _ _ _ _ _ g1
        have l2 := CSX.le _ _ _ _ _ _ _ g2
        refine FX.seq (b := 6 * (b - c)) (ih x 1 s h a c t t1 bh m r E mk (by omega) (by omega) hwf.1 x1 hcb.1 j1 g1 (by omega) hh hPE hM hW hz h3 hmk ha (by omega)) (fun m1 r1 p1 hQ => ?_) (by omega)
        obtain ⟨q1, q2, q3, q4⟩ := hQ
        rw [q1]
        have hE1 : PE T g (fun i => mkE (mk i) (E i) (hE T g x 1 (E i))) := by
          intro w hw i j
          have k1 : ∀ i, mkE (mk i) (E i) (hE T g x 1 (E i)) w = E i w := by
            intro i
            unfold mkE
            split
            · rfl
            · exact (rs_hid hv x 1 (by omega) hwf.1 j1 (E i)).2 w hw
          show mkE _ _ _ w = mkE _ _ _ w
          rw [k1 i, k1 j]
          exact hPE w hw i j
        refine FX.mono (ih y 0 (s + szS T x 1) h c b t1 t' bh m1 r1 _ mk (by omega) (by omega) hwf.2 x2 hcb.2 j2 g2 (by omega) hh hE1 (fun i j k1 k2 => (q2 i j (by omega)).trans (hM i j k1 k2)) q3 (fun i => (q4 i 0 (by omega)).trans (hz i)) (fun i => (q4 i 3 (by omega)).trans (h3 i)) hmk (by omega) hb) (fun m2 r2 p2 hQ => ?_)
        obtain ⟨v1, v2, v3, v4⟩ := hQ
        refine ⟨v1, fun i j hj => (v2 i j hj).trans (q2 i j hj), fun i k hk => ?_, fun i j hj => (v4 i j hj).trans (q4 i j hj)⟩
        rw [v3 i k hk]
        show mkE (mk i) (mkE (mk i) (E i) (hE T g x 1 (E i))) (hE T g y 0 (mkE (mk i) (E i) (hE T g x 1 (E i)))) k = mkE (mk i) (E i) (hE T g (.branch p x y) 0 (E i)) k
        by_cases e : mk i = 0
        · rw [mkE_0 e, mkE_0 e, mkE_0 e]
        · rw [mkE_1 e, mkE_1 e, mkE_1 e]
          have : hE T g (.branch p x y) 0 (E i) = hE T g y 0 (hE T g x 1 (E i)) := by
            show (rs T g (.branch p x y) 0 true (E i, 0, [], none)).1 = _
            rw [rs, if_pos rfl, (rs_hid hv x 1 (by omega) hwf.1 j1 (E i)).1]
            rfl
          rw [this]
      · have m1 : md = 1 := by omega
        subst m1
        rw [WFS, if_neg m0, if_pos rfl] at hwf
        rw [XS, if_neg m0, if_pos rfl] at hxs
        rw [CB, if_neg m0, if_pos rfl] at hcb
        rw [CSX, if_neg m0, if_pos rfl] at hcx
        have eS : szS T (.branch p x y) 1 = if p % 8 = 0 then sz T x + 2 else if p % 8 = 1 then sz T x + sz T y + 3 else if p % 8 = 2 then sz T x + 2 else if p % 8 = 3 then sz T x + szS T y 0 + 4 else if p % 8 = 4 then sz T x + szS T y 0 + 3 else sz T x + szS T y 2 + 3 := by rw [szS, if_neg m0, if_pos rfl]
        obtain ⟨_, hwf⟩ := hwf
        obtain ⟨_, hxs⟩ := hxs
        by_cases c0 : p % 8 = 0
        · rw [if_pos c0] at hwf hxs hcb hcx eS
          rw [eS] at hu
          obtain ⟨a1, c, g1, g2, g3⟩ := hcx
          rw [if_pos rfl] at g3
          have ea : a1 = a := by
            unfold STP at g1
            rw [if_pos rfl] at g1
            exact g1
          subst ea
          obtain ⟨w1, w2, w3, w4⟩ := g3
          have l2 := CX.le _ _ _ _ _ _ g2
          obtain ⟨k, sx, k1, k2, k3⟩ := js_put c0 hj
          obtain ⟨t1, t2, t3⟩ := jt_ok k1
          have en : nmk T g (p / 8) = k := by rw [nmk, t1]; rfl
          rw [en] at w1 w3
          have hkl := fdI_lt g _ k t1
          have n6 := wds_take (T := T) hkl
          have n6 : fw T g k + dsz T (gx g k) ≤ wds T g := n6
          have n7 := (hv.1 _ (gx_mem hkl)).2.1
          have n8 := hv.2
          refine FX.seq (b := 7) (sim_ex (u := u) (w := true) hv hPE hK x sx (s + sz T x) 0 h a1 c m r hwf.2 k2 g2 hcb.2.1 (by omega) hM hW hz ha (by omega) (fun _ => rfl) (fun _ => by have := nd_11 (T := T) (e := x) (by omega); omega) (nd_11 (by omega)) (by have : rh x ≤ 112 := hxs.2.1; omega)) (fun m1 r1 p1 hQ => ?_) (by omega)
          obtain ⟨fr1, ok | er⟩ := hQ
          · obtain ⟨v, e1, e2, e3⟩ := ok
            rw [e3]
            have M1 : ∀ i j, 512 ≤ j → j < 4096 → m1 i j = M j := fun i j k1 k2 => (fr1.1 i j (by omega)).trans (hM i j k1 k2)
            have z1 : ∀ i, r1 i 0 = 0 := fun i => (fr1.2 i 0 (by omega)).trans (hz i)
            have d4 : ∀ (b : Nat), b ≤ 200 → -2048 ≤ (nI (4 * b)).toInt ∧ (nI (4 * b)).toInt < 2048 := by
              intro b hb
              rcases i32_toInt (nI (4 * b)) with ⟨a1, a2⟩ | ⟨a1, a2, a3⟩ <;> rw [pk_tn (by omega)] at * <;> omega
            refine FX.cons (n := 6) (fx_load (to := 7) (fr := 0) (q := fw T g k) (by omega) (fun i => (M1 i c (by omega) (by omega)).trans w1) (by omega) (by omega) (d4 _ (by omega)).1 (d4 _ (by omega)).2 (by omega) (fun i => ?_) ⟨rfl, rfl, rfl⟩) ?_ (by omega)
            · rw [z1 i]
              exact Int32.zero_add _
            refine FX.seq (a := 5) (b := 1) (sim_keep hK.2.1 (c := c + 1) (Q := fun m' r' p' => m' = m1 ∧ p' = c + 2 ∧ (∀ i, r' i 6 = if mk i = 0 then m1 i (fw T g k) else v i) ∧ ∀ i j, (j = 0 ∨ j = 2 ∨ j = 3 ∨ j = 4) → r' i j = r1 i j) M1 (by omega) (by omega) w2 (fun i => ?_) (fun r' y1 y2 => ?_)) (fun m2 r2 p2 hQ => ?_) (by omega)
            · rw [wr_n (by omega), fr1.2 i 3 (by omega), h3 i]
              exact hmk i
            · refine ⟨rfl, rfl, fun i => ?_, fun i j hj => ?_⟩
              · rw [y1 i, wr_n (by omega), wr_s (by omega), wr_n (by omega), fr1.2 i 3 (by omega), h3 i, e2 i]
              · rw [y2 i j (by omega) (by omega), wr_n (by omega)]
            · obtain ⟨y1, y2, y3, y4⟩ := hQ
              rw [y1, y2]
              have e02 : ∀ i, r2 i 0 + nI (4 * fw T g k) = nI (4 * fw T g k) := by
                intro i
                rw [y4 i 0 (by omega), z1 i]
                exact Int32.zero_add _
              refine fx_sto (fr := 6) (base := 0) (d := 4 * fw T g k) (q := fw T g k) (by omega) (fun i => (M1 i _ (by omega) (by omega)).trans w3) (by omega) (by omega) (by omega) (by omega) e02 ?_
              refine ⟨by omega, fun i j hj => ?_, fun i kk hkk => ?_, fun i j hj => ?_⟩
              · exact (pk_un (by omega)).trans (fr1.1 i j (by omega))
              · show upd (m1 i) (fw T g k) (r2 i 6) kk = _
                have ehE : hE T g (.branch p x y) 1 (E i) = upd (E i) (fw T g k) (v i) := by
                  show (rs T g (.branch p x y) 1 true (E i, 0, [], none)).1 = _
                  rw [rs, if_neg m0, if_pos rfl]
                  show (if p % 8 = 0 then (match ev T g (E i) x with | .error z => _ | .ok v => (upd (E i) (fw T g (nmk T g (p / 8))) v, (0, [], none))) else _ : SR).1 = _
                  rw [if_pos c0, e1 i, en]
                rw [y3 i]
                show _ = mkE (mk i) (E i) (hE T g (.branch p x y) 1 (E i)) kk
                by_cases e : mk i = 0
                · rw [if_pos e, mkE_0 e]
                  by_cases ek : kk = fw T g k
                  · rw [ek]
                    exact pk_us.trans ((fr1.1 i _ (by omega)).trans (hW i _ (by omega)))
                  · exact (pk_un ek).trans ((fr1.1 i _ (by omega)).trans (hW i _ hkk))
                · rw [if_neg e, mkE_1 e, ehE]
                  by_cases ek : kk = fw T g k
                  · rw [ek, pk_us, pk_us]
                  · rw [pk_un ek, pk_un ek]
                    exact (fr1.1 i _ (by omega)).trans (hW i _ hkk)
              · rw [y4 i j hj, fr1.2 i j (by omega)]
          · obtain ⟨tt, e1, _⟩ := er
            obtain ⟨v, hv1⟩ := ev_hid hv (E i0) k2
            have := e1 i0
            rw [hv1] at this
            cases this
        · rw [if_neg c0] at hwf hxs hcb hcx eS
          by_cases c1 : p % 8 = 1
          · obtain ⟨k, sx, h1, _⟩ := js_putin c1 hj
            obtain ⟨t1, t2, t3⟩ := jt_ok h1
            rw [t2] at t3
            exact absurd rfl t3
          · rw [if_neg c1] at hwf hxs hcb hcx eS
            by_cases c2 : p % 8 = 2
            · obtain ⟨h1, _⟩ := js_out c2 hj
              cases h1
            · rw [if_neg c2] at hwf hxs hcb hcx eS
              by_cases c3 : p % 8 = 3
              · obtain ⟨h1, _⟩ := js_while c3 hj
                cases h1
              · rw [if_neg c3] at hwf hxs hcb hcx eS
                have hp45 : p % 8 = 4 ∨ p % 8 = 5 := by
                  by_cases c4 : p % 8 = 4
                  · exact Or.inl c4
                  · rw [if_neg c4] at hwf
                    exact Or.inr hwf.1
                have hwx : WF T N x := by
                  by_cases c4 : p % 8 = 4
                  · rw [if_pos c4] at hwf
                    exact hwf.2.1
                  · rw [if_neg c4] at hwf
                    exact hwf.2.2.1
                have hwy : WFS T N y (if p % 8 = 4 then 0 else 2) := by
                  by_cases c4 : p % 8 = 4
                  · rw [if_pos c4] at hwf ⊢
                    exact hwf.2.2
                  · rw [if_neg c4] at hwf ⊢
                    exact hwf.2.2.2
                obtain ⟨tq, xq, xq0, xqy⟩ : ∃ t1, XE T x (p / 8 + 2) t1 hX ∧ 0 < bh ∧ XS T y (if p % 8 = 4 then 0 else 2) (t1 + 2) (t' - 1) (bh - 1) := by
                  by_cases c4 : p % 8 = 4
                  · rw [if_pos c4] at hxs ⊢
                    exact hxs
                  · rw [if_neg c4] at hxs ⊢
                    exact hxs
                have hcsx : CS T σ4 x (s + sz T x) := by
                  by_cases c4 : p % 8 = 4
                  · rw [if_pos c4] at hcb
                    exact hcb.2.1
                  · rw [if_neg c4] at hcb
                    exact hcb.2.1
                have hcby : CB T σ4 y (if p % 8 = 4 then 0 else 2) (s + sz T x + 2) := by
                  by_cases c4 : p % 8 = 4
                  · rw [if_pos c4] at hcb ⊢
                    exact hcb.2.2.2.1
                  · rw [if_neg c4] at hcb ⊢
                    exact hcb.2.2.2.1
                obtain ⟨sx, je1, js1⟩ : ∃ sx, je T g true x = .ok sx ∧ js T g y (if p % 8 = 4 then 0 else 2) true = .ok () := by
                  by_cases c4 : p % 8 = 4
                  · rw [if_pos c4]
                    obtain ⟨sx, k1, k2⟩ := js_if c4 hj
                    exact ⟨sx, k1, k2⟩
                  · rw [if_neg c4] at hwf ⊢
                    obtain ⟨sx, k1, k2⟩ := js_ife hwf.1 hj
                    exact ⟨sx, k1, k2⟩
                have eS' : szS T (.branch p x y) 1 = sz T x + szS T y (if p % 8 = 4 then 0 else 2) + 3 := by
                  rw [eS]
                  split <;> rfl
                rw [eS'] at hu
                have ehE : ∀ (i : ι) (v : Int32), ev T g (E i) x = .ok v → hE T g (.branch p x y) 1 (E i) = hIf T g p y v (E i) := by
                  intro i v hv1
                  show (rs T g (.branch p x y) 1 true (E i, 0, [], none)).1 = _
                  rw [rs, if_neg m0, if_pos rfl]
                  show (if p % 8 = 0 then _ else if p % 8 = 1 then _ else if p % 8 = 2 then _ else if p % 8 = 3 then _ else (match ev T g (E i) x with | .error z => _ | .ok v => if p % 8 = 4 then (if v = 0 then (E i, 0, [], none) else rs T g y 0 true (E i, 0, [], none)) else rs T g y (if v = 0 then 3 else 2) true (E i, 0, [], none)) : SR).1 = _
                  rw [if_neg c0, if_neg c1, if_neg c2, if_neg c3, hv1]
                  unfold hIf
                  by_cases c4 : p % 8 = 4
                  · rw [if_pos c4]
                    by_cases v0 : v = 0
                    · rw [if_pos v0]
                      show (if p % 8 = 4 then (if v = 0 then (E i, 0, [], none) else _) else _ : SR).1 = _
                      rw [if_pos c4, if_pos v0]
                    · rw [if_neg v0]
                      show (if p % 8 = 4 then (if v = 0 then _ else rs T g y 0 true (E i, 0, [], none)) else _ : SR).1 = _
                      rw [if_pos c4, if_neg v0]
                      rfl
                  · rw [if_neg c4]
                    show (if p % 8 = 4 then _ else rs T g y (if v = 0 then 3 else 2) true (E i, 0, [], none) : SR).1 = _
                    rw [if_neg c4]
                    rfl
                obtain ⟨a1, c, g1, g2, g3⟩ := hcx
                have ea : a1 = a := by
                  unfold STP at g1
                  rw [if_pos rfl] at g1
                  exact g1
                subst ea
                have l2 := CX.le _ _ _ _ _ _ g2
                have l3 : c ≤ b := by
                  split at g3
                  · obtain ⟨_, _, _, _, d, k5, _, k7⟩ := g3
                    have := CSX.le _ _ _ _ _ _ _ k5
                    omega
                  · have := CSX.le _ _ _ _ _ _ _ g3.2.2
                    omega
                refine FX.seq (b := 6 * (b - c)) (sim_ex (u := u) (w := true) hv hPE hK x sx (s + sz T x) 0 h a1 c m r hwx je1 g2 hcsx (by omega) hM hW hz ha (by omega) (fun _ => rfl) (fun _ => by have := nd_11 (T := T) (e := x) (by omega); omega) (nd_11 (by omega)) (by have : rh x ≤ 112 := xq.2.1; omega)) (fun m1 r1 p1 hQ => ?_) (by omega)
                obtain ⟨fr1, ok | er⟩ := hQ
                · obtain ⟨v, e1, e2, e3⟩ := ok
                  rw [e3]
                  have M1 : ∀ i j, 512 ≤ j → j < 4096 → m1 i j = M j := fun i j k1 k2 => (fr1.1 i j (by omega)).trans (hM i j k1 k2)
                  have W1 : ∀ i k, k < 200 → m1 i k = E i k := fun i k hk => (fr1.1 i k (by omega)).trans (hW i k hk)
                  have z1 : ∀ i, r1 i 0 = 0 := fun i => (fr1.2 i 0 (by omega)).trans (hz i)
                  have t1 : ∀ i, r1 i 3 = mk i := fun i => (fr1.2 i 3 (by omega)).trans (h3 i)
                  have fin : ∀ m2 r2 p2, HQ b h m1 r1 (fun i => mkE (mk i) (E i) (hIf T g p y (v i) (E i))) m2 r2 p2 → HQ b h m r (fun i => mkE (mk i) (E i) (hE T g (.branch p x y) 1 (E i))) m2 r2 p2 := by
                    intro m2 r2 p2 hQ
                    obtain ⟨k1, k2, k3, k4⟩ := hQ
                    refine ⟨k1, fun i j hj => (k2 i j hj).trans (fr1.1 i j (by omega)), fun i k hk => ?_, fun i j hj => (k4 i j hj).trans (fr1.2 i j (by omega))⟩
                    rw [k3 i k hk]
                    show mkE (mk i) (E i) (hIf T g p y (v i) (E i)) k = mkE (mk i) (E i) (hE T g (.branch p x y) 1 (E i)) k
                    rw [ehE i (v i) (e1 i)]
                  by_cases he : esc T g x = true
                  · rw [if_pos he] at g3
                    exact FX.mono (sim_sif hv ih (p := p) (y := y) (v := v) (by omega) hp45 hwy xqy hcby js1 g3 (by omega) (by omega) hPE M1 W1 z1 t1 hmk e2 (by omega) hb) fin
                  · rw [if_neg he] at g3
                    obtain ⟨w1, w2, w3⟩ := g3
                    have hs : sx = false := by
                      rw [je_esc x sx je1]
                      cases hq : esc T g x with
                      | true => exact absurd hq he
                      | false => rfl
                    rw [hs] at je1
                    obtain ⟨vz, hvz⟩ := ev_com hv hPE je1 e1
                    have l4 := CSX.le _ _ _ _ _ _ _ w3
                    have e2' : ∀ i, r1 i 6 = vz := fun i => (e2 i).trans (hvz i)
                    have hvz' : ∀ i, hIf T g p y (v i) (E i) = hIf T g p y vz (E i) := fun i => by rw [hvz i]
                    refine FX.seq (a := 1) (b := 6 * (b - (c + 2)) + 1) (sim_way (v := vz) (Q := fun m' r' p' => m' = m1 ∧ r' = r1 ∧ p' = if vz = 0 then c + 1 else c + 2) w1 M1 (by omega) (by omega) z1 e2' ⟨rfl, rfl, rfl⟩) (fun m2 r2 p2 hQ => ?_) (by omega)
                    obtain ⟨q1, q2, q3⟩ := hQ
                    rw [q1, q2, q3]
                    by_cases c4 : p % 8 = 4
                    · rw [if_pos c4] at w3 hwy xqy hcby js1 hu
                      by_cases v0 : vz = 0
                      · rw [if_pos v0]
                        refine FX.le (a := 1) (sim_jmp (a := b) (w2 c4) M1 (by omega) (by omega) (by omega) (by omega) (fin _ _ _ ⟨rfl, fun _ _ _ => rfl, fun i k hk => ?_, fun _ _ _ => rfl⟩)) (by omega)
                        rw [W1 i k hk]
                        show E i k = mkE (mk i) (E i) (hIf T g p y (v i) (E i)) k
                        rw [hvz' i]
                        unfold hIf
                        rw [if_pos c4, if_pos v0]
                        by_cases a0 : mk i = 0
                        · rw [mkE_0 a0]
                        · rw [mkE_1 a0]
                      · rw [if_neg v0]
                        refine FX.le (FX.mono (ih y 0 (s + sz T x + 2) h (c + 2) b (tq + 2) (t' - 1) (bh - 1) m1 r1 E mk (by omega) (by omega) hwy xqy hcby js1 w3 (by omega) (by omega) hPE M1 W1 z1 t1 hmk (by omega) hb) (fun m2 r2 p2 hQ => fin m2 r2 p2 ?_)) (by omega)
                        have : (fun i => mkE (mk i) (E i) (hIf T g p y (v i) (E i))) = (fun i => mkE (mk i) (E i) (hE T g y 0 (E i))) := by
                          funext i
                          rw [hvz' i]
                          unfold hIf
                          rw [if_pos c4, if_neg v0]
                        rw [this]
                        exact hQ
                    · rw [if_neg c4] at w3 hwy xqy hcby js1 hu
                      cases y with
                      | leaf vv => exact absurd (show (2 : Nat) = 0 from hwy) (by omega)
                      | branch pz y1 y2 =>
                        rw [tsz] at hn
                        rw [WFS, if_neg (by omega), if_neg (by omega)] at hwy
                        rw [XS, if_neg (by omega), if_neg (by omega)] at xqy
                        rw [CB, if_neg (by omega), if_neg (by omega)] at hcby
                        rw [CSX, if_neg (by omega), if_neg (by omega), if_pos rfl] at w3
                        have eS2 : szS T (.branch pz y1 y2) 2 = szS T y1 0 + szS T y2 0 + 1 := by rw [szS, if_neg (by omega), if_neg (by omega)]
                        rw [eS2] at hu
                        obtain ⟨t2, xa, xb⟩ := xqy
                        obtain ⟨d0, d1, d2, d3, d4, d5⟩ := hcby
                        obtain ⟨js2, js3⟩ := js_2 js1
                        obtain ⟨dd, x0, x1, x2, x3⟩ := w3
                        rw [show c + 2 - 1 = c + 1 by omega] at x0
                        have l5 := CSX.le _ _ _ _ _ _ _ x1
                        have l6 := CSX.le _ _ _ _ _ _ _ x3
                        by_cases v0 : vz = 0
                        · rw [if_pos v0]
                          refine FX.seq (a := 1) (b := 6 * (b - (c + 2))) (sim_jmp (a := dd + 1) (Q := fun m' r' p' => m' = m1 ∧ r' = r1 ∧ p' = dd + 1) x0 M1 (by omega) (by omega) (by omega) (by omega) ⟨rfl, rfl, rfl⟩) (fun m2 r2 p2' hQ => ?_) (by omega)
                          obtain ⟨q1, q2, q3⟩ := hQ
                          rw [q1, q2, q3]
                          refine FX.le (FX.mono (ih y2 0 (s + sz T x + 2 + szS T y1 0 + 1) h (dd + 1) b (t2 + 3) (t' - 1) (bh - 1) m1 r1 E mk (by omega) (by omega) hwy.2 xb d5 js3 x3 (by omega) (by omega) hPE M1 W1 z1 t1 hmk (by omega) hb) (fun m2 r2 p2 hQ => fin m2 r2 p2 ?_)) (by omega)
                          have : (fun i => mkE (mk i) (E i) (hIf T g p (.branch pz y1 y2) (v i) (E i))) = (fun i => mkE (mk i) (E i) (hE T g y2 0 (E i))) := by
                            funext i
                            rw [hvz' i]
                            unfold hIf
                            rw [if_neg c4, if_pos v0, (hE_2 (N := N) (E i)).2]
                          rw [this]
                          exact hQ
                        · rw [if_neg v0]
                          refine FX.seq (a := 6 * (dd - (c + 2))) (b := 1) (ih y1 0 (s + sz T x + 2) h (c + 2) dd (tq + 2) t2 (bh - 1) m1 r1 E mk (by omega) (by omega) hwy.1 xa d1 js2 x1 (by omega) (by omega) hPE M1 W1 z1 t1 hmk (by omega) (by omega)) (fun m2 r2 p2 hQ => ?_) (by omega)
                          obtain ⟨q1, q2, q3, q4⟩ := hQ
                          rw [q1]
                          refine sim_jmp (a := b) x2 (fun i j k1 k2 => (q2 i j (by omega)).trans (M1 i j k1 k2)) (by omega) (by omega) (by omega) (by omega) (fin _ _ _ ⟨rfl, q2, fun i k hk => ?_, q4⟩)
                          rw [q3 i k hk]
                          show mkE (mk i) (E i) (hE T g y1 0 (E i)) k = mkE (mk i) (E i) (hIf T g p (.branch pz y1 y2) (v i) (E i)) k
                          rw [hvz' i]
                          unfold hIf
                          rw [if_neg c4, if_neg v0, (hE_2 (N := N) (E i)).1]
                · obtain ⟨tt, e1, _⟩ := er
                  obtain ⟨v, hv1⟩ := ev_hid hv (E i0) je1
                  have := e1 i0
                  rw [hv1] at this
                  cases this
end SimH
