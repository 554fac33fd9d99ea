section Tape
/-- the tapes of both hold the same m bytes -/
def TB (f g : Nat → Int32) (m : Nat) : Prop := ∀ k, k < m → ∃ b : Nat, b < 256 ∧ f k &&& 255 = nI b ∧ g k = nI b
def cby (x : Int32) (s : Nat) : Int32 := vp_nar .byte ((x >>> (nI s &&& 31))).toInt8.toInt32
def mby (x : Int32) (s : Nat) : Int32 := (x >>> (nI s &&& 31)) &&& 255
theorem nar_byte (z : Int32) : (vp_nar .byte z.toInt8.toInt32) &&& 255 = z &&& 255 := by
  have e1 : vp_nar .byte z.toInt8.toInt32 = z.toInt8.toInt32 := by
    have := pk_nb z
    unfold vp_nar
    simp only [this]
  rw [e1, pk_and _ (m := 255) 8 (by decide), pk_and z (m := 255) 8 (by decide)]
  congr 1
  have e2 : z.toInt8.toInt32.toBitVec = (z.toBitVec.signExtend 8).signExtend 32 := rfl
  rw [e2, BitVec.toNat_signExtend, BitVec.signExtend_eq_setWidth_of_le _ (by decide)]
  have := z.toBitVec.isLt
  simp only [BitVec.toNat_setWidth]
  split <;> omega
theorem by_ok (x : Int32) (s : Nat) : ∃ b : Nat, b < 256 ∧ cby x s &&& 255 = nI b ∧ mby x s = nI b := by
  obtain ⟨b, hb, e⟩ := pk_andE (x >>> (nI s &&& 31)) (m := 255) 8 (by decide)
  refine ⟨b, hb, ?_, e⟩
  unfold cby
  rw [nar_byte, e]
theorem TB.add {f g : Nat → Int32} {m : Nat} (h : TB f g m) (x : Int32) (s : Nat) : TB (upd f m (cby x s)) (upd g m (mby x s)) (m + 1) := by
  intro k hk
  by_cases e : k = m
  · rw [e, pk_us, pk_us]
    exact by_ok x s
  · rw [pk_un e, pk_un e]
    exact h k (by omega)
theorem c_add1 {f : Nat → Int32} {u n s : Nat} {x : Int32} {post : SX8 → Prop} (hu : u < 3000) (hs : s < 32) (h : wp_X8_add_3 post n (upd f u (cby x s), nI (u + 1)) x (nI s + (-8))) : wp_X8_add_3 post (n + 1) (f, nI u) x (nI s) := by
  refine ⟨fun c => absurd c (nI_pos (by omega)), fun _ => ⟨fun c => absurd c (nI_pos (by omega)), fun _ => ⟨fun c => absurd c (nI_ge (b := 3000) hu (by omega)), fun _ => ⟨in_k hu (by omega), fun y1 e1 y2 e2 => ?_⟩⟩⟩⟩
  have e1 : y1 = upd f u (cby x s) := by
    rw [e1, nI_clamp (by omega)]
    rfl
  have e2 : y2 = nI (u + 1) := by
    rw [e2]
    exact nI_1 u
  rw [e1, e2]
  exact h
def add4 (b : Int32 → Nat → Int32) (f : Nat → Int32) (u : Nat) (x : Int32) : Nat → Int32 := upd (upd (upd (upd f u (b x 24)) (u + 1) (b x 16)) (u + 2) (b x 8)) (u + 3) (b x 0)
theorem TB.add4 {f g : Nat → Int32} {m : Nat} (h : TB f g m) (x : Int32) : TB (add4 cby f m x) (add4 mby g m x) (m + 4) := (((h.add x 24).add x 16).add x 8).add x 0
theorem c_add {f : Nat → Int32} {u : Nat} {x : Int32} {post : SX8 → Prop} (hu : u + 4 ≤ 3000) (h : post (add4 cby f u x, nI (u + 4))) : wp_X8_add (f, nI u) x post := by
  refine ⟨5, ?_⟩
  refine c_add1 (s := 24) (by omega) (by omega) ?_
  refine c_add1 (s := 16) (by omega) (by omega) ?_
  refine c_add1 (s := 8) (by omega) (by omega) ?_
  refine c_add1 (s := 0) (by omega) (by omega) ?_
  have neg : nI 0 + (-8) < 0 := by decide
  exact ⟨fun _ => h, fun c => absurd neg c⟩
def selW (a1 a2 a3 a4 a5 : Int32) (k : Nat) : Int32 := if k < 4 then a1 else if k < 8 then a2 else if k < 12 then a3 else if k < 16 then a4 else a5
theorem m_feed1 {τ : SX12} {u n k s : Nat} {a1 a2 a3 a4 a5 : Int32} {post : Int32 → SX12 → Prop} (hu : u < 3000) (hf : τ.1.1.1.1.2.1 = nI u) (hk : k < 20) (hs : s = 24 - 8 * (k % 4)) (h : wp_X12_feed_18 post n ((((((upd τ.1.1.1.1.1 u (mby (selW a1 a2 a3 a4 a5 k) s)), ((nI (u + 1)), τ.1.1.1.1.2.2)), τ.1.1.1.2), τ.1.1.2), τ.1.2), τ.2) a1 a2 a3 a4 a5 (nI (k + 1))) : wp_X12_feed_18 post (n + 1) τ a1 a2 a3 a4 a5 (nI k) := by
  have le : ∀ c : Nat, c < 100 → (nI c ≤ nI k ↔ c ≤ k) := fun c hc => nI_leI (by omega) (by omega)
  have key : wp_X12_feed_71 (fun a => wp_X12_feed_18 post n a.1 a.2.1 a.2.2.1 a.2.2.2.1 a.2.2.2.2.1 a.2.2.2.2.2.1 a.2.2.2.2.2.2) post τ a1 a2 a3 a4 a5 (nI k) (selW a1 a2 a3 a4 a5 k) := by
    unfold wp_X12_feed_71
    rw [hf]
    refine ⟨in_k hu (by omega), fun y1 e1 y2 e2 => ?_⟩
    have e3 : nI k - nI k / 4 * 4 = nI (k % 4) := pk_rem (d := 4) (by omega) (by omega) (by omega)
    have e4 : (24 : Int32) - 8 * nI (k % 4) = nI s := by
      rw [hs]
      have : (8 : Int32) * nI (k % 4) = nI (8 * (k % 4)) := pk_mul 8 (k % 4)
      rw [this]
      exact pk_sub (a := 24) (by omega)
    have e1 : y1 = upd τ.1.1.1.1.1 u (mby (selW a1 a2 a3 a4 a5 k) s) := by
      rw [e1, nI_clamp (by omega), e3, e4]
      rfl
    have e2 : y2 = nI (u + 1) := by
      rw [e2]
      exact nI_1 u
    rw [e1, e2]
    rw [← nI_1 k] at h
    exact h
  refine ⟨fun c => absurd c (nI_ge (b := 20) hk (by omega)), fun _ => ⟨fun c4 => ⟨fun c8 => ⟨fun c12 => ⟨fun c16 => ?_, fun c16 => ?_⟩, fun c12 => ?_⟩, fun c8 => ?_⟩, fun c4 => ?_⟩⟩
  · have c16 := (le 16 (by omega)).mp c16
    have e : selW a1 a2 a3 a4 a5 k = a5 := by unfold selW; rw [if_neg (by omega), if_neg (by omega), if_neg (by omega), if_neg (by omega)]
    rw [e] at key
    exact key
  · have c12 := (le 12 (by omega)).mp c12
    have c16 : ¬ 16 ≤ k := fun q => c16 ((le 16 (by omega)).mpr q)
    have e : selW a1 a2 a3 a4 a5 k = a4 := by unfold selW; rw [if_neg (by omega), if_neg (by omega), if_neg (by omega), if_pos (by omega)]
    rw [e] at key
    exact key
  · have c8 := (le 8 (by omega)).mp c8
    have c12 : ¬ 12 ≤ k := fun q => c12 ((le 12 (by omega)).mpr q)
    have e : selW a1 a2 a3 a4 a5 k = a3 := by unfold selW; rw [if_neg (by omega), if_neg (by omega), if_pos (by omega)]
    rw [e] at key
    exact key
  · have c4 := (le 4 (by omega)).mp c4
    have c8 : ¬ 8 ≤ k := fun q => c8 ((le 8 (by omega)).mpr q)
    have e : selW a1 a2 a3 a4 a5 k = a2 := by unfold selW; rw [if_neg (by omega), if_pos (by omega)]
    rw [e] at key
    exact key
  · have c4 : ¬ 4 ≤ k := fun q => c4 ((le 4 (by omega)).mpr q)
    have e : selW a1 a2 a3 a4 a5 k = a1 := by unfold selW; rw [if_pos (by omega)]
    rw [e] at key
    exact key
theorem m_feed4 {τ : SX12} {u n q : Nat} {a1 a2 a3 a4 a5 x : Int32} {post : Int32 → SX12 → Prop} (hu : u + 4 ≤ 3000) (hf : τ.1.1.1.1.2.1 = nI u) (hq : q < 5) (hx : ∀ r, r < 4 → selW a1 a2 a3 a4 a5 (4 * q + r) = x) (h : wp_X12_feed_18 post n ((((((add4 mby τ.1.1.1.1.1 u x), ((nI (u + 4)), τ.1.1.1.1.2.2)), τ.1.1.1.2), τ.1.1.2), τ.1.2), τ.2) a1 a2 a3 a4 a5 (nI (4 * q + 4))) : wp_X12_feed_18 post (n + 4) τ a1 a2 a3 a4 a5 (nI (4 * q)) := by
  refine m_feed1 (s := 24) (k := 4 * q) (by omega) hf (by omega) (by omega) ?_
  rw [show 4 * q = 4 * q + 0 from rfl, hx 0 (by omega)]
  refine m_feed1 (s := 16) (k := 4 * q + 1) (u := u + 1) (by omega) rfl (by omega) (by omega) ?_
  rw [hx 1 (by omega)]
  refine m_feed1 (s := 8) (k := 4 * q + 2) (u := u + 2) (by omega) rfl (by omega) (by omega) ?_
  rw [hx 2 (by omega)]
  refine m_feed1 (s := 0) (k := 4 * q + 3) (u := u + 3) (by omega) rfl (by omega) (by omega) ?_
  rw [hx 3 (by omega)]
  exact h
def add20 (b : Int32 → Nat → Int32) (f : Nat → Int32) (u : Nat) (a1 a2 a3 a4 a5 : Int32) : Nat → Int32 := add4 b (add4 b (add4 b (add4 b (add4 b f u a1) (u + 4) a2) (u + 8) a3) (u + 12) a4) (u + 16) a5
theorem m_feed {τ : SX12} {u : Nat} {a1 a2 a3 a4 a5 : Int32} {post : Int32 → SX12 → Prop} (hu : u + 20 ≤ 3000) (hf : τ.1.1.1.1.2.1 = nI u) (h : post (nI (u + 20)) ((((((add20 mby τ.1.1.1.1.1 u a1 a2 a3 a4 a5), ((nI (u + 20)), τ.1.1.1.1.2.2)), τ.1.1.1.2), τ.1.1.2), τ.1.2), τ.2)) : wp_X12_feed τ a1 a2 a3 a4 a5 post := by
  have sel : ∀ (q : Nat) (x : Int32), q < 5 → x = selW a1 a2 a3 a4 a5 (4 * q) → ∀ r, r < 4 → selW a1 a2 a3 a4 a5 (4 * q + r) = x := by
    intro q x hq hx r hr
    rw [hx]
    have e : q = 0 ∨ q = 1 ∨ q = 2 ∨ q = 3 ∨ q = 4 := by omega
    have e2 : r = 0 ∨ r = 1 ∨ r = 2 ∨ r = 3 := by omega
    rcases e with rfl | rfl | rfl | rfl | rfl <;> rcases e2 with rfl | rfl | rfl | rfl <;> rfl
  refine ⟨fun _ => ⟨21, ?_⟩, fun c => absurd ?_ c⟩
  · refine m_feed4 (q := 0) (x := a1) (by omega) hf (by omega) (sel 0 a1 (by omega) rfl) ?_
    refine m_feed4 (q := 1) (x := a2) (u := u + 4) (by omega) rfl (by omega) (sel 1 a2 (by omega) rfl) ?_
    refine m_feed4 (q := 2) (x := a3) (u := u + 8) (by omega) rfl (by omega) (sel 2 a3 (by omega) rfl) ?_
    refine m_feed4 (q := 3) (x := a4) (u := u + 12) (by omega) rfl (by omega) (sel 3 a4 (by omega) rfl) ?_
    refine m_feed4 (q := 4) (x := a5) (u := u + 16) (by omega) rfl (by omega) (sel 4 a5 (by omega) rfl) ?_
    exact ⟨fun _ => h, fun c => absurd (nI_le (a := 20) (b := 20) (by omega) (by omega)) c⟩
  · rw [hf]
    have : nI u + 20 = nI (u + 20) := nI_add u 20
    rw [this]
    exact nI_le (b := 3000) (by omega) (by omega)
theorem TB.feed {f g : Nat → Int32} {u : Nat} (h : TB f g u) (a1 a2 a3 a4 a5 : Int32) : TB (add20 cby f u a1 a2 a3 a4 a5) (add20 mby g u a1 a2 a3 a4 a5) (u + 20) := ((((h.add4 a1).add4 a2).add4 a3).add4 a4).add4 a5
theorem x_feed {σ : WSX11} {τ : SX12} {u : Nat} {a1 a2 a3 a4 a5 : Int32} {Q : Int32 → WSX11 → Int32 → SX12 → Prop} (hu : u ≤ 3000) (h1 : σ.1.1.2.1.2 = nI u) (h2 : τ.1.1.1.1.2.1 = nI u)
    (hN : 3000 < u + 20 → Q (-1) σ (-1) τ)
    (hY : u + 20 ≤ 3000 → Q (nI (u + 20)) (((σ.1.1.1, ((add20 cby σ.1.1.2.1.1 u a1 a2 a3 a4 a5, nI (u + 20)), σ.1.1.2.2)), σ.1.2), σ.2) (nI (u + 20)) ((((((add20 mby τ.1.1.1.1.1 u a1 a2 a3 a4 a5), ((nI (u + 20)), τ.1.1.1.1.2.2)), τ.1.1.1.2), τ.1.1.2), τ.1.2), τ.2)) :
    wp_X11_feed σ a1 a2 a3 a4 a5 (fun r σ' => wp_X12_feed τ a1 a2 a3 a4 a5 (fun r' τ' => Q r σ' r' τ')) := by
  unfold wp_X11_feed wp_X8_hasRoom
  rw [h1]
  by_cases hc : u + 20 ≤ 3000
  · refine ⟨fun c => absurd ((nI_ltI (a := 2980) (by omega) (by omega)).mp c) (by omega), fun _ => ⟨fun _ => ?_, fun c => absurd c (by decide)⟩⟩
    have e : σ.1.1.2.1 = (σ.1.1.2.1.1, nI u) := by rw [← h1]
    rw [e]
    refine c_add (by omega) (c_add (by omega) (c_add (by omega) (c_add (by omega) (c_add (by omega) ?_))))
    exact m_feed hc h2 (hY hc)
  · have lt : (2980 : Int32) < nI u := (nI_ltI (a := 2980) (by omega) (by omega)).mpr (by omega)
    refine ⟨fun _ => ⟨fun c => absurd rfl c, fun _ => ?_⟩, fun c => absurd lt c⟩
    unfold wp_X12_feed
    rw [h2]
    have e : nI u + 20 = nI (u + 20) := nI_add u 20
    rw [e]
    exact ⟨fun c => absurd ((nI_leI (b := 3000) (by omega) (by omega)).mp c) hc, fun _ => hN (by omega)⟩
end Tape
