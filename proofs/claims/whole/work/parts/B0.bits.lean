section Bits
theorem i32_ext {x y : Int32} (h : x.toBitVec.toNat = y.toBitVec.toNat) : x = y := Int32.toBitVec_inj.mp (BitVec.eq_of_toNat_eq h)
theorem of_tn (x : Int32) : x = nI x.toBitVec.toNat := i32_ext (by rw [pk_tn x.toBitVec.isLt])
theorem i32_toInt (x : Int32) : (x.toInt = x.toBitVec.toNat ∧ x.toBitVec.toNat < 2147483648) ∨ (x.toInt = x.toBitVec.toNat - 4294967296 ∧ 2147483648 ≤ x.toBitVec.toNat ∧ x.toBitVec.toNat < 4294967296) := by
  have h := x.toBitVec.isLt
  have e : x.toInt = x.toBitVec.toInt := rfl
  rw [e, BitVec.toInt_eq_toNat_cond]
  split
  · exact Or.inl ⟨rfl, by omega⟩
  · exact Or.inr ⟨by omega, by omega, by omega⟩
theorem nI_orN {a b : Nat} (ha : a < 2 ^ 32) (hb : b < 2 ^ 32) : nI a ||| nI b = nI (a ||| b) := by
  apply i32_ext
  have h : a ||| b < 2 ^ 32 := Nat.or_lt_two_pow ha hb
  rw [pk_tn h]
  show ((nI a).toBitVec ||| (nI b).toBitVec).toNat = _
  rw [BitVec.toNat_or, pk_tn ha, pk_tn hb]
theorem or_add {k x y : Nat} (hy : y < 2 ^ k) (h : x * 2 ^ k + y < 2 ^ 32) : nI (x * 2 ^ k) ||| nI y = nI (x * 2 ^ k + y) := by
  rw [nI_orN (by omega) (by omega), Nat.mul_comm x, Nat.two_pow_add_eq_or_of_lt hy]
/-- a word of fields -/
def fld (m f k t c : Nat) : Nat := m * 1048576 + f * 32768 + k * 4096 + t * 128 + c
theorem fld_lt {m f k t c : Nat} (hm : m < 4096) (hf : f < 32) (hk : k < 8) (ht : t < 32) (hc : c < 128) : fld m f k t c < 2 ^ 32 := by
  unfold fld
  omega
theorem enc5 {m f k t c : Nat} (hm : m < 4096) (hf : f < 32) (hk : k < 8) (ht : t < 32) (hc : c < 128) : (((nI (m * 1048576) ||| nI (f * 32768)) ||| nI (k * 4096)) ||| nI (t * 128)) ||| nI c = nI (fld m f k t c) := by
  have e1 : nI (m * 1048576) ||| nI (f * 32768) = nI (m * 1048576 + f * 32768) := or_add (k := 20) (by omega) (by omega)
  have e2 : nI (m * 1048576 + f * 32768) ||| nI (k * 4096) = nI (m * 1048576 + f * 32768 + k * 4096) := by
    have := or_add (k := 15) (x := m * 32 + f) (y := k * 4096) (by omega) (by omega)
    rw [show (m * 32 + f) * 2 ^ 15 = m * 1048576 + f * 32768 by omega] at this
    exact this
  have e3 : nI (m * 1048576 + f * 32768 + k * 4096) ||| nI (t * 128) = nI (m * 1048576 + f * 32768 + k * 4096 + t * 128) := by
    have := or_add (k := 12) (x := m * 256 + f * 8 + k) (y := t * 128) (by omega) (by omega)
    rw [show (m * 256 + f * 8 + k) * 2 ^ 12 = m * 1048576 + f * 32768 + k * 4096 by omega] at this
    exact this
  have e4 : nI (m * 1048576 + f * 32768 + k * 4096 + t * 128) ||| nI c = nI (m * 1048576 + f * 32768 + k * 4096 + t * 128 + c) := by
    have := or_add (k := 7) (x := m * 8192 + f * 256 + k * 32 + t) (y := c) (by omega) (by omega)
    rw [show (m * 8192 + f * 256 + k * 32 + t) * 2 ^ 7 = m * 1048576 + f * 32768 + k * 4096 + t * 128 by omega] at this
    exact this
  rw [e1, e2, e3, e4]
  rfl
theorem sh20 (x : Int32) : x <<< ((20 : Int32) &&& 31) = nI ((x.toBitVec.toNat % 4096) * 1048576) := by
  apply i32_ext
  rw [pk_shl x _ 20 (by decide), pk_tn (by omega)]
  omega
theorem shN {n k : Nat} (s : Int32) (hs : (s.toBitVec.smod 32).toNat = k) (h : n * 2 ^ k < 2 ^ 32) : nI n <<< s = nI (n * 2 ^ k) := pk_shlN s k hs h
/-- a field of a word -/
theorem shm {W : Nat} (hW : W < 2 ^ 32) : (nI W >>> ((7 : Int32) &&& 31)) &&& 31 = nI (W / 128 % 32) ∧ (nI W >>> ((12 : Int32) &&& 31)) &&& 7 = nI (W / 4096 % 8) ∧ (nI W >>> ((15 : Int32) &&& 31)) &&& 31 = nI (W / 32768 % 32) ∧ (nI W >>> ((20 : Int32) &&& 31)) &&& 31 = nI (W / 1048576 % 32) ∧ (nI W >>> ((20 : Int32) &&& 31)).toInt = (if W < 2147483648 then ((W / 1048576 : Nat) : Int) else ((W / 1048576 : Nat) : Int) - 4096) ∧ ((nI W).toUInt32 >>> (((25 : Int32)).toUInt32 &&& Int32.toUInt32 31)).toInt32 = nI (W / 33554432) := by
  have hx := i32_toInt (nI W)
  rw [pk_tn hW] at hx
  have s7 := pk_shr (nI W) ((7 : Int32) &&& 31) 7 (by decide)
  have s12 := pk_shr (nI W) ((12 : Int32) &&& 31) 12 (by decide)
  have s15 := pk_shr (nI W) ((15 : Int32) &&& 31) 15 (by decide)
  have s20 := pk_shr (nI W) ((20 : Int32) &&& 31) 20 (by decide)
  rw [Int.shiftRight_eq_div_pow] at s7 s12 s15 s20
  have h7 := i32_toInt (nI W >>> ((7 : Int32) &&& 31))
  have h12 := i32_toInt (nI W >>> ((12 : Int32) &&& 31))
  have h15 := i32_toInt (nI W >>> ((15 : Int32) &&& 31))
  have h20 := i32_toInt (nI W >>> ((20 : Int32) &&& 31))
  refine ⟨?_, ?_, ?_, ?_, ?_, ?_⟩
  · rw [pk_and _ (m := 31) 5 (by decide)]
    congr 1
    omega
  · rw [pk_and _ (m := 7) 3 (by decide)]
    congr 1
    omega
  · rw [pk_and _ (m := 31) 5 (by decide)]
    congr 1
    omega
  · rw [pk_and _ (m := 31) 5 (by decide)]
    congr 1
    omega
  · split <;> omega
  · rw [pk_ushrN hW 25 25 (by decide)]
/-- the fields of a word -/
theorem dec5 {m f k t c : Nat} (hm : m < 4096) (hf : f < 32) (hk : k < 8) (ht : t < 32) (hc : c < 128) {w : Int32} (hw : w = nI (fld m f k t c)) :
    w &&& 127 = nI c ∧ (w >>> ((7 : Int32) &&& 31)) &&& 31 = nI t ∧ (w >>> ((12 : Int32) &&& 31)) &&& 7 = nI k ∧ (w >>> ((15 : Int32) &&& 31)) &&& 31 = nI f ∧ (w >>> ((20 : Int32) &&& 31)) &&& 31 = nI (m % 32) ∧ (w >>> ((20 : Int32) &&& 31)).toInt = (if m < 2048 then (m : Int) else (m : Int) - 4096) ∧ (w.toUInt32 >>> (((25 : Int32)).toUInt32 &&& Int32.toUInt32 31)).toInt32 = nI (m / 32) := by
  have hW := fld_lt hm hf hk ht hc
  obtain ⟨a1, a2, a3, a4, a5, a6⟩ := shm hW
  rw [hw, a1, a2, a3, a4, a5, a6, pk_andN hW (m := 127) 7 (by decide)]
  unfold fld
  refine ⟨by congr 1; omega, by congr 1; omega, by congr 1; omega, by congr 1; omega, by congr 1; omega, ?_, by congr 1; omega⟩
  split <;> split <;> omega
/-- a number of twelve bits is had back from its field -/
theorem imm12 {x : Int32} (h1 : -2048 ≤ x.toInt) (h2 : x.toInt < 2048) {w : Int32} {f k t c : Nat} (hf : f < 32) (hk : k < 8) (ht : t < 32) (hc : c < 128) (hw : w = nI (fld (x.toBitVec.toNat % 4096) f k t c)) : w >>> ((20 : Int32) &&& 31) = x := by
  obtain ⟨_, _, _, _, _, a6, _⟩ := dec5 (by omega) hf hk ht hc hw
  apply Int32.toInt_inj.mp
  rw [a6]
  have := i32_toInt x
  split <;> omega
/-- the word of an order with a number -/
def wI (k to fr : Nat) (x : Int32) : Int32 := nI (fld (x.toBitVec.toNat % 4096) fr k to 19)
theorem w_num {k to fr : Nat} {x : Int32} {post : Int32 → Unit → Prop} (hk : k < 8) (ht : to < 32) (hf : fr < 32) (hp : post (wI k to fr x) ()) : wp_X5_withNumber (nI k) (nI to) (nI fr) x post := by
  unfold wp_X5_withNumber
  rw [sh20, shN (n := fr) (k := 15) _ (by decide) (by omega), shN (n := k) (k := 12) _ (by decide) (by omega), shN (n := to) (k := 7) _ (by decide) (by omega)]
  have := enc5 (m := x.toBitVec.toNat % 4096) (f := fr) (k := k) (t := to) (c := 19) (by omega) hf hk ht (by omega)
  show post (_ ||| nI 19) ()
  rw [this]
  exact hp
/-- a load's word -/
def wL (to fr : Nat) (x : Int32) : Int32 := nI (fld (x.toBitVec.toNat % 4096) fr 2 to 3)
theorem w_load {to fr : Nat} {x : Int32} {post : Int32 → Unit → Prop} (ht : to < 32) (hf : fr < 32) (hp : post (wL to fr x) ()) : wp_X5_fromMemory (nI to) (nI fr) x post := by
  unfold wp_X5_fromMemory
  rw [sh20, shN (n := fr) (k := 15) _ (by decide) (by omega), shN (n := to) (k := 7) _ (by decide) (by omega)]
  have := enc5 (m := x.toBitVec.toNat % 4096) (f := fr) (k := 2) (t := to) (c := 3) (by omega) hf (by omega) ht (by omega)
  show post ((((_ ||| _) ||| nI (2 * 4096)) ||| _) ||| nI 3) ()
  rw [this]
  exact hp
/-- a word with three registers -/
def wR (u k to l r : Nat) : Int32 := nI (fld (u * 32 + r) l k to 51)
theorem w_reg {u k to l r : Nat} {post : Int32 → Unit → Prop} (hu : u < 128) (hk : k < 8) (ht : to < 32) (hl : l < 32) (hr : r < 32) (hp : post (wR u k to l r) ()) : wp_X5_withRegisters (nI u) (nI k) (nI to) (nI l) (nI r) post := by
  unfold wp_X5_withRegisters
  rw [shN (n := u) (k := 25) _ (by decide) (by omega), shN (n := r) (k := 20) _ (by decide) (by omega), shN (n := l) (k := 15) _ (by decide) (by omega), shN (n := k) (k := 12) _ (by decide) (by omega), shN (n := to) (k := 7) _ (by decide) (by omega)]
  have e : nI (u * 2 ^ 25) ||| nI (r * 2 ^ 20) = nI ((u * 32 + r) * 1048576) := by
    rw [or_add (k := 25) (by omega) (by omega), show u * 2 ^ 25 + r * 2 ^ 20 = (u * 32 + r) * 1048576 by omega]
  have := enc5 (m := u * 32 + r) (f := l) (k := k) (t := to) (c := 51) (by omega) hl hk ht (by omega)
  rw [e]
  show post (_ ||| nI 51) ()
  rw [this]
  exact hp
/-- a store's word -/
def wS (fr base d : Nat) : Int32 := nI (fld (d / 32 * 32 + fr) base 2 (d % 32) 35)
theorem w_sto {fr base d : Nat} {post : Int32 → Unit → Prop} (hf : fr < 32) (hb : base < 32) (hd : d < 2048) (hp : post (wS fr base d) ()) : wp_X5_toMemory (nI fr) (nI base) (nI d) post := by
  unfold wp_X5_toMemory
  rw [pk_shrN (by omega) _ 5 (by decide), pk_andN (m := 31) (by omega) 5 (by decide), shN (n := d / 2 ^ 5) (k := 25) _ (by decide) (by omega), shN (n := fr) (k := 20) _ (by decide) (by omega), shN (n := base) (k := 15) _ (by decide) (by omega), shN (n := d % 2 ^ 5) (k := 7) _ (by decide) (by omega)]
  have e : nI (d / 2 ^ 5 * 2 ^ 25) ||| nI (fr * 2 ^ 20) = nI ((d / 32 * 32 + fr) * 1048576) := by
    rw [or_add (k := 25) (by omega) (by omega), show d / 2 ^ 5 * 2 ^ 25 + fr * 2 ^ 20 = (d / 32 * 32 + fr) * 1048576 by omega]
  have := enc5 (m := d / 32 * 32 + fr) (f := base) (k := 2) (t := d % 32) (c := 35) (by omega) hb (by omega) (by omega) (by omega)
  rw [e]
  show post ((((_ ||| _) ||| nI (2 * 4096)) ||| _) ||| nI 35) ()
  rw [this]
  exact hp
/-- the distance of a store is had back -/
theorem wS_d {fr base d : Nat} (hf : fr < 32) (hb : base < 32) (hd : d < 2048) : ((wS fr base d >>> ((25 : Int32) &&& 31)) <<< ((5 : Int32) &&& 31)) ||| ((wS fr base d >>> ((7 : Int32) &&& 31)) &&& 31) = nI d := by
  have hW : fld (d / 32 * 32 + fr) base 2 (d % 32) 35 < 2 ^ 32 := fld_lt (by omega) hb (by omega) (by omega) (by omega)
  obtain ⟨_, a2, _⟩ := dec5 (m := d / 32 * 32 + fr) (f := base) (k := 2) (t := d % 32) (c := 35) (by omega) hb (by omega) (by omega) (by omega) (w := wS fr base d) rfl
  have e1 : wS fr base d >>> ((25 : Int32) &&& 31) = nI (d / 32) := by
    have s25 := pk_shr (wS fr base d) ((25 : Int32) &&& 31) 25 (by decide)
    rw [Int.shiftRight_eq_div_pow] at s25
    have hx := i32_toInt (wS fr base d)
    have ew : (wS fr base d).toBitVec.toNat = fld (d / 32 * 32 + fr) base 2 (d % 32) 35 := pk_tn hW
    rw [ew] at hx
    apply Int32.toInt_inj.mp
    rw [s25, nI_toInt (by omega)]
    unfold fld at hx
    omega
  rw [a2, e1, shN (n := d / 32) (k := 5) _ (by decide) (by omega), or_add (k := 5) (by omega) (by omega)]
  congr 1
  omega
end Bits
