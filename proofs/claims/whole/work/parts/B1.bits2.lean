section Bits2
def wJ (l d : Int32) : Int32 := ((((((((d >>> ((20 : Int32) &&& 31)) &&& (1 : Int32)) <<< ((31 : Int32) &&& 31)) ||| (((d >>> ((1 : Int32) &&& 31)) &&& (1023 : Int32)) <<< ((21 : Int32) &&& 31))) ||| (((d >>> ((11 : Int32) &&& 31)) &&& (1 : Int32)) <<< ((20 : Int32) &&& 31))) ||| (((d >>> ((12 : Int32) &&& 31)) &&& (255 : Int32)) <<< ((12 : Int32) &&& 31))) ||| (l <<< ((7 : Int32) &&& 31))) ||| (111 : Int32))
def OkJ (l d : Int32) : Prop := wJ l d &&& 127 = 111 ∧ (wJ l d >>> ((7 : Int32) &&& 31)) &&& 31 = l ∧ ((((wJ l d >>> ((31 : Int32) &&& 31)) <<< ((20 : Int32) &&& 31)) ||| (wJ l d &&& (1044480 : Int32))) ||| ((wJ l d >>> ((9 : Int32) &&& 31)) &&& (2048 : Int32))) ||| ((wJ l d >>> ((20 : Int32) &&& 31)) &&& (2046 : Int32)) = d
def bJ (l d : Int32) : Bool := decide (wJ l d &&& 127 = 111) && (decide ((wJ l d >>> ((7 : Int32) &&& 31)) &&& 31 = l) && decide (((((wJ l d >>> ((31 : Int32) &&& 31)) <<< ((20 : Int32) &&& 31)) ||| (wJ l d &&& (1044480 : Int32))) ||| ((wJ l d >>> ((9 : Int32) &&& 31)) &&& (2048 : Int32))) ||| ((wJ l d >>> ((20 : Int32) &&& 31)) &&& (2046 : Int32)) = d))
theorem bJ_ok {l d : Int32} (h : bJ l d = true) : OkJ l d := by
  unfold bJ at h
  simp only [Bool.and_eq_true, decide_eq_true_eq] at h
  exact h
def chJ (j : Nat) : Bool := bJ 0 (nI (4 * j)) && bJ 0 (-(nI (4 * j))) && bJ 1 (-(nI (4 * j)))
theorem chJ_0 : (List.range 256).all (fun j => chJ (0 + j)) = true := by decide +kernel
theorem chJ_1 : (List.range 256).all (fun j => chJ (256 + j)) = true := by decide +kernel
theorem chJ_2 : (List.range 256).all (fun j => chJ (512 + j)) = true := by decide +kernel
theorem chJ_3 : (List.range 256).all (fun j => chJ (768 + j)) = true := by decide +kernel
theorem chJ_4 : (List.range 256).all (fun j => chJ (1024 + j)) = true := by decide +kernel
theorem chJ_5 : (List.range 256).all (fun j => chJ (1280 + j)) = true := by decide +kernel
theorem chJ_6 : (List.range 256).all (fun j => chJ (1536 + j)) = true := by decide +kernel
theorem chJ_7 : (List.range 256).all (fun j => chJ (1792 + j)) = true := by decide +kernel
theorem chJ_8 : (List.range 256).all (fun j => chJ (2048 + j)) = true := by decide +kernel
theorem chJ_9 : (List.range 256).all (fun j => chJ (2304 + j)) = true := by decide +kernel
theorem chJ_10 : (List.range 256).all (fun j => chJ (2560 + j)) = true := by decide +kernel
theorem chJ_11 : (List.range 256).all (fun j => chJ (2816 + j)) = true := by decide +kernel
theorem chJ_12 : (List.range 256).all (fun j => chJ (3072 + j)) = true := by decide +kernel
theorem chJ_13 : (List.range 256).all (fun j => chJ (3328 + j)) = true := by decide +kernel
theorem all_get {p : Nat → Bool} {n : Nat} (h : (List.range n).all p = true) {j : Nat} (hj : j < n) : p j = true := List.all_eq_true.mp h j (List.mem_range.mpr hj)
theorem chJ_all {j : Nat} (hj : j < 3584) : chJ j = true := by
  have e : j = 256 * (j / 256) + j % 256 := by omega
  have h2 : j % 256 < 256 := by omega
  by_cases q0 : j / 256 = 0
  · have := all_get chJ_0 h2
    rw [e, q0]
    exact this
  by_cases q1 : j / 256 = 1
  · have := all_get chJ_1 h2
    rw [e, q1]
    exact this
  by_cases q2 : j / 256 = 2
  · have := all_get chJ_2 h2
    rw [e, q2]
    exact this
  by_cases q3 : j / 256 = 3
  · have := all_get chJ_3 h2
    rw [e, q3]
    exact this
  by_cases q4 : j / 256 = 4
  · have := all_get chJ_4 h2
    rw [e, q4]
    exact this
  by_cases q5 : j / 256 = 5
  · have := all_get chJ_5 h2
    rw [e, q5]
    exact this
  by_cases q6 : j / 256 = 6
  · have := all_get chJ_6 h2
    rw [e, q6]
    exact this
  by_cases q7 : j / 256 = 7
  · have := all_get chJ_7 h2
    rw [e, q7]
    exact this
  by_cases q8 : j / 256 = 8
  · have := all_get chJ_8 h2
    rw [e, q8]
    exact this
  by_cases q9 : j / 256 = 9
  · have := all_get chJ_9 h2
    rw [e, q9]
    exact this
  by_cases q10 : j / 256 = 10
  · have := all_get chJ_10 h2
    rw [e, q10]
    exact this
  by_cases q11 : j / 256 = 11
  · have := all_get chJ_11 h2
    rw [e, q11]
    exact this
  by_cases q12 : j / 256 = 12
  · have := all_get chJ_12 h2
    rw [e, q12]
    exact this
  by_cases q13 : j / 256 = 13
  · have := all_get chJ_13 h2
    rw [e, q13]
    exact this
  omega
theorem okJ_p {j : Nat} (hj : j < 3584) : OkJ 0 (nI (4 * j)) := by
  have := chJ_all hj
  unfold chJ at this
  simp only [Bool.and_eq_true] at this
  exact bJ_ok this.1.1
theorem okJ_n {j : Nat} (hj : j < 3584) : OkJ 0 (-(nI (4 * j))) := by
  have := chJ_all hj
  unfold chJ at this
  simp only [Bool.and_eq_true] at this
  exact bJ_ok this.1.2
theorem okJ_c {j : Nat} (hj : j < 3584) : OkJ 1 (-(nI (4 * j))) := by
  have := chJ_all hj
  unfold chJ at this
  simp only [Bool.and_eq_true] at this
  exact bJ_ok this.2
theorem sub_p {a b : Nat} (h : b ≤ a) : nI (4 * a) - nI (4 * b) = nI (4 * (a - b)) := by
  rw [pk_sub (by omega), show 4 * a - 4 * b = 4 * (a - b) by omega]
theorem sub_n {a b : Nat} (h : a ≤ b) : nI (4 * a) - nI (4 * b) = -(nI (4 * (b - a))) := by
  have e := sub_p h
  have : nI (4 * a) - nI (4 * b) = -(nI (4 * b) - nI (4 * a)) := by rw [Int32.neg_sub]
  rw [this, e]
/-- a jump's word, from order b to order a -/
theorem okJ_d {a b : Nat} (ha : a < 4096) (hb : b < 4096) (h1 : 512 ≤ a) (h2 : 512 ≤ b) : OkJ 0 (nI (4 * a) - nI (4 * b)) := by
  by_cases h : b ≤ a
  · rw [sub_p h]
    exact okJ_p (by omega)
  · rw [sub_n (by omega)]
    exact okJ_n (by omega)
theorem okJ_b {a b : Nat} (hb : b < 4096) (h1 : 512 ≤ a) (h : a ≤ b) : OkJ 1 (nI (4 * a) - nI (4 * b)) := by
  rw [sub_n h]
  exact okJ_c (by omega)
theorem w_jump {l d : Int32} {post : Int32 → Unit → Prop} (hp : post (wJ l d) ()) : wp_X5_jump l d post := by
  intro y1 e1
  rw [e1]
  exact hp
end Bits2
