section Bits3
def wB (k l r d : Int32) : Int32 := ((((((((((d >>> ((12 : Int32) &&& 31)) &&& (1 : Int32)) <<< ((31 : Int32) &&& 31)) ||| (((d >>> ((5 : Int32) &&& 31)) &&& (63 : Int32)) <<< ((25 : Int32) &&& 31))) ||| (((d >>> ((1 : Int32) &&& 31)) &&& (15 : Int32)) <<< ((8 : Int32) &&& 31))) ||| (((d >>> ((11 : Int32) &&& 31)) &&& (1 : Int32)) <<< ((7 : Int32) &&& 31))) ||| (r <<< ((20 : Int32) &&& 31))) ||| (l <<< ((15 : Int32) &&& 31))) ||| (k <<< ((12 : Int32) &&& 31))) ||| (99 : Int32))
def OkB (k l r d : Int32) : Prop := wB k l r d &&& 127 = 99 ∧ (wB k l r d >>> ((12 : Int32) &&& 31)) &&& 7 = k ∧ (wB k l r d >>> ((15 : Int32) &&& 31)) &&& 31 = l ∧ (wB k l r d >>> ((20 : Int32) &&& 31)) &&& 31 = r ∧ ((((wB k l r d >>> ((31 : Int32) &&& 31)) <<< ((12 : Int32) &&& 31)) ||| ((wB k l r d <<< ((4 : Int32) &&& 31)) &&& (2048 : Int32))) ||| ((wB k l r d >>> ((20 : Int32) &&& 31)) &&& (2016 : Int32))) ||| ((wB k l r d >>> ((7 : Int32) &&& 31)) &&& (30 : Int32)) = d
def bB (k l r d : Int32) : Bool := decide (wB k l r d &&& 127 = 99) && (decide ((wB k l r d >>> ((12 : Int32) &&& 31)) &&& 7 = k) && (decide ((wB k l r d >>> ((15 : Int32) &&& 31)) &&& 31 = l) && (decide ((wB k l r d >>> ((20 : Int32) &&& 31)) &&& 31 = r) && (decide (((((wB k l r d >>> ((31 : Int32) &&& 31)) <<< ((12 : Int32) &&& 31)) ||| ((wB k l r d <<< ((4 : Int32) &&& 31)) &&& (2048 : Int32))) ||| ((wB k l r d >>> ((20 : Int32) &&& 31)) &&& (2016 : Int32))) ||| ((wB k l r d >>> ((7 : Int32) &&& 31)) &&& (30 : Int32)) = d)))))
theorem bB_ok {k l r d : Int32} (h : bB k l r d = true) : OkB k l r d := by
  unfold bB at h
  simp only [Bool.and_eq_true, decide_eq_true_eq] at h
  exact h
theorem okB_1 : OkB 0 2 0 12 := bB_ok (by decide +kernel)
theorem okB_2 : OkB 0 4 5 16 := bB_ok (by decide +kernel)
theorem okB_3 : OkB 1 6 0 8 := bB_ok (by decide +kernel)
def chB (j : Nat) : Bool := bB 0 5 0 (nI (4 * j)) && bB 0 5 0 (-(nI (4 * j)))
theorem chB_0 : (List.range 256).all (fun j => chB (0 + j)) = true := by decide +kernel
theorem chB_1 : (List.range 256).all (fun j => chB (256 + j)) = true := by decide +kernel
theorem chB_2 : (List.range 256).all (fun j => chB (512 + j)) = true := by decide +kernel
theorem chB_3 : (List.range 256).all (fun j => chB (768 + j)) = true := by decide +kernel
theorem chB_all {j : Nat} (hj : j < 1024) : chB j = true := by
  have e : j = 256 * (j / 256) + j % 256 := by omega
  have h2 : j % 256 < 256 := by omega
  by_cases q0 : j / 256 = 0
  · have := all_get chB_0 h2
    rw [e, q0]
    exact this
  by_cases q1 : j / 256 = 1
  · have := all_get chB_1 h2
    rw [e, q1]
    exact this
  by_cases q2 : j / 256 = 2
  · have := all_get chB_2 h2
    rw [e, q2]
    exact this
  by_cases q3 : j / 256 = 3
  · have := all_get chB_3 h2
    rw [e, q3]
    exact this
  omega
theorem okB_d {a b : Nat} (h1 : a < b + 1024) (h2 : b < a + 1024) : OkB 0 5 0 (nI (4 * a) - nI (4 * b)) := by
  by_cases h : b ≤ a
  · rw [sub_p h]
    have := chB_all (j := a - b) (by omega)
    unfold chB at this
    simp only [Bool.and_eq_true] at this
    exact bB_ok this.1
  · rw [sub_n (by omega)]
    have := chB_all (j := b - a) (by omega)
    unfold chB at this
    simp only [Bool.and_eq_true] at this
    exact bB_ok this.2
theorem w_br {k l r d : Int32} {post : Int32 → Unit → Prop} (hp : post (wB k l r d) ()) : wp_X5_branch k l r d post := by
  intro y1 e1
  rw [e1]
  exact hp
end Bits3
