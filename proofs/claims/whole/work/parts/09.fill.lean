theorem dJ7_fill_53178_0 : decode cJ7_fill_53178 0 = .ok (.iconst 0, 1) := by decide +kernel
theorem dJ7_fill_53178_1 : decode cJ7_fill_53178 1 = .ok (.istore_n 2, 1) := by decide +kernel
theorem dJ7_fill_53178_2 : decode cJ7_fill_53178 2 = .ok (.aload_n 0, 1) := by decide +kernel
theorem dJ7_fill_53178_3 : decode cJ7_fill_53178 3 = .ok (.arraylength, 1) := by decide +kernel
theorem dJ7_fill_53178_4 : decode cJ7_fill_53178 4 = .ok (.istore_n 3, 1) := by decide +kernel
theorem dJ7_fill_53178_5 : decode cJ7_fill_53178 5 = .ok (.iload_n 2, 1) := by decide +kernel
theorem dJ7_fill_53178_6 : decode cJ7_fill_53178 6 = .ok (.iload_n 3, 1) := by decide +kernel
theorem dJ7_fill_53178_7 : decode cJ7_fill_53178 7 = .ok (.if_icmp .ge 13, 3) := by decide +kernel
theorem dJ7_fill_53178_10 : decode cJ7_fill_53178 10 = .ok (.aload_n 0, 1) := by decide +kernel
theorem dJ7_fill_53178_11 : decode cJ7_fill_53178 11 = .ok (.iload_n 2, 1) := by decide +kernel
theorem dJ7_fill_53178_12 : decode cJ7_fill_53178 12 = .ok (.iload_n 1, 1) := by decide +kernel
theorem dJ7_fill_53178_13 : decode cJ7_fill_53178 13 = .ok (.iastore, 1) := by decide +kernel
theorem dJ7_fill_53178_14 : decode cJ7_fill_53178 14 = .ok (.iinc 2 1, 3) := by decide +kernel
theorem dJ7_fill_53178_17 : decode cJ7_fill_53178 17 = .ok (.goto (-12), 3) := by decide +kernel
theorem dJ7_fill_53178_20 : decode cJ7_fill_53178 20 = .ok (.return_, 1) := by decide +kernel
abbrev MJ7_fill_53178 : aw_M := (yJ7_fill_53178, cJ7_fill_53178, 4, none)
theorem codJ7_fill_53178 : Cond.code yJ7_fill_53178 cJ7_fill_53178 4 none ∈ aw_T := aw_in 517 (by decide +kernel) rfl
theorem iniJ7 : Cond.initialized RJ7 ∈ aw_T := aw_in 126 (by decide +kernel) rfl
theorem sttJ7_fill_53178 : Cond.static yJ7_fill_53178 ∈ aw_T := aw_in 516 (by decide +kernel) rfl
section Fill
def aw_fill (n : Nat) (v : Int32) (f : Nat → Int32) : Nat → Int32 := fun j => if j < n then v else f j
theorem aw_fill_loop {G : aw_G} {d n : Nat} {v : Int32} {f : Nat → Int32} (hn : n < 2 ^ 31) : ∀ (k i : Nat) (f' : Nat → Int32), i + k = n → (∀ j, f' j = if j < i then v else f j) →
    AW G MJ7_fill_53178 d 0 0 1 (fun r w => r = none ∧ w = [.inl (G.2.2.1, n, .inl (aw_fill n v f))]) 5 [(0, .ref 0), (1, .int v), (2, .int (nI i)), (3, .int (nI n))] [] [.inl (G.2.2.1, n, .inl f')] := by
  intro k
  induction k with
  | zero =>
    intro i f' hi hf
    have hin : i = n := by omega
    subst hin
    refine aw_iload_n 2 dJ7_fill_53178_5 rfl rfl ?_
    refine aw_iload_n 3 dJ7_fill_53178_6 rfl rfl ?_
    refine aw_icmp_ge 20 dJ7_fill_53178_7 (by decide) (fun c => ?_) (fun c => absurd (Int32.le_refl _) c)
    refine aw_vret rfl dJ7_fill_53178_20 ⟨rfl, ?_⟩
    have : f' = aw_fill i v f := funext hf
    rw [this]
  | succ k ih =>
    intro i f' hi hf
    refine aw_iload_n 2 dJ7_fill_53178_5 rfl rfl ?_
    refine aw_iload_n 3 dJ7_fill_53178_6 rfl rfl ?_
    refine aw_icmp_ge 20 dJ7_fill_53178_7 (by decide) (fun c => absurd c (nI_ge (by omega) hn)) (fun c => ?_)
    refine aw_aload_n 0 dJ7_fill_53178_10 rfl rfl ?_
    refine aw_iload_n 2 dJ7_fill_53178_11 rfl rfl ?_
    refine aw_iload_n 1 dJ7_fill_53178_12 rfl rfl ?_
    refine aw_iast 0 (n := n) (f := f') (w' := fun g => [.inl (G.2.2.1, n, .inl g)]) rfl (vp_in_nI (by omega) hn) (fun _ => rfl) dJ7_fill_53178_13 (fun g eg => ?_)
    refine aw_iinc 2 (v := nI (i + 1)) (lv' := [(2, .int (nI (i + 1))), (0, .ref 0), (1, .int v), (3, .int (nI n))]) dJ7_fill_53178_14 rfl (nI_1 i) (by decide) rfl ?_
    refine aw_goto 5 dJ7_fill_53178_17 (by decide) ?_
    refine aw_lvsub (lv' := [(0, .ref 0), (1, .int v), (2, .int (nI (i + 1))), (3, .int (nI n))]) [1, 2, 0, 3] rfl ?_
    refine ih (i + 1) g (by omega) (fun j => ?_)
    rw [eg, nI_clamp (by omega)]
    simp only [upd]
    rw [hf j]
    by_cases h1 : j = i
    · subst h1; simp
    · by_cases h2 : j < i
      · simp [h1, h2, show j < i + 1 by omega]
      · simp [h1, h2, show ¬ j < i + 1 by omega]
theorem kJ7_fill {G : aw_G} {d n : Nat} {v : Int32} {f : Nat → Int32} (hn : n < 2 ^ 31) : AC G MJ7_fill_53178 d 0 0 1 [.ref 0, .int v] [.inl (G.2.2.1, n, .inl f)] (fun r w => r = none ∧ w = [.inl (G.2.2.1, n, .inl (aw_fill n v f))]) := by
  refine AC.of (lv := [(0, .ref 0), (1, .int v)]) (by decide) (Nat.le_of_ble_eq_true rfl) rfl ?_
  refine aw_iconst (v := 0) dJ7_fill_53178_0 (by decide) ?_
  refine aw_istore_n (lv' := [(2, .int 0), (0, .ref 0), (1, .int v)]) dJ7_fill_53178_1 rfl (by decide) rfl ?_
  refine aw_aload_n 1 dJ7_fill_53178_2 rfl rfl ?_
  refine aw_alen 0 0 (v := nI n) rfl rfl rfl dJ7_fill_53178_3 ?_
  refine aw_istore_n (lv' := [(3, .int (nI n)), (2, .int 0), (0, .ref 0), (1, .int v)]) dJ7_fill_53178_4 rfl (by decide) rfl ?_
  refine aw_lvsub (lv' := [(0, .ref 0), (1, .int v), (2, .int (nI 0)), (3, .int (nI n))]) [2, 3, 1, 0] rfl ?_
  exact aw_fill_loop hn n 0 f (by omega) (fun j => by simp)
end Fill

