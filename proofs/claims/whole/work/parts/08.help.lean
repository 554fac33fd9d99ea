section AwHelp
def aw_bz (x : Int32) : Prop := narrow .boolean (.int x) = .int x ∧ fits .boolean (.int x) = true
def aw_loop {α : Type} (b : (α → Prop) → α → Prop) : Nat → α → Prop
  | 0, _ => False
  | n + 1, a => b (aw_loop b n) a
def aw_pi {S : Type} (W : S → aw_W) (P : Int32 → S → Prop) : Option Value → aw_W → Prop := fun v w => ∃ (r : Int32) (τ : S), v = some (.int r) ∧ w = W τ ∧ P r τ
def aw_pl {S : Type} (W : S → aw_W) (P : Int64 → S → Prop) : Option Value → aw_W → Prop := fun v w => ∃ (r : Int64) (τ : S), v = some (.long r) ∧ w = W τ ∧ P r τ
def aw_pv {S : Type} (W : S → aw_W) (P : S → Prop) : Option Value → aw_W → Prop := fun v w => ∃ τ : S, v = none ∧ w = W τ ∧ P τ
variable {G : aw_G} {M : aw_M} {d mc ms n0 pc : Nat} {lv : List (Nat × Value)} {st : List Value} {w : aw_W} {post : Option Value → aw_W → Prop}
theorem aw_lvsub {lv' : List (Nat × Value)} (ks : List Nat) (h : lv_pick lv ks = lv') (kk : AW G M d mc ms n0 post pc lv' st w) : AW G M d mc ms n0 post pc lv st w := by
  intro p e R s m args below meth c A ad0 ad H locs cells slots ls X h0 h1 h2 h3 hP hS hA hE hl
  have e1 : lv_pick (lv.map (aw_l G ad)) ks = lv'.map (aw_l G ad) := by
    rw [← h]
    simp only [lv_pick, List.map_filterMap]
    congr 1
    funext k
    simp [List.getElem?_map]
  exact kk p e R s m args below meth c A ad0 ad H locs cells slots ls X h0 h1 h2 h3 hP hS hA hE (lv_sub hl ks e1)
theorem aw_topi {x : Int32} (k : ∀ y : Int32, y = x → AW G M d mc ms n0 post pc lv (.int y :: st) w) : AW G M d mc ms n0 post pc lv (.int x :: st) w := k x rfl
theorem aw_topl {x : Int64} (k : ∀ y : Int64, y = x → AW G M d mc ms n0 post pc lv (.long y :: st) w) : AW G M d mc ms n0 post pc lv (.long x :: st) w := k x rfl
theorem aw_swh {x k : Int32} {a o d : Int} {r : List (Int × Int)} (hx : x = k) (hk : k.toInt = a) : Op.lookupswitch.offset ((a, o) :: r) d x.toInt = o := by
  rw [Op.lookupswitch.offset_cons, if_pos]
  rw [hx, hk]
end AwHelp
abbrev SX2 : Type := ((((Nat → Int32) × (Nat → Int32)) × ((Nat → Int32) × Int32)) × ((Int32 × Int64) × (Int32 × Int64)))
abbrev WSX2 : Type := SX2
def wX2 (G : aw_G) (σ : WSX2) : aw_W := [.inr (2, [.ref 1, .ref 2, .ref 3, .int σ.1.2.2, .int σ.2.1.1, .long σ.2.1.2, .int σ.2.2.1, .long σ.2.2.2]), .inl (G.2.2.1, 4096, .inl σ.1.1.1), .inl (G.2.2.1, 32, .inl σ.1.1.2), .inl (G.2.2.1, 32, .inl σ.1.2.1)]
