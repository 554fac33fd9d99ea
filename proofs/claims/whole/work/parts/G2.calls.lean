section Calls3
variable {K : Prop → Prop} {Q : Int32 → WSX11 → Int32 → SX12 → Prop} {σ : WSX11} {τ : SX12} {n : Nat}
theorem z_poke {a v : Int32} (h : INV σ τ n) (hK : ∀ A : Prop, A → K A) (hQ : ∀ r σ' τ', INV σ' τ' n → Q r σ' r τ') : wp_X11_poke σ a v (fun r σ' => K (wp_X12_poke τ a v (Q r σ'))) :=
  y_poke (Q := fun r s2 r' τ' => Q r ((σ.1.1, (s2, σ.1.2.2)), σ.2) r' τ') h.1 hK (fun _ _ _ h1 h2 => hQ _ _ _ (h.mo h1 h2))
theorem z_peek {a : Int32} (h : INV σ τ n) (hK : ∀ A : Prop, A → K A) (hQ : ∀ r σ' τ', INV σ' τ' n → Q r σ' r τ') : wp_X11_peek σ a (fun r σ' => K (wp_X12_peek τ a (Q r σ'))) :=
  y_peek (Q := fun r s2 r' τ' => Q r ((σ.1.1, (s2, σ.1.2.2)), σ.2) r' τ') h.1 hK (fun _ => hQ _ _ _ h)
theorem z_set {a v : Int32} (h : INV σ τ n) (hK : ∀ A : Prop, A → K A) (hQ : ∀ r σ' τ', INV σ' τ' n → Q r σ' r τ') : wp_X11_set σ a v (fun r σ' => K (wp_X12_set τ a v (Q r σ'))) :=
  y_set (Q := fun r s2 r' τ' => Q r ((σ.1.1, (s2, σ.1.2.2)), σ.2) r' τ') h.1 hK (fun _ _ _ h1 h2 => hQ _ _ _ (h.mo h1 h2))
theorem z_get {a : Int32} (h : INV σ τ n) (hK : ∀ A : Prop, A → K A) (hQ : ∀ r σ' τ', INV σ' τ' n → Q r σ' r τ') : wp_X11_get σ a (fun r σ' => K (wp_X12_get τ a (Q r σ'))) :=
  y_get (Q := fun r s2 r' τ' => Q r ((σ.1.1, (s2, σ.1.2.2)), σ.2) r' τ') h.1 hK (fun _ => hQ _ _ _ h)
theorem z_start {a : Int32} (h : INV σ τ n) (hK : ∀ A : Prop, A → K A) (hQ : ∀ r σ' τ', INV σ' τ' n → Q r σ' r τ') : wp_X11_start σ a (fun r σ' => K (wp_X12_start τ a (Q r σ'))) :=
  y_start (Q := fun r s2 r' τ' => Q r ((σ.1.1, (s2, σ.1.2.2)), σ.2) r' τ') h.1 hK (fun _ _ _ h1 h2 => hQ _ _ _ (h.mo h1 h2))
theorem z_go {a : Int32} (h : INV σ τ n) (hK : ∀ A : Prop, A → K A) (hQ : ∀ r σ' τ', INV σ' τ' n → Q r σ' r τ') : wp_X11_go σ a (fun r σ' => K (wp_X12_go τ a (Q r σ'))) := by
  refine ⟨fun c => hK _ ⟨fun _ => hQ _ _ _ h, fun z => absurd c z⟩, fun c => ⟨fun c2 => ?_, fun c2 => hK _ ⟨fun z => absurd z c, fun _ => ⟨fun z => absurd z c2, fun _ => hQ _ _ _ h⟩⟩⟩⟩
  exact y_go (Q := fun r s2 r' τ' => Q r ((σ.1.1, (s2, σ.1.2.2)), σ.2) r' τ') h.1 c c2 hK (fun _ _ _ h1 h2 => hQ _ _ _ (h.mo h1 h2))
theorem z_state {a : Int32} (h : INV σ τ n) (hK : ∀ A : Prop, A → K A) (hQ : ∀ r σ' τ', INV σ' τ' n → Q r σ' r τ') : wp_X11_state σ a (fun r σ' => K (wp_X12_state τ a (Q r σ'))) := by
  obtain ⟨m1, m2, m3, m4, m5, m6, m7, m8, m9⟩ := h.1
  refine ⟨fun c => ?_, fun c => ⟨fun c1 => ?_, fun c1 => ⟨fun c2 => ?_, fun c2 => ⟨fun c3 => ?_, fun c3 => ?_⟩⟩⟩⟩
  · refine hK _ ⟨fun z => absurd c z, fun _ => ?_⟩
    rw [← m5]
    exact hQ _ _ _ h
  · refine hK _ ⟨fun _ => ⟨fun z => absurd c1 z, fun _ => ?_⟩, fun z => absurd z c⟩
    rw [← m6]
    exact hQ _ _ _ h
  · refine hK _ ⟨fun _ => ⟨fun _ => ⟨fun z => absurd c2 z, fun _ => ?_⟩, fun z => absurd z c1⟩, fun z => absurd z c⟩
    rw [← m7]
    exact hQ _ _ _ h
  · refine hK _ ⟨fun _ => ⟨fun _ => ⟨fun _ => ⟨fun z => absurd c3 z, fun _ => ?_⟩, fun z => absurd z c2⟩, fun z => absurd z c1⟩, fun z => absurd z c⟩
    rw [← m8]
    exact hQ _ _ _ h
  · exact hK _ ⟨fun _ => ⟨fun _ => ⟨fun _ => ⟨fun _ => hQ _ _ _ h, fun z => absurd z c3⟩, fun z => absurd z c2⟩, fun z => absurd z c1⟩, fun z => absurd z c⟩
theorem z_trail {Q : Int64 → WSX11 → Int64 → SX12 → Prop} (h : INV σ τ n) (hQ : ∀ r σ' τ', INV σ' τ' n → Q r σ' r τ') : wp_X11_trail σ (fun r σ' => wp_X12_trail τ (Q r σ')) := by
  obtain ⟨m1, m2, m3, m4, m5, m6, m7, m8, m9⟩ := h.1
  show Q σ.1.2.1.2.2.2 σ τ.2.2.2.2.2.1 τ
  rw [← m9]
  exact hQ _ _ _ h
theorem z_told {a : Int32} (h : INV σ τ n) (hK : ∀ A : Prop, A → K A) (hQ : ∀ r σ' τ', INV σ' τ' n → Q r σ' r τ') : wp_X11_told σ a (fun r σ' => K (wp_X12_told τ a (Q r σ'))) := by
  obtain ⟨_, _, ⟨c1, c2⟩, _⟩ := id h
  refine ⟨fun c => ⟨fun d => hK _ ⟨fun _ => ⟨fun _ => hQ _ _ _ h, fun z => absurd z d⟩, fun z => absurd z c⟩, fun d => hK _ ⟨fun _ => ⟨fun z => absurd d z, fun _ => ?_⟩, fun z => absurd z c⟩⟩, fun c => hK _ ⟨fun z => absurd c z, fun _ => ?_⟩⟩
  · rw [c2]
    exact hQ _ _ _ h
  · rw [c1]
    exact hQ _ _ _ h
theorem rd_ne {b : Bool} : bi b = 0 ↔ b = false := by
  cases b with
  | true => exact ⟨fun c => absurd c (by decide), fun c => by cases c⟩
  | false => exact ⟨fun _ => rfl, fun _ => rfl⟩
theorem z_count {a : Int32} (h : INV σ τ n) (hK : ∀ A : Prop, A → K A) (hQ : ∀ r σ' τ', INV σ' τ' n → Q r σ' r τ') : wp_X11_count σ a (fun r σ' => K (wp_X12_count τ a (Q r σ'))) := by
  obtain ⟨rd, r, a1, a2, a3, a4, a5, a6, a7⟩ := id h.2.2.2.2
  have e : τ.2.1.1.1.2.2 = 0 ↔ σ.1.1.1.1 = 0 := by
    rw [a1]
    have : τ.2.1.1.1.2.2 = bi rd := a2
    rw [this]
  refine ⟨fun c => ?_, fun c => hK _ ⟨fun z => absurd (e.mpr c) z, fun _ => hQ _ _ _ h⟩⟩
  have hrd : rd = true := by
    cases rd with
    | true => rfl
    | false => exact absurd (a1.trans rfl) c
  obtain ⟨T, N, g, ex, u, s, t1, t', L, M, q, x, b1, b2, b3⟩ := a7 hrd
  obtain ⟨nc1, nc2, nc3, nc4, nc5, nc6⟩ := b1.2.1
  obtain ⟨nm1, nm2, nm3, nm4, nm5, nm6⟩ := b2.1.2.2
  have hne : ¬ τ.2.1.1.1.2.2 = 0 := fun z => c (e.mp z)
  have e0 : σ.1.2.2.2.2.2.1 = τ.1.2.2.2.1.1 := nc2.trans nm2.symm
  have e1 : σ.1.2.2.2.2.2.2.1 = τ.1.2.2.2.1.2 := nc4.trans nm4.symm
  have e2 : σ.1.2.2.2.2.2.2.2 = τ.1.2.2.2.2.1 := nc5.trans nm5.symm
  refine ⟨fun c0 => ?_, fun c0 => ⟨fun c1 => ?_, fun c1 => ⟨fun c2 => ?_, fun c2 => ?_⟩⟩⟩
  · refine hK _ ⟨fun _ => ⟨fun z => absurd c0 z, fun _ => ?_⟩, fun z => absurd z hne⟩
    rw [← e0]
    exact hQ _ _ _ h
  · refine hK _ ⟨fun _ => ⟨fun _ => ⟨fun z => absurd c1 z, fun _ => ?_⟩, fun z => absurd z c0⟩, fun z => absurd z hne⟩
    rw [← e1]
    exact hQ _ _ _ h
  · refine hK _ ⟨fun _ => ⟨fun _ => ⟨fun _ => ⟨fun z => absurd c2 z, fun _ => ?_⟩, fun z => absurd z c1⟩, fun z => absurd z c0⟩, fun z => absurd z hne⟩
    rw [← e2]
    exact hQ _ _ _ h
  · exact hK _ ⟨fun _ => ⟨fun _ => ⟨fun _ => ⟨fun _ => hQ _ _ _ h, fun z => absurd z c2⟩, fun z => absurd z c1⟩, fun z => absurd z c0⟩, fun z => absurd z hne⟩
theorem z_input {a v : Int32} (h : INV σ τ n) (hK : ∀ A : Prop, A → K A) (hQ : ∀ r σ' τ', INV σ' τ' n → Q r σ' r τ') : wp_X11_input σ a v (fun r σ' => K (wp_X12_input τ a v (Q r σ'))) := by
  obtain ⟨r1, r2, r3, r4, rd, r, a1, a2, a3, a4, a5, a6, a7⟩ := id h
  have a2' : τ.2.1.1.1.2.2 = bi rd := a2
  cases rd with
  | false => exact ⟨fun _ => hK _ ⟨fun _ => hQ _ _ _ h, fun z => absurd a2' z⟩, fun z => absurd a1 z⟩
  | true =>
    have n1 : ¬ σ.1.1.1.1 = 0 := by rw [a1]; decide
    have n2 : ¬ τ.2.1.1.1.2.2 = 0 := by rw [a2']; decide
    obtain ⟨T, N, g, ex, u, s, t1, t', L, M, q, x, b1, b2, b3, b4, b5, b6⟩ := a7 rfl
    obtain ⟨il1, il2⟩ := iw_len b1.1
    have ci : σ.1.2.2.2.2.2.2.1 = nI (iwF T g 0).length := b1.2.1.2.2.2.1
    have mi : τ.1.2.2.2.1.2 = nI (iwF T g 0).length := b2.1.2.2.2.2.2.1
    refine ⟨fun z => absurd z n1, fun _ => ?_⟩
    refine ⟨fun c => ⟨fun _ => ⟨fun _ => hK _ ⟨fun z => absurd z n2, fun _ => ⟨fun _ => hQ _ _ _ h, fun z => absurd c z⟩⟩, fun z => absurd rfl z⟩, fun z => absurd rfl z⟩, fun c => ⟨fun d => ?_, fun d => ?_⟩⟩
    · have d : σ.1.2.2.2.2.2.2.1 ≤ a := d
      rw [ci] at d
      have nlt : ¬ a < τ.1.2.2.2.1.2 := by
        rw [mi]
        intro z
        have z1 := Int32.lt_iff_toInt_lt.mp z
        have z2 := Int32.le_iff_toInt_le.mp d
        omega
      exact ⟨fun _ => ⟨fun _ => hK _ ⟨fun z => absurd z n2, fun _ => ⟨fun z => absurd z c, fun _ => ⟨fun z => absurd z nlt, fun _ => hQ _ _ _ h⟩⟩⟩, fun z => absurd rfl z⟩, fun z => absurd rfl z⟩
    · have d : ¬ σ.1.2.2.2.2.2.2.1 ≤ a := d
      rw [ci] at d
      obtain ⟨j, hj, rfl⟩ := nI_of c
      have hj2 : j < (iwF T g 0).length := by
        by_cases z : j < (iwF T g 0).length
        · exact z
        · exact absurd (nI_le (by omega) hj) d
      have lt : nI j < τ.1.2.2.2.1.2 := by
        rw [mi]
        exact nI_lt hj2 (by omega)
      refine ⟨fun z => absurd z (nI_ge (b := 200) (by omega) (by omega)), fun _ => ⟨fun z => absurd z (by decide), fun _ => ⟨fun _ => ⟨in_k (by omega) (by omega), fun y3 e3 => ?_⟩, fun z => absurd (nI_lt (b := 200) (by omega) (by omega)) z⟩⟩⟩
      refine ⟨fun z => absurd z (by decide), fun _ => hK _ ⟨fun z => absurd z n2, fun _ => ⟨fun z => absurd z c, fun _ => ⟨fun _ => ⟨in_k (by omega) (by omega), fun y1 e1 => ?_⟩, fun z => absurd lt z⟩⟩⟩⟩
      refine hQ _ _ _ ⟨r1, r2, r3, r4, true, r, a1, a2, a3, a4, a5, a6, fun _ => ⟨T, N, g, ex, u, s, t1, t', L, M, q, x, b1, b2.fr b1.2.2.2.2.2.2.2.2.2.2.2.2.2.2 ⟨rfl, rfl, rfl, rfl, rfl, rfl⟩, fun k hk => ?_, b4, b5, b6⟩⟩
      show y3 k = y1 k
      rw [e3, e1, nI_clamp (by omega)]
      show upd σ.2.2.1.2.1.1 j v k = upd τ.2.1.1.1.1 j v k
      by_cases ck : k = j
      · rw [ck, pk_us, pk_us]
      · rw [pk_un ck, pk_un ck]
        exact b3 k hk
end Calls3
