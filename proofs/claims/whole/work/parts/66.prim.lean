section Prim
/-! what the readers do in single steps -/
theorem c_kind {s : SX9} {t8 : SX8} {T : TX} {N t : Nat} {post : Int32 → WSX9 → Prop} (h : LC s T N) (hc : s.2.1.2 = nI t) (ht : t < N) (hp : post (nI (TK T t)) (s, t8)) : wp_X9_kind (s, t8) post := by
  obtain ⟨h1, h2, h3, h4⟩ := h
  show ((s.2.1.1 ≤ s.2.1.2 → _) ∧ (¬ s.2.1.1 ≤ s.2.1.2 → ((nI s.1.1.1 ≤ s.2.1.2 → _) ∧ (¬ nI s.1.1.1 ≤ s.2.1.2 → (vp_in s.2.1.2 s.1.1.1 ∧ post (s.1.1.2 (s.2.1.2).toNatClampNeg) (s, t8))))))
  rw [hc, h3]
  refine ⟨fun c => absurd c (nI_ge ht (by omega)), fun _ => ⟨fun c => absurd c (nI_ge (by omega) (by omega)), fun _ => ⟨in_k (by omega) h2, ?_⟩⟩⟩
  rw [nI_clamp (by omega), (h4 t ht).1]
  exact hp
theorem c_place {s : SX9} {t8 : SX8} {T : TX} {N t : Nat} {post : Int32 → WSX9 → Prop} (h : LC s T N) (hc : s.2.1.2 = nI t) (ht : t < N) (hp : post (nI (PL T t)) (s, t8)) : wp_X9_place (s, t8) post := by
  obtain ⟨h1, h2, h3, h4⟩ := h
  show ((s.2.1.1 ≤ s.2.1.2 → _) ∧ (¬ s.2.1.1 ≤ s.2.1.2 → ((nI s.1.1.1 ≤ s.2.1.2 → _) ∧ (¬ nI s.1.1.1 ≤ s.2.1.2 → (vp_in s.2.1.2 s.1.1.1 ∧ post (s.1.2.1 (s.2.1.2).toNatClampNeg) (s, t8))))))
  rw [hc, h3]
  refine ⟨fun c => absurd c (nI_ge ht (by omega)), fun _ => ⟨fun c => absurd c (nI_ge (by omega) (by omega)), fun _ => ⟨in_k (by omega) h2, ?_⟩⟩⟩
  rw [nI_clamp (by omega), (h4 t ht).2.1]
  exact hp
theorem c_number {s : SX9} {t8 : SX8} {T : TX} {N t : Nat} {post : Int32 → WSX9 → Prop} (h : LC s T N) (hc : s.2.1.2 = nI t) (ht : t < N) (hp : post (nI (NB T t)) (s, t8)) : wp_X9_number (s, t8) post := by
  obtain ⟨h1, h2, h3, h4⟩ := h
  show ((s.2.1.1 ≤ s.2.1.2 → _) ∧ (¬ s.2.1.1 ≤ s.2.1.2 → ((nI s.1.1.1 ≤ s.2.1.2 → _) ∧ (¬ nI s.1.1.1 ≤ s.2.1.2 → (vp_in s.2.1.2 s.1.1.1 ∧ post (s.1.2.2 (s.2.1.2).toNatClampNeg) (s, t8))))))
  rw [hc, h3]
  refine ⟨fun c => absurd c (nI_ge ht (by omega)), fun _ => ⟨fun c => absurd c (nI_ge (by omega) (by omega)), fun _ => ⟨in_k (by omega) h2, ?_⟩⟩⟩
  rw [nI_clamp (by omega), (h4 t ht).2.2]
  exact hp
theorem c_next {s : SX9} {t8 : SX8} {T : TX} {N t : Nat} {post : WSX9 → Prop} (h : LC s T N) (hc : s.2.1.2 = nI t) (ht : t < N) (hp : post ((s.1, ((s.2.1.1, (nI (t + 1))), s.2.2)), t8)) : wp_X9_next (s, t8) post := by
  obtain ⟨h1, h2, h3, h4⟩ := h
  intro y ey
  have ey : y = nI (t + 1) := by
    rw [ey]
    show (if s.2.1.1 < s.2.1.2 + 1 then s.2.1.1 else s.2.1.2 + 1) = _
    rw [hc, h3, nI_1, if_neg (nI_nlt (by omega) (by omega))]
  rw [ey]
  exact hp
theorem LC.cur {s : SX9} {T : TX} {N : Nat} (h : LC s T N) (x : Int32) : LC (s.1, ((s.2.1.1, x), s.2.2)) T N := h
/-- the row of nodes: u of them, room for L -/
def NW0 (σ : SX4) (u L : Nat) : Prop := σ.2.2.2.2 = nI u ∧ σ.1.1.1 = L ∧ u ≤ L ∧ L < 2 ^ 31
/-- as they are read: none is secret, none was called for -/
def Z4 (σ : SX4) (u : Nat) : Prop := ∀ j, j < u → σ.2.2.1 j = 0 ∧ σ.2.1.2.2 j = -1
def NW (σ : SX4) (u L : Nat) : Prop := σ.2.2.2.2 = nI u ∧ σ.1.1.1 = L ∧ u ≤ L ∧ L < 2 ^ 31 ∧ Z4 σ u
theorem NW.w {σ : SX4} {u L : Nat} (h : NW σ u L) : NW0 σ u L := ⟨h.1, h.2.1, h.2.2.1, h.2.2.2.1⟩
theorem Z4.up {f g : Nat → Int32} {u : Nat} (h : ∀ j, j < u → f j = 0 ∧ g j = -1) : ∀ j, j < u + 1 → upd f u 0 j = 0 ∧ upd g u (-1) j = -1 := by
  intro j hj
  by_cases q : j = u
  · rw [q]
    exact ⟨pk_us, pk_us⟩
  · rw [pk_un q, pk_un q]
    exact h j (by omega)
abbrev nAdd (σ : SX4) (u : Nat) (k p v : Int32) : SX4 := (((σ.1.1.1, (upd σ.1.1.2 u k)), ((upd σ.1.2.1 u p), ((upd σ.1.2.2.1 u v), (upd σ.1.2.2.2 u 1)))), (((upd σ.2.1.1 u 1), ((upd σ.2.1.2.1 u (-1)), (upd σ.2.1.2.2 u (-1)))), ((upd σ.2.2.1 u 0), ((upd σ.2.2.2.1 u 0), (nI (u + 1))))))
theorem c_nadd {σ : SX4} {u L : Nat} {k p v : Int32} {post : Int32 → SX4 → Prop} (h : NW σ u L) (hu : u < L) (hp : post (nI u) (nAdd σ u k p v)) : wp_X4_add σ k p v post := by
  obtain ⟨h1, h2, h3, h4, _⟩ := h
  have hin : vp_in (nI u) L := in_k hu h4
  have nb : vp_nar .boolean (0 : Int32) = 0 := rfl
  unfold wp_X4_add
  rw [h1, h2]
  refine ⟨fun _ => ⟨hin, fun y1 e1 => ⟨hin, fun y2 e2 => ⟨hin, fun y3 e3 => ⟨hin, fun y4 e4 => ⟨hin, fun y5 e5 => ⟨hin, fun y6 e6 => ⟨hin, fun y7 e7 => ⟨hin, fun y8 e8 => ⟨hin, fun y9 e9 y10 e10 => ?_⟩⟩⟩⟩⟩⟩⟩⟩⟩, fun c => absurd (nI_lt hu h4) c⟩
  rw [nI_clamp (by omega)] at e1 e2 e3 e4 e5 e6 e7 e8 e9
  rw [nb] at e8 e9
  have e10 : y10 = nI (u + 1) := e10.trans (nI_1 u)
  have := hp
  unfold nAdd at this
  rw [e1, e2, e3, e4, e5, e6, e7, e8, e9, e10, ← h2]
  exact this
theorem c_naddG {σ : SX4} {u L : Nat} {k p v : Int32} {post : Int32 → SX4 → Prop} (h : NW σ u L) (hp : ∀ r σ' u', NW σ' u' L → (r = -1 ∨ ∃ j : Nat, r = nI j ∧ j < u') → post r σ') : wp_X4_add σ k p v post := by
  by_cases hu : u < L
  · refine c_nadd h hu (hp _ _ (u + 1) ⟨rfl, h.2.1, by omega, h.2.2.2.1, Z4.up h.2.2.2.2⟩ (Or.inr ⟨u, rfl, by omega⟩))
  · have e1 := h.1
    have e2 := h.2.1
    unfold wp_X4_add
    refine ⟨fun c => absurd c ?_, fun _ => hp _ _ u h (Or.inl rfl)⟩
    rw [e1, e2]
    exact nI_nlt (by omega) (by have := h.2.2.1; have := h.2.2.2.1; omega)
theorem c_has {σ : SX4} {u L j : Nat} {post : Int32 → SX4 → Prop} (h : NW0 σ u L) (hj : j < 2 ^ 31) (h1 : j < u → post 1 σ) (h0 : u ≤ j → post 0 σ) : wp_X4_has σ (nI j) post := by
  obtain ⟨e1, e2, e3, e4⟩ := h
  unfold wp_X4_has
  rw [e1, e2]
  refine ⟨fun c => absurd c (nI_pos hj), fun _ => ⟨fun c => h0 ((nI_leI (by omega) hj).mp c), fun c => ?_⟩⟩
  have hu : j < u := Nat.not_le.mp fun q => c (nI_le q hj)
  exact ⟨fun c2 => absurd c2 (nI_ge (by omega) e4), fun _ => h1 hu⟩
theorem c_hasG {σ : SX4} {u L : Nat} {x : Int32} {post : Int32 → SX4 → Prop} (h : NW0 σ u L) (h1 : ∀ j : Nat, j < u → x = nI j → post 1 σ) (h0 : post 0 σ) : wp_X4_has σ x post := by
  by_cases c : x < 0
  · exact ⟨fun _ => h0, fun q => absurd c q⟩
  · obtain ⟨j, hj, rfl⟩ := nI_of c
    exact c_has h hj (fun q => h1 j q rfl) (fun _ => h0)
/-- a reader of one field -/
theorem c_get {σ : SX4} {u L j : Nat} {post : Int32 → SX4 → Prop} {f : Nat → Int32} {d : Int32} (h : NW0 σ u L) (hj : j < u) (hp : post (f j) σ) : wp_X4_has σ (nI j) (fun r1 τ2 => ((r1 = 0 → post d τ2) ∧ (¬ r1 = 0 → (vp_in (nI j) τ2.1.1.1 ∧ post (f (nI j).toNatClampNeg) τ2)))) := by
  have hL := h.2.2.1
  have hL2 := h.2.2.2
  refine c_has h (by omega) (fun _ => ⟨fun c => absurd c (by decide), fun _ => ⟨?_, ?_⟩⟩) (fun q => absurd hj (by omega))
  · rw [h.2.1]
    exact in_k (by omega) hL2
  · rw [nI_clamp (by omega)]
    exact hp
theorem c_nkind {σ : SX4} {u L j : Nat} {post : Int32 → SX4 → Prop} (h : NW0 σ u L) (hj : j < u) (hp : post (σ.1.1.2 j) σ) : wp_X4_kind σ (nI j) post := by
  have hL := h.2.2.1
  have hL2 := h.2.2.2
  refine c_has h (by omega) (fun _ => ⟨fun c => absurd c (by decide), fun _ => ⟨?_, ?_⟩⟩) (fun q => absurd hj (by omega))
  · rw [h.2.1]
    exact in_k (by omega) hL2
  · rw [nI_clamp (by omega)]
    exact hp
theorem c_nplace {σ : SX4} {u L j : Nat} {post : Int32 → SX4 → Prop} (h : NW0 σ u L) (hj : j < u) (hp : post (σ.1.2.1 j) σ) : wp_X4_place σ (nI j) post := by
  have hL := h.2.2.1
  have hL2 := h.2.2.2
  refine c_has h (by omega) (fun _ => ⟨fun c => absurd c (by decide), fun _ => ⟨?_, ?_⟩⟩) (fun q => absurd hj (by omega))
  · rw [h.2.1]
    exact in_k (by omega) hL2
  · rw [nI_clamp (by omega)]
    exact hp
theorem c_nvalue {σ : SX4} {u L j : Nat} {post : Int32 → SX4 → Prop} (h : NW0 σ u L) (hj : j < u) (hp : post (σ.1.2.2.1 j) σ) : wp_X4_value σ (nI j) post := by
  have hL := h.2.2.1
  have hL2 := h.2.2.2
  refine c_has h (by omega) (fun _ => ⟨fun c => absurd c (by decide), fun _ => ⟨?_, ?_⟩⟩) (fun q => absurd hj (by omega))
  · rw [h.2.1]
    exact in_k (by omega) hL2
  · rw [nI_clamp (by omega)]
    exact hp
theorem c_nneed {σ : SX4} {u L j : Nat} {post : Int32 → SX4 → Prop} (h : NW0 σ u L) (hj : j < u) (hp : post (σ.2.1.1 j) σ) : wp_X4_need σ (nI j) post := by
  have hL := h.2.2.1
  have hL2 := h.2.2.2
  refine c_has h (by omega) (fun _ => ⟨fun c => absurd c (by decide), fun _ => ⟨?_, ?_⟩⟩) (fun q => absurd hj (by omega))
  · rw [h.2.1]
    exact in_k (by omega) hL2
  · rw [nI_clamp (by omega)]
    exact hp
theorem c_ntie {σ : SX4} {u L j : Nat} {post : Int32 → SX4 → Prop} (h : NW0 σ u L) (hj : j < u) (hp : post (σ.2.1.2.1 j) σ) : wp_X4_tie σ (nI j) post := by
  have hL := h.2.2.1
  have hL2 := h.2.2.2
  refine c_has h (by omega) (fun _ => ⟨fun c => absurd c (by decide), fun _ => ⟨?_, ?_⟩⟩) (fun q => absurd hj (by omega))
  · rw [h.2.1]
    exact in_k (by omega) hL2
  · rw [nI_clamp (by omega)]
    exact hp
theorem c_nback {σ : SX4} {u L j : Nat} {post : Int32 → SX4 → Prop} (h : NW0 σ u L) (hj : j < u) (hp : post (σ.2.1.2.2 j) σ) : wp_X4_back σ (nI j) post := by
  have hL := h.2.2.1
  have hL2 := h.2.2.2
  refine c_has h (by omega) (fun _ => ⟨fun c => absurd c (by decide), fun _ => ⟨?_, ?_⟩⟩) (fun q => absurd hj (by omega))
  · rw [h.2.1]
    exact in_k (by omega) hL2
  · rw [nI_clamp (by omega)]
    exact hp
theorem c_ncalls {σ : SX4} {u L j : Nat} {b : Bool} {post : Int32 → SX4 → Prop} (h : NW0 σ u L) (hj : j < u) (hb : σ.2.2.2.1 j = bi b) (hp : post (bi b) σ) : wp_X4_calls σ (nI j) post := by
  have hL := h.2.2.1
  have hL2 := h.2.2.2
  refine c_has h (by omega) (fun _ => ⟨fun c => absurd c (by decide), fun _ => ⟨?_, ?_⟩⟩) (fun q => absurd hj (by omega))
  · rw [h.2.1]
    exact in_k (by omega) hL2
  · rw [nI_clamp (by omega), hb]
    refine ⟨fun c => ?_, fun c => ?_⟩
    · rw [eq0_f c] at hp
      exact hp
    · rw [ne0_t c] at hp
      exact hp
theorem c_nsecret {σ : SX4} {u L j : Nat} {b : Bool} {post : Int32 → SX4 → Prop} (h : NW0 σ u L) (hj : j < u) (hb : σ.2.2.1 j = bi b) (hp : post (bi b) σ) : wp_X4_secret σ (nI j) post := by
  have hL := h.2.2.1
  have hL2 := h.2.2.2
  refine c_has h (by omega) (fun _ => ⟨fun c => absurd c (by decide), fun _ => ⟨?_, ?_⟩⟩) (fun q => absurd hj (by omega))
  · rw [h.2.1]
    exact in_k (by omega) hL2
  · rw [nI_clamp (by omega), hb]
    refine ⟨fun c => ?_, fun c => ?_⟩
    · rw [eq0_f c] at hp
      exact hp
    · rw [ne0_t c] at hp
      exact hp
theorem c_turnInto {σ : SX4} {u L j : Nat} {v : Int32} {post : SX4 → Prop} (h : NW0 σ u L) (hj : j < u) (hp : post (((σ.1.1.1, (upd σ.1.1.2 j v)), σ.1.2), σ.2)) : wp_X4_turnInto σ (nI j) v post := by
  have hL := h.2.2.1
  have hL2 := h.2.2.2
  refine c_has h (by omega) (fun _ => ⟨fun c => absurd c (by decide), fun _ => ⟨?_, fun y ey => ?_⟩⟩) (fun q => absurd hj (by omega))
  · rw [h.2.1]
    exact in_k (by omega) hL2
  · rw [nI_clamp (by omega)] at ey
    rw [ey]
    exact hp
theorem c_keepValue {σ : SX4} {u L j : Nat} {v : Int32} {post : SX4 → Prop} (h : NW0 σ u L) (hj : j < u) (hp : post ((σ.1.1, (σ.1.2.1, ((upd σ.1.2.2.1 j v), σ.1.2.2.2))), σ.2)) : wp_X4_keepValue σ (nI j) v post := by
  have hL := h.2.2.1
  have hL2 := h.2.2.2
  refine c_has h (by omega) (fun _ => ⟨fun c => absurd c (by decide), fun _ => ⟨?_, fun y ey => ?_⟩⟩) (fun q => absurd hj (by omega))
  · rw [h.2.1]
    exact in_k (by omega) hL2
  · rw [nI_clamp (by omega)] at ey
    rw [ey]
    exact hp
theorem c_keepValueG {σ : SX4} {u L : Nat} {x v : Int32} {post : SX4 → Prop} (h : NW σ u L) (hp : ∀ σ', NW σ' u L → post σ') : wp_X4_keepValue σ x v post := by
  refine c_hasG h.w (fun j hj e => ⟨fun c => absurd c (by decide), fun _ => ⟨?_, fun y ey => hp _ h⟩⟩) ⟨fun _ => hp _ h, fun c => absurd rfl c⟩
  have := h.2.2.1
  rw [e, h.2.1]
  exact in_k (by omega) h.2.2.2.1
theorem c_turnIntoG {σ : SX4} {u L : Nat} {x v : Int32} {post : SX4 → Prop} (h : NW σ u L) (hp : ∀ σ', NW σ' u L → post σ') : wp_X4_turnInto σ x v post := by
  refine c_hasG h.w (fun j hj e => ⟨fun c => absurd c (by decide), fun _ => ⟨?_, fun y ey => hp _ h⟩⟩) ⟨fun _ => hp _ h, fun c => absurd rfl c⟩
  have := h.2.2.1
  rw [e, h.2.1]
  exact in_k (by omega) h.2.2.2.1
theorem c_keepSecret {σ : SX4} {u L j : Nat} {b : Bool} {post : SX4 → Prop} (h : NW0 σ u L) (hj : j < u) (hp : post (σ.1, (σ.2.1, ((upd σ.2.2.1 j (bi b)), σ.2.2.2)))) : wp_X4_keepSecret σ (nI j) (bi b) post := by
  have hL := h.2.2.1
  have hL2 := h.2.2.2
  refine c_has h (by omega) (fun _ => ⟨fun c => absurd c (by decide), fun _ => ⟨?_, fun y ey => ?_⟩⟩) (fun q => absurd hj (by omega))
  · rw [h.2.1]
    exact in_k (by omega) hL2
  · rw [nI_clamp (by omega)] at ey
    have : vp_nar .boolean (bi b) = bi b := by cases b <;> rfl
    rw [this] at ey
    rw [ey]
    exact hp
theorem c_keepTie {σ : SX4} {u L j : Nat} {v : Int32} {post : SX4 → Prop} (h : NW0 σ u L) (hj : j < u) (hp : post (σ.1, ((σ.2.1.1, ((upd σ.2.1.2.1 j v), σ.2.1.2.2)), σ.2.2))) : wp_X4_keepTie σ (nI j) v post := by
  have hL := h.2.2.1
  have hL2 := h.2.2.2
  refine c_has h (by omega) (fun _ => ⟨fun c => absurd c (by decide), fun _ => ⟨?_, fun y ey => ?_⟩⟩) (fun q => absurd hj (by omega))
  · rw [h.2.1]
    exact in_k (by omega) hL2
  · rw [nI_clamp (by omega)] at ey
    rw [ey]
    exact hp
theorem c_keepBack {σ : SX4} {u L j : Nat} {v : Int32} {post : SX4 → Prop} (h : NW0 σ u L) (hj : j < u) (hp : post (σ.1, ((σ.2.1.1, (σ.2.1.2.1, (upd σ.2.1.2.2 j v))), σ.2.2))) : wp_X4_keepBack σ (nI j) v post := by
  have hL := h.2.2.1
  have hL2 := h.2.2.2
  refine c_has h (by omega) (fun _ => ⟨fun c => absurd c (by decide), fun _ => ⟨?_, fun y ey => ?_⟩⟩) (fun q => absurd hj (by omega))
  · rw [h.2.1]
    exact in_k (by omega) hL2
  · rw [nI_clamp (by omega)] at ey
    rw [ey]
    exact hp
end Prim
