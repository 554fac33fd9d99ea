section Law
theorem inv_0 : INV iX11 iX12 0 := by
  refine ⟨⟨fun _ _ => rfl, fun _ _ => rfl, rfl, fun _ _ => rfl, rfl, rfl, rfl, rfl, rfl⟩, ⟨rfl, Nat.zero_le _, rfl, fun k hk => absurd hk (Nat.not_lt_zero k)⟩, ⟨rfl, rfl⟩, ⟨fun _ _ => rfl, Nat.pow_pos (n := 31) (by omega), Nat.pow_pos (n := 31) (by omega)⟩, false, 0, rfl, rfl, rfl, by omega, rfl, fun _ => rfl, fun z => ?_⟩
  cases z
theorem end_lt {L k : Nat} (h : L < k + 6) (hL : L ≤ 3072) (hk : k ≤ 4000) : nI L - 6 < nI k := by
  by_cases c : 6 ≤ L
  · have e : nI L - 6 = nI (L - 6) := nI_sub (b := 6) c
    rw [e]
    exact nI_lt (by omega) (by omega)
  · rw [Int32.lt_iff_toInt_lt, nI_toInt (by omega)]
    have h6 : (nI L - 6).toInt < 0 := by
      have : L = 0 ∨ L = 1 ∨ L = 2 ∨ L = 3 ∨ L = 4 ∨ L = 5 := by omega
      rcases this with z | z | z | z | z | z <;> (rw [z]; decide)
    omega
theorem law_loop {G : aw_G} {L : Nat} (hG : aw_sL G = L) (hL : L ≤ 3072) {post : Int32 → WSLW → Prop} : ∀ (m k n bm bs : Nat) (σ : WSX11) (τ : SX12), L < k + 6 * (m + 1) → k ≤ 3078 → INV σ τ n → 12 * n + 50 * (4000 - k) ≤ bs → 2 * (4000 - k) ≤ bm → wp_L_law_18 G post (m + 1) (σ, τ) (nI k) bm bs := by
  intro m
  induction m with
  | zero =>
    intro k n bm bs σ τ hk hk2 _ _ _
    show wb_L_law_18 G post _ (σ, τ) (nI k) bm bs
    refine ⟨fun _ => trivial, fun c => absurd ?_ c⟩
    rw [hG]
    exact end_lt (by omega) hL (by omega)
  | succ m ih =>
    intro k n bm bs σ τ hk hk2 hinv hbs hbm
    show wb_L_law_18 G post (fun a => wp_L_law_18 G post (m + 1) a.1 a.2.1 a.2.2.1 a.2.2.2) (σ, τ) (nI k) bm bs
    unfold wb_L_law_18
    rw [hG]
    refine ⟨fun _ => trivial, fun c => ?_⟩
    have hkL : k + 6 ≤ L := by
      by_cases z : k + 6 ≤ L
      · exact z
      · exact absurd (end_lt (by omega) hL (by omega)) c
    have vin : ∀ i : Nat, i < 6 → vp_in (nI k + nI i) L := by
      intro i hi
      rw [nI_add]
      exact in_k (by omega) (by omega)
    have v1 : vp_in (nI k + 1) L := vin 1 (by omega)
    have v2 : vp_in (nI k + 2) L := vin 2 (by omega)
    have v3 : vp_in (nI k + 3) L := vin 3 (by omega)
    have v4 : vp_in (nI k + 4) L := vin 4 (by omega)
    have v5 : vp_in (nI k + 5) L := vin 5 (by omega)
    have next : ∀ (s : WSX11) (t : SX12) (n' bm' bs' : Nat), INV s t n' → 12 * n' + 50 * (4000 - (k + 6)) ≤ bs' → 2 * (4000 - (k + 6)) ≤ bm' → wp_L_law_585 G (fun a => wp_L_law_18 G post (m + 1) a.1 a.2.1 a.2.2.1 a.2.2.2) post (s, t) (nI k) bm' bs' := by
      intro s t n' bm' bs' hi h1 h2
      have := ih (k + 6) n' bm' bs' s t (by omega) (by omega) hi h1 h2
      have e : nI k + 6 = nI (k + 6) := nI_add k 6
      rw [← e] at this
      exact this
    have nx : ∀ (r : Int32) (s : WSX11) (t : SX12), INV s t n → ((r = r → wp_L_law_585 G (fun a => wp_L_law_18 G post (m + 1) a.1 a.2.1 a.2.2.1 a.2.2.2) post (s, t) (nI k) bm bs) ∧ (¬ r = r → False)) := fun r s t hi => ⟨fun _ => next s t n bm bs hi (by omega) (by omega), fun z => z rfl⟩
    have hK1 : ∀ A : Prop, A → (vp_in (nI k + 1) L ∧ A) := fun A h => ⟨v1, h⟩
    have hK2 : ∀ A : Prop, A → (vp_in (nI k + 1) L ∧ (vp_in (nI k + 2) L ∧ A)) := fun A h => ⟨v1, v2, h⟩
    refine ⟨in_k (by omega) (by omega), fun _ => ⟨v1, v2, v3, v4, v5, ?_⟩, fun _ => ⟨fun _ => ⟨v1, by omega, ?_⟩, fun _ => ⟨fun _ => ⟨v1, ?_⟩, fun _ => ⟨fun _ => ⟨v1, ?_⟩, fun _ => ⟨fun _ => ⟨v1, v2, ?_⟩, fun _ => ⟨fun _ => ⟨v1, ?_⟩, fun _ => ⟨fun _ => ⟨v1, ?_⟩, fun _ => ⟨fun _ => ⟨v1, ?_⟩, fun _ => ⟨fun _ => ⟨v1, ?_⟩, fun _ => ⟨fun _ => ?_, fun _ => ⟨fun _ => ⟨v1, v2, ?_⟩, fun _ => ⟨fun _ => ⟨v1, ?_⟩, fun _ => ⟨fun _ => ⟨v1, v2, ?_⟩, fun _ => ⟨fun _ => ⟨v1, ?_⟩, fun _ => ⟨fun _ => ⟨v1, ?_⟩, fun _ => ⟨fun _ => ⟨v1, ?_⟩, fun _ => ⟨fun _ => ⟨v1, ?_⟩, fun _ => ⟨fun _ => ?_, fun _ => ?_⟩⟩⟩⟩⟩⟩⟩⟩⟩⟩⟩⟩⟩⟩⟩⟩⟩⟩
    · exact z_feed (K := fun A => vp_in (nI k + 1) L ∧ (vp_in (nI k + 2) L ∧ (vp_in (nI k + 3) L ∧ (vp_in (nI k + 4) L ∧ (vp_in (nI k + 5) L ∧ A))))) (Q := fun r s r' t => ((r = r' → wp_L_law_585 G (fun a => wp_L_law_18 G post (m + 1) a.1 a.2.1 a.2.2.1 a.2.2.2) post (s, t) (nI k) bm bs) ∧ (¬ r = r' → False))) hinv (fun A h => ⟨v1, v2, v3, v4, v5, h⟩) (fun r s t n' hn' hi => ⟨fun _ => next s t n' bm bs hi (by omega) (by omega), fun z => z rfl⟩)
    · obtain ⟨y8, n', hy, hw⟩ := z_load (K := fun A => vp_in (nI k + 1) L ∧ A) (a := aw_sx G (nI k + 1).toNatClampNeg) hinv hK1
      exact ⟨y8, by omega, hw (fun r s r' t => ((r = r' → wp_L_law_585 G (fun a => wp_L_law_18 G post (m + 1) a.1 a.2.1 a.2.2.1 a.2.2.2) post (s, t) (nI k) (bm - 12) (bs - y8)) ∧ (¬ r = r' → False))) (fun r s t hi => ⟨fun _ => next s t n' (bm - 12) (bs - y8) hi (by omega) (by omega), fun z => z rfl⟩)⟩
    · exact z_told (K := fun A => vp_in (nI k + 1) L ∧ A) (Q := fun r s r' t => ((r = r' → wp_L_law_585 G (fun a => wp_L_law_18 G post (m + 1) a.1 a.2.1 a.2.2.1 a.2.2.2) post (s, t) (nI k) bm bs) ∧ (¬ r = r' → False))) hinv hK1 nx
    · exact z_count (K := fun A => vp_in (nI k + 1) L ∧ A) (Q := fun r s r' t => ((r = r' → wp_L_law_585 G (fun a => wp_L_law_18 G post (m + 1) a.1 a.2.1 a.2.2.1 a.2.2.2) post (s, t) (nI k) bm bs) ∧ (¬ r = r' → False))) hinv hK1 nx
    · exact z_input (K := fun A => vp_in (nI k + 1) L ∧ (vp_in (nI k + 2) L ∧ A)) (Q := fun r s r' t => ((r = r' → wp_L_law_585 G (fun a => wp_L_law_18 G post (m + 1) a.1 a.2.1 a.2.2.1 a.2.2.2) post (s, t) (nI k) bm bs) ∧ (¬ r = r' → False))) hinv hK2 nx
    · exact z_run (K := fun A => vp_in (nI k + 1) L ∧ A) (Q := fun r s r' t => ((r = r' → wp_L_law_585 G (fun a => wp_L_law_18 G post (m + 1) a.1 a.2.1 a.2.2.1 a.2.2.2) post (s, t) (nI k) bm bs) ∧ (¬ r = r' → False))) hinv hK1 nx
    · exact z_ran (K := fun A => vp_in (nI k + 1) L ∧ A) (Q := fun r s r' t => ((r = r' → wp_L_law_585 G (fun a => wp_L_law_18 G post (m + 1) a.1 a.2.1 a.2.2.1 a.2.2.2) post (s, t) (nI k) bm bs) ∧ (¬ r = r' → False))) hinv hK1 nx
    · exact z_out (K := fun A => vp_in (nI k + 1) L ∧ A) (Q := fun r s r' t => ((r = r' → wp_L_law_585 G (fun a => wp_L_law_18 G post (m + 1) a.1 a.2.1 a.2.2.1 a.2.2.2) post (s, t) (nI k) bm bs) ∧ (¬ r = r' → False))) hinv hK1 nx
    · exact z_word (K := fun A => vp_in (nI k + 1) L ∧ A) (Q := fun r s r' t => ((r = r' → wp_L_law_585 G (fun a => wp_L_law_18 G post (m + 1) a.1 a.2.1 a.2.2.1 a.2.2.2) post (s, t) (nI k) bm bs) ∧ (¬ r = r' → False))) hinv hK1 nx
    · exact z_quiet (Q := fun r s r' t => ((r = r' → wp_L_law_585 G (fun a => wp_L_law_18 G post (m + 1) a.1 a.2.1 a.2.2.1 a.2.2.2) post (s, t) (nI k) bm bs) ∧ (¬ r = r' → False))) hinv nx
    · exact z_poke (K := fun A => vp_in (nI k + 1) L ∧ (vp_in (nI k + 2) L ∧ A)) (Q := fun r s r' t => ((r = r' → wp_L_law_585 G (fun a => wp_L_law_18 G post (m + 1) a.1 a.2.1 a.2.2.1 a.2.2.2) post (s, t) (nI k) bm bs) ∧ (¬ r = r' → False))) hinv hK2 nx
    · exact z_peek (K := fun A => vp_in (nI k + 1) L ∧ A) (Q := fun r s r' t => ((r = r' → wp_L_law_585 G (fun a => wp_L_law_18 G post (m + 1) a.1 a.2.1 a.2.2.1 a.2.2.2) post (s, t) (nI k) bm bs) ∧ (¬ r = r' → False))) hinv hK1 nx
    · exact z_set (K := fun A => vp_in (nI k + 1) L ∧ (vp_in (nI k + 2) L ∧ A)) (Q := fun r s r' t => ((r = r' → wp_L_law_585 G (fun a => wp_L_law_18 G post (m + 1) a.1 a.2.1 a.2.2.1 a.2.2.2) post (s, t) (nI k) bm bs) ∧ (¬ r = r' → False))) hinv hK2 nx
    · exact z_get (K := fun A => vp_in (nI k + 1) L ∧ A) (Q := fun r s r' t => ((r = r' → wp_L_law_585 G (fun a => wp_L_law_18 G post (m + 1) a.1 a.2.1 a.2.2.1 a.2.2.2) post (s, t) (nI k) bm bs) ∧ (¬ r = r' → False))) hinv hK1 nx
    · exact z_start (K := fun A => vp_in (nI k + 1) L ∧ A) (Q := fun r s r' t => ((r = r' → wp_L_law_585 G (fun a => wp_L_law_18 G post (m + 1) a.1 a.2.1 a.2.2.1 a.2.2.2) post (s, t) (nI k) bm bs) ∧ (¬ r = r' → False))) hinv hK1 nx
    · exact z_go (K := fun A => vp_in (nI k + 1) L ∧ A) (Q := fun r s r' t => ((r = r' → wp_L_law_585 G (fun a => wp_L_law_18 G post (m + 1) a.1 a.2.1 a.2.2.1 a.2.2.2) post (s, t) (nI k) bm bs) ∧ (¬ r = r' → False))) hinv hK1 nx
    · exact z_state (K := fun A => vp_in (nI k + 1) L ∧ A) (Q := fun r s r' t => ((r = r' → wp_L_law_585 G (fun a => wp_L_law_18 G post (m + 1) a.1 a.2.1 a.2.2.1 a.2.2.2) post (s, t) (nI k) bm bs) ∧ (¬ r = r' → False))) hinv hK1 nx
    · exact z_trail (Q := fun r s r' t => ((lg_cmp r r' = 0 → wp_L_law_585 G (fun a => wp_L_law_18 G post (m + 1) a.1 a.2.1 a.2.2.1 a.2.2.2) post (s, t) (nI k) bm bs) ∧ (¬ lg_cmp r r' = 0 → False))) hinv (fun r s t hi => ⟨fun _ => next s t n bm bs hi (by omega) (by omega), fun z => z (lg_self r)⟩)
    · exact next σ τ n bm bs hinv (by omega) (by omega)
theorem law_go {G : aw_G} {L : Nat} (hG : aw_sL G = L) (hL : L ≤ 3072) : ∃ n, wp_L_law_18 G (fun _ _ => True) n (iX11, iX12) 0 59933 8818415 :=
  ⟨L + 1, law_loop hG hL L 0 0 59933 8818415 iX11 iX12 (by omega) (by omega) inv_0 (by omega) (by omega)⟩
end Law
