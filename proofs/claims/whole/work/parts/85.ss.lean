section SsAll
theorem c_st {T : TX} {N L : Nat} {t8 : SX8} {t u d n : Nat} {σ : WSX7} {post : Int32 → WSX7 → Prop} (h : CI T N L t8 σ t u)
    (h2 : TK T t = 2 → wg_rd n 2 σ [nI d] (fun _ τ => post 0 τ)) (h7 : TK T t = 7 → wg_rd n 5 σ [nI d] (fun _ τ => post 0 τ)) (h8 : TK T t = 8 → wg_rd n 3 σ [nI d] (fun _ τ => post 0 τ)) (h10 : TK T t = 10 → wg_rd n 4 σ [nI d] (fun _ τ => post 0 τ))
    (hE : ¬ TK T t = 2 → ¬ TK T t = 7 → ¬ TK T t = 8 → ¬ TK T t = 10 → wp_X7_fail σ (fun τ => post 0 τ)) : wg_rd (n + 1) 1 σ [nI d] post := by
  have hr := (TK_r T t).1
  obtain ⟨a1, a2, a3, a4, a5, a6, a7⟩ := id h
  have eq : ∀ b : Nat, b < 256 → (nI (TK T t) = nI b ↔ TK T t = b) := fun b hb => nI_eq (by omega) (by omega)
  have e2 : (nI (TK T t) = (2 : Int32)) ↔ TK T t = 2 := eq 2 (by omega)
  have e3 : (nI (TK T t) = (3 : Int32)) ↔ TK T t = 3 := eq 3 (by omega)
  have e4 : (nI (TK T t) = (4 : Int32)) ↔ TK T t = 4 := eq 4 (by omega)
  have e5 : (nI (TK T t) = (5 : Int32)) ↔ TK T t = 5 := eq 5 (by omega)
  have e6 : (nI (TK T t) = (6 : Int32)) ↔ TK T t = 6 := eq 6 (by omega)
  have e7 : (nI (TK T t) = (7 : Int32)) ↔ TK T t = 7 := eq 7 (by omega)
  have e8 : (nI (TK T t) = (8 : Int32)) ↔ TK T t = 8 := eq 8 (by omega)
  have e9 : (nI (TK T t) = (9 : Int32)) ↔ TK T t = 9 := eq 9 (by omega)
  have e10 : (nI (TK T t) = (10 : Int32)) ↔ TK T t = 10 := eq 10 (by omega)
  show wp_X7_statement (wg_rd n) σ (nI d) (post 0)
  unfold wp_X7_statement
  refine c_kind a2 a3 a4 ?_
  refine ⟨fun c => h2 (e2.mp c), fun c2 => ⟨fun c => ?_, fun c3 => ⟨fun c => ?_, fun c4 => ⟨fun c => ?_, fun c5 => ⟨fun c => ?_, fun c6 => ⟨fun c => h7 (e7.mp c), fun c7 => ⟨fun c => h8 (e8.mp c), fun c8 => ⟨fun c => ?_, fun c9 => ⟨fun c => h10 (e10.mp c), fun c10 => ?_⟩⟩⟩⟩⟩⟩⟩⟩⟩
  · have := e3.mp c
    exact hE (by omega) (by omega) (by omega) (by omega)
  · have := e4.mp c
    exact hE (by omega) (by omega) (by omega) (by omega)
  · have := e5.mp c
    exact hE (by omega) (by omega) (by omega) (by omega)
  · have := e6.mp c
    exact hE (by omega) (by omega) (by omega) (by omega)
  · have := e9.mp c
    exact hE (by omega) (by omega) (by omega) (by omega)
  · exact hE (fun z => c2 (e2.mpr z)) (fun z => c7 (e7.mpr z)) (fun z => c8 (e8.mpr z)) (fun z => c10 (e10.mpr z))
theorem ss_of {T : TX} {N L : Nat} {t8 : SX8} {d f g : Nat} (hg : GL T N L) (hd : d ≤ 32) (hB : BB T N L t8 d f g) (hf : 210 ≤ f) (hg2 : 210 ≤ g) : SS T N L t8 d (f + 2) (g + 1) := by
  have hn := hg.2.1
  have hN : N ≤ 3001 := by have := hg.1.2.1; omega
  have lift : ∀ (t : Nat) (o : RO) (k : Nat), (∀ n, f ≤ n → CSt T N L t8 1 k [nI d] t o (n + 1)) → (∀ n, f ≤ n → ∀ (σ : WSX7) (u : Nat) (post : Int32 → WSX7 → Prop), CI T N L t8 σ t u → (wg_rd (n + 1) k σ [nI d] (fun _ τ => post 0 τ) → wg_rd (n + 1 + 1) 1 σ [nI d] post)) → ∀ n, f + 2 ≤ n → CSt T N L t8 1 1 [nI d] t o n := by
    intro t o k h1 h2 n hn2
    obtain ⟨n', rfl⟩ : ∃ n', n = n' + 1 + 1 := ⟨n - 2, by omega⟩
    intro σ u post h hY hF
    exact h2 n' (by omega) σ u post h (h1 n' (by omega) σ u _ h hY hF)
  intro t ht
  by_cases K2 : TK T t = 2
  · obtain ⟨o, p1, p2, p3⟩ := put_stmt (t8 := t8) hg hd ht K2
    refine ⟨o, p1, fun c => absurd c (by omega), lift t o 2 (fun n hn2 => p2 n (by omega)) (fun n hn2 σ u post h w => c_st h (fun _ => w) (fun c => absurd c (by omega)) (fun c => absurd c (by omega)) (fun c => absurd c (by omega)) (fun c => absurd K2 c)), fun n hn2 => ?_⟩
    obtain ⟨n', rfl⟩ : ∃ n', n = n' + 1 := ⟨n - 1, by omega⟩
    exact p3 n' (by omega)
  · by_cases K7 : TK T t = 7
    · obtain ⟨o, p1, p2, p3⟩ := out_stmt (t8 := t8) hg hd ht K7
      refine ⟨o, p1, fun c => absurd c (by omega), lift t o 5 (fun n hn2 => p2 n (by omega)) (fun n hn2 σ u post h w => c_st h (fun c => absurd c K2) (fun _ => w) (fun c => absurd c (by omega)) (fun c => absurd c (by omega)) (fun _ c => absurd K7 c)), fun n hn2 => ?_⟩
      obtain ⟨n', rfl⟩ : ∃ n', n = n' + 1 := ⟨n - 1, by omega⟩
      exact p3 n' (by omega)
    · by_cases K8 : TK T t = 8
      · obtain ⟨o, p1, p2, p3⟩ := if_stmt hg hd hB ht K8
        refine ⟨o, p1, fun c => absurd c (by omega), lift t o 3 (fun n hn2 => p2 n (by omega) hn2) (fun n hn2 σ u post h w => c_st h (fun c => absurd c K2) (fun c => absurd c K7) (fun _ => w) (fun c => absurd c (by omega)) (fun _ _ c => absurd K8 c)), fun n hn2 => ?_⟩
        obtain ⟨n', rfl⟩ : ∃ n', n = n' + 1 := ⟨n - 1, by omega⟩
        exact p3 n' (by omega) (by omega)
      · by_cases K10 : TK T t = 10
        · obtain ⟨o, p1, p2, p3⟩ := while_stmt hg hd hB ht K10
          refine ⟨o, p1, fun c => absurd c (by omega), lift t o 4 (fun n hn2 => p2 n (by omega) hn2) (fun n hn2 σ u post h w => c_st h (fun c => absurd c K2) (fun c => absurd c K7) (fun c => absurd c K8) (fun _ => w) (fun _ _ _ c => absurd K10 c)), fun n hn2 => ?_⟩
          obtain ⟨n', rfl⟩ : ∃ n', n = n' + 1 := ⟨n - 1, by omega⟩
          exact p3 n' (by omega) (by omega)
        · refine ⟨(t, none), ⟨fun e he => (by cases he), Nat.le_refl _, ht⟩, fun _ => rfl, fun n hn2 σ u post h hY hF => ?_, fun n hn2 τ q post h hY hF => ?_⟩
          · obtain ⟨n', rfl⟩ : ∃ n', n = n' + 1 := ⟨n - 1, by omega⟩
            exact c_st h (fun c => absurd c K2) (fun c => absurd c K7) (fun c => absurd c K8) (fun c => absurd c K10) (fun _ _ _ _ => c_fail h (fun σ' c => hF rfl σ' c))
          · obtain ⟨n', rfl⟩ : ∃ n', n = n' + 1 := ⟨n - 1, by omega⟩
            obtain ⟨a1, a2, a3, a4, a5, a6⟩ := id h
            refine m_st hN h (TK T t) rfl K2 _ rfl (fun c => absurd c K7) (fun c => c.elim (fun z => absurd z K8) (fun z => absurd z K10)) (fun _ _ _ => ?_)
            exact hF rfl _ (q + 1) q ⟨rfl, a2, a3, a4, a5.nd 0 0, by omega⟩ ⟨rfl, rfl, rfl, rfl, rfl⟩ (mNd_hp τ (Nat.le_refl q) _ _) (Nat.le_refl _) (by omega) pk_us
theorem ss_all {T : TX} {N L : Nat} {t8 : SX8} (hg : GL T N L) : ∀ k d, d + k = 31 → SS T N L t8 d (212 + 4 * k) (211 + 2 * k) := by
  intro k
  induction k with
  | zero =>
    intro d hd
    have hB : BB T N L t8 d 210 210 := by
      intro t ht
      obtain ⟨o, h1, h2, h3⟩ := bb_deep (d := d) (t8 := t8) hg (by omega) (by omega) t ht
      exact ⟨o, h1, fun n hn => h2 n (by omega), fun n hn => h3 n (by omega)⟩
    exact ss_of hg (by omega) hB (Nat.le_refl _) (Nat.le_refl _)
  | succ k ih =>
    intro d hd
    have hB : BB T N L t8 d (212 + 4 * k + 2) (211 + 2 * k + 1) := bb_of hg (by omega) (ih (d + 1) (by omega))
    have hS := ss_of hg (by omega) hB (by omega) (by omega)
    rw [show 212 + 4 * (k + 1) = 212 + 4 * k + 2 + 2 by omega, show 211 + 2 * (k + 1) = 211 + 2 * k + 1 + 1 by omega]
    exact hS
end SsAll
