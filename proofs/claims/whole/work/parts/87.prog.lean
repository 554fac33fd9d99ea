section Prog
theorem wK_lev {T : TX} {p len : Nat} (h : wK T p len = 4 ∨ wK T p len = 5) : 3 ≤ len := by
  unfold wK at h
  repeat' split at h
  all_goals first
    | (rename_i q; have := eqW_len q; simp [aw_lenS] at this; omega)
    | omega
theorem LN_lev {T : TX} {t : Nat} (h : TK T t = 4 ∨ TK T t = 5) : PL T t + 3 ≤ PL T (t + 1) := by
  have h3 := PL_next T t
  have : 3 ≤ LN T t := by
    unfold TK at h
    unfold LN
    by_cases hlt : PL T t < T.2
    · cases e1 : isLet (T.1 (PL T t)) with
      | true =>
        obtain ⟨k1, k2, _⟩ := kdA_let hlt e1
        rw [k2]
        rw [k1] at h
        split at h
        · exact wK_lev (T := T) (p := PL T t) h
        · omega
      | false =>
        cases e2 : isDig (T.1 (PL T t)) with
        | true =>
          rw [(kdA_dig hlt e2).1] at h
          split at h <;> omega
        | false =>
          rw [(kdA_sg hlt e1 e2).1] at h
          unfold sgK at h
          have := lsK_r (T.1 (PL T t)) (bt T (PL T t + 1))
          split at h
          · split at h
            · rename_i q2
              have := sgn_r q2
              omega
            · omega
          · omega
    · rw [(kdA_end hlt).1] at h
      omega
  omega
def WFD (T : TX) (N : Nat) (x : DD) : Prop := (TK T x.1 = 4 ∨ TK T x.1 = 5) ∧ (x.2.1 = true → TK T (x.1 + 1) = 6) ∧ TK T (ntk x) = 2 ∧ (x.2.2 = true → TK T (ntk x + 1) = 91 ∧ TK T (ntk x + 2) = 3 ∧ TK T (ntk x + 3) = 93) ∧ PL T x.1 + 3 ≤ PL T (ntk x) ∧ PL T (ntk x) + 2 + 3 * bN x.2.2 ≤ PL T (ndk x) ∧ ndk x < N
def DNk (T : TX) (τ : SX12) (x : DD) (q : Nat) : Prop := τ.1.1.2.2.1 q = nI (kM (TK T x.1)) ∧ τ.1.1.2.2.2.2 q = nI (q + 1) ∧ τ.1.1.2.2.1 (q + 1) = (if x.2.1 = true then 5 else 1) ∧ (x.2.1 = true → τ.1.2.1.1.1 (q + 1) = nI (q + 2)) ∧ τ.1.1.2.2.2.1 (q + 1 + bN x.2.1) = nI (ntk x) ∧ τ.1.1.2.2.2.2 (q + 1 + bN x.2.1) = (if x.2.2 = true then nI (q + 2 + bN x.2.1) else -1) ∧ (x.2.2 = true → τ.1.1.2.2.2.1 (q + 2 + bN x.2.1) = nI (ntk x + 2))
theorem DNk.fr {T : TX} {τ τ' : SX12} {x : DD} {q : Nat} (h : DNk T τ x q) (h1 : ∀ j, q ≤ j → j < q + dn x → τ'.1.1.2.2.1 j = τ.1.1.2.2.1 j ∧ τ'.1.1.2.2.2.1 j = τ.1.1.2.2.2.1 j ∧ τ'.1.1.2.2.2.2 j = τ.1.1.2.2.2.2 j) (h2 : ∀ j, q < j → j < q + dn x → τ'.1.2.1.1.1 j = τ.1.2.1.1.1 j) : DNk T τ' x q := by
  obtain ⟨t, i, r⟩ := x
  obtain ⟨g1, g2, g3, g4, g5, g6, g7⟩ := h
  have hd : dn (t, i, r) = 2 + bN i + bN r := rfl
  refine ⟨(h1 q (by omega) (by omega)).1.trans g1, (h1 q (by omega) (by omega)).2.2.trans g2, (h1 (q + 1) (by omega) (by omega)).1.trans g3, fun c => (h2 (q + 1) (by omega) (by omega)).trans (g4 c), (h1 _ (by show q ≤ q + 1 + bN i; omega) (by show q + 1 + bN i < _; omega)).2.1.trans g5, (h1 _ (by show q ≤ q + 1 + bN i; omega) (by show q + 1 + bN i < _; omega)).2.2.trans g6, fun c => ?_⟩
  have c2 : r = true := c
  subst c2
  have : bN true = 1 := rfl
  exact (h1 _ (by show q ≤ q + 2 + bN i; omega) (by show q + 2 + bN i < _; omega)).2.1.trans (g7 c)
theorem mann_or (T : TX) (t : Nat) : (if TK T t = 5 then (1 : Int32) else 0) ||| 2 = nI ((if TK T t = 5 then 1 else 0) + 2) := by
  split <;> rfl
theorem decl {T : TX} {N L : Nat} {t8 : SX8} (hg : GL T N L) {t : Nat} (ht : t < N) (K : TK T t = 4 ∨ TK T t = 5) : ∃ o : Nat × Option DD,
    ((∀ x, o.2 = some x → x.1 = t ∧ WFD T N x ∧ o.1 = ndk x) ∧ t < o.1 ∧ o.1 < N) ∧
    (∀ (σ : WSX7) (u : Nat) (post : WSX7 → Prop), CI T N L t8 σ t u →
      (∀ x, o.2 = some x → ∀ σ', CI T N L t8 σ' o.1 (u + 1 + bN x.2.2) → AG σ.2.2 σ'.2.2 0 u → AV σ.2.2 σ'.2.2 0 u → nv σ'.2.2 u 11 (PL T (ntk x)) (nI (mann T x)) → (x.2.2 = true → nv σ'.2.2 (u + 1) 12 (PL T (ntk x + 2)) (nI (NB T (ntk x + 2)))) → post σ') →
      (o.2 = none → ∀ σ', CF T N L t8 σ' o.1 → post σ') → wp_X7_declaration σ post) ∧
    (∀ (τ : SX12) (q b : Nat) (rec : SX12 × Int32 → Prop) (post : Int32 → SX12 → Prop), MI T N τ t q →
      (∀ x, o.2 = some x → ∀ τ', MI T N τ' o.1 (q + dn x) → MOF τ τ' → HP τ τ' q → τ'.1.2.1.1.1 q = -1 → DNk T τ' x q → wp_X12_add τ' (nI b) (nI q) (fun τ23 => rec (τ23, nI b))) →
      (o.2 = none → ∀ τ' q', MB T N 3 τ' o.1 q' → q < q' → MOF τ τ' → HP τ τ' q → τ'.1.2.1.1.1 q = -1 → wp_X12_add τ' (nI b) (nI q) (fun τ23 => rec (τ23, nI b))) → wp_X12_program_42 rec post τ (nI b)) := by
  have hn := hg.2.1
  have hN : N ≤ 3001 := by have := hg.1.2.1; omega
  have hL := hg.2.2.1
  have hr := TK_r T t
  have hnf := not_fin hg.1 ht (k := TK T t) rfl (by omega) (by omega)
  have hPL := LN_lev K
  have hr1 := TK_r T (t + 1)
  have c16 : ∀ (σ : WSX7) (u : Nat) (post : WSX7 → Prop), CI T N L t8 σ t u → wp_X7_declaration_16 post σ (if TK T t = 5 then 1 else 0) → wp_X7_declaration σ post := by
    intro σ u post h w
    obtain ⟨a1, a2, a3, a4, a5, a6, a7⟩ := id h
    refine c_kind a2 a3 a4 ⟨fun c => ?_, fun c => ?_⟩
    · rw [if_neg (fun z => c (by rw [z]; rfl))] at w
      exact w
    · rw [if_pos ((nI_eq (b := 5) (by omega) (by omega)).mp c)] at w
      exact w
  by_cases I : TK T (t + 1) = 6
  · have hnf1 := not_fin hg.1 hnf.2 I (by omega) (by omega)
    have hPL1 := PL_succ hnf1.1
    obtain ⟨o, ⟨p1, p2, p3⟩, p4, p5⟩ := dtail (t8 := t8) hg hnf1.2
    refine ⟨(o.1, o.2.map (fun r => (t, true, r))), ⟨fun x hx => ?_, by show t < o.1; omega, p3⟩, fun σ u post h hY hF => ?_, fun τ q b rec post h hY hF => ?_⟩
    · cases ho : o.2 with
      | none =>
        rw [ho] at hx
        cases hx
      | some r =>
        rw [ho] at hx
        cases hx
        obtain ⟨w1, w2, w3, w4⟩ := p1 r ho
        exact ⟨rfl, ⟨K, fun _ => I, w1, w2, by show PL T t + 3 ≤ PL T (t + 1 + 1); omega, by rw [w3] at w4; exact w4, by rw [w3] at p3; exact p3⟩, w3⟩
    · obtain ⟨a1, a2, a3, a4, a5, a6, a7⟩ := id h
      refine c16 σ u post h ?_
      obtain ⟨ci, _⟩ := h.nx hnf
      obtain ⟨ci2, _⟩ := ci.nx hnf1
      refine c_next a2 a3 a4 (c_kind ci.2.1 ci.2.2.1 ci.2.2.2.1 ⟨fun c => absurd (by rw [I]; rfl) c, fun _ y ey => ?_⟩)
      rw [ey, mann_or]
      refine c_next ci.2.1 ci.2.2.1 ci.2.2.2.1 ?_
      refine p4 _ u _ post ci2 (by omega) (fun r hr σ' c1 c2 c3 c4 c5 => ?_) (fun hr σ' c => hF (by rw [hr]; rfl) σ' c)
      exact hY (t, true, r) (by rw [hr]; rfl) σ' c1 c2 c3 c4 c5
    · obtain ⟨a1, a2, a3, a4, a5, a6⟩ := id h
      unfold wp_X12_program_42
      rw [a2, nI_clamp (by omega), m_tok a4 a3]
      refine ⟨in_k (by omega) (by omega), m_node a5 (by omega) (fun y ey => ?_)⟩
      have ey : y = nI (t + 1) := by
        rw [ey]
        show τ.1.1.2.1.1 + 1 = _
        rw [a2, nI_1]
      have tk : (mNd τ q (nI (kM (TK T t))) (nI t)).1.1.1.2.1 (t + 1) = nI (kM (TK T (t + 1))) := m_tok a4 hnf.2
      rw [ey, nI_clamp (by omega), tk]
      refine ⟨in_k (by omega) (by omega), fun c => absurd (by rw [I]; rfl) c, fun _ => m_node (a5.nd 0 0) (by omega) (m_add0 (by omega) ((pk_un (k := q + 1) (by omega)).trans pk_us) (fun y2 ey2 => ?_))⟩
      have ey2 : y2 = nI (t + 1 + 1) := by
        rw [ey2]
        exact nI_1 (t + 1)
      rw [ey2]
      refine p5 _ q (q + 2) b (some (q + 1)) rec post ⟨a1, rfl, hnf1.2, a4, (a5.nd 0 0).nd 0 0, by omega⟩ (by omega) (fun y hy => by cases hy; omega) (fun τ' hp => ?_) (fun r hr τ' b1 b2 b3 b4 b5 b6 b7 b8 b9 => ?_) (fun hr τ' q' b1 b2 b3 b4 => ?_)
      · refine ⟨q + 1, [], by omega, (hp q (by omega)).2.2.1.trans pk_us, (hp (q + 1) (by omega)).2.2.2.trans pk_us, rfl⟩
      · have b4' : τ'.1.2.1.1.1 (q + 1) = nI (q + 2) := b4
        obtain ⟨s1, s2, s3, s4⟩ := b3 q (by omega)
        obtain ⟨u1, u2, u3, u4⟩ := b3 (q + 1) (by omega)
        have e1 : dn (t, true, r) = 3 + bN r := by show 2 + 1 + bN r = _; omega
        refine hY (t, true, r) (by rw [hr]; rfl) τ' (by rw [e1, show q + (3 + bN r) = q + 2 + 1 + bN r by omega]; exact b1) ⟨b2.1, b2.2.1, b2.2.2.1, b2.2.2.2.1, b2.2.2.2.2⟩ (fun j hj => ?_) ?_ ?_
        · have n1 : j ≠ q + 1 := by omega
          have n2 : j ≠ q := by omega
          obtain ⟨v1, v2, v3, v4⟩ := b3 j (by omega)
          exact ⟨v1.trans ((pk_un n1).trans (pk_un n2)), v2.trans ((pk_un n1).trans (pk_un n2)), (v3 (fun z => by cases z.1)).trans ((pk_un (k := q) n2).trans ((pk_un n1).trans (pk_un n2))), (v4 (fun z => by cases z; omega)).trans ((pk_un n1).trans (pk_un n2))⟩
        · exact (s4 (fun z => by cases z)).trans ((pk_un (k := q + 1) (by omega)).trans pk_us)
        · exact ⟨s1.trans ((pk_un (k := q + 1) (by omega)).trans pk_us), (s3 (fun z => by cases z.1)).trans pk_us, u1.trans pk_us, fun _ => b4', b6, b8, fun c => b9 c⟩
      · obtain ⟨s1, s2, s3, s4⟩ := b4 q (by omega)
        refine hF (by rw [hr]; rfl) τ' q' b1 (by omega) ⟨b3.1, b3.2.1, b3.2.2.1, b3.2.2.2.1, b3.2.2.2.2⟩ (fun j hj => ?_) ?_
        · have n1 : j ≠ q + 1 := by omega
          have n2 : j ≠ q := by omega
          obtain ⟨v1, v2, v3, v4⟩ := b4 j (by omega)
          exact ⟨v1.trans ((pk_un n1).trans (pk_un n2)), v2.trans ((pk_un n1).trans (pk_un n2)), (v3 (fun z => by cases z.1)).trans ((pk_un (k := q) n2).trans ((pk_un n1).trans (pk_un n2))), (v4 (fun z => by cases z; omega)).trans ((pk_un n1).trans (pk_un n2))⟩
        · exact (s4 (fun z => by cases z)).trans ((pk_un (k := q + 1) (by omega)).trans pk_us)
  · obtain ⟨o, ⟨p1, p2, p3⟩, p4, p5⟩ := dtail (t8 := t8) hg hnf.2
    refine ⟨(o.1, o.2.map (fun r => (t, false, r))), ⟨fun x hx => ?_, by show t < o.1; omega, p3⟩, fun σ u post h hY hF => ?_, fun τ q b rec post h hY hF => ?_⟩
    · cases ho : o.2 with
      | none =>
        rw [ho] at hx
        cases hx
      | some r =>
        rw [ho] at hx
        cases hx
        obtain ⟨w1, w2, w3, w4⟩ := p1 r ho
        exact ⟨rfl, ⟨K, fun c => (by cases c), w1, w2, hPL, by rw [w3] at w4; exact w4, by rw [w3] at p3; exact p3⟩, w3⟩
    · obtain ⟨a1, a2, a3, a4, a5, a6, a7⟩ := id h
      refine c16 σ u post h ?_
      obtain ⟨ci, _⟩ := h.nx hnf
      refine c_next a2 a3 a4 (c_kind ci.2.1 ci.2.2.1 ci.2.2.2.1 ⟨fun _ => ?_, fun c => absurd ((nI_eq (b := 6) (by omega) (by omega)).mp c) I⟩)
      have em : (if TK T t = 5 then (1 : Int32) else 0) = nI (mann T (t, false, true)) := by
        unfold mann
        rw [if_neg (show ¬ false = true by decide)]
        show _ = nI ((if TK T t = 5 then 1 else 0) + 0)
        split <;> rfl
      refine p4 _ u _ post ci (by omega) (fun r hr σ' c1 c2 c3 c4 c5 => ?_) (fun hr σ' c => hF (by rw [hr]; rfl) σ' c)
      rw [em] at c4
      exact hY (t, false, r) (by rw [hr]; rfl) σ' c1 c2 c3 c4 c5
    · obtain ⟨a1, a2, a3, a4, a5, a6⟩ := id h
      unfold wp_X12_program_42
      rw [a2, nI_clamp (by omega), m_tok a4 a3]
      refine ⟨in_k (by omega) (by omega), m_node a5 (by omega) (fun y ey => ?_)⟩
      have ey : y = nI (t + 1) := by
        rw [ey]
        show τ.1.1.2.1.1 + 1 = _
        rw [a2, nI_1]
      have tk : (mNd τ q (nI (kM (TK T t))) (nI t)).1.1.1.2.1 (t + 1) = nI (kM (TK T (t + 1))) := m_tok a4 hnf.2
      rw [ey, nI_clamp (by omega), tk]
      refine ⟨in_k (by omega) (by omega), fun _ => ?_, fun c => absurd (kM_inj (b := 6) hr1.1 hr1.2 (by omega) (by omega) c) I⟩
      refine p5 _ q (q + 1) b none rec post ⟨a1, rfl, hnf.2, a4, a5.nd 0 0, by omega⟩ (by omega) (fun y hy => by cases hy) (fun τ' hp => (hp q (by omega)).2.2.1.trans pk_us) (fun r hr τ' b1 b2 b3 b4 b5 b6 b7 b8 b9 => ?_) (fun hr τ' q' b1 b2 b3 b4 => ?_)
      · have b4' : τ'.1.1.2.2.2.2 q = nI (q + 1) := b4
        obtain ⟨s1, s2, s3, s4⟩ := b3 q (by omega)
        have e1 : dn (t, false, r) = 2 + bN r := by show 2 + 0 + bN r = _; omega
        refine hY (t, false, r) (by rw [hr]; rfl) τ' (by rw [e1, show q + (2 + bN r) = q + 1 + 1 + bN r by omega]; exact b1) ⟨b2.1, b2.2.1, b2.2.2.1, b2.2.2.2.1, b2.2.2.2.2⟩ (fun j hj => ?_) ?_ ?_
        · have n2 : j ≠ q := by omega
          obtain ⟨v1, v2, v3, v4⟩ := b3 j (by omega)
          exact ⟨v1.trans (pk_un n2), v2.trans (pk_un n2), (v3 (fun z => n2 z.2)).trans (pk_un n2), (v4 (by simp)).trans (pk_un n2)⟩
        · exact (s4 (by simp)).trans pk_us
        · exact ⟨s1.trans pk_us, b4', b5, fun c => (by cases c), b6, b8, fun c => b9 c⟩
      · obtain ⟨s1, s2, s3, s4⟩ := b4 q (by omega)
        refine hF (by rw [hr]; rfl) τ' q' b1 (by omega) ⟨b3.1, b3.2.1, b3.2.2.1, b3.2.2.2.1, b3.2.2.2.2⟩ (fun j hj => ?_) ?_
        · have n2 : j ≠ q := by omega
          obtain ⟨v1, v2, v3, v4⟩ := b4 j (by omega)
          exact ⟨v1.trans (pk_un n2), v2.trans (pk_un n2), (v3 (fun z => n2 z.2)).trans (pk_un n2), (v4 (by simp)).trans (pk_un n2)⟩
        · exact (s4 (by simp)).trans pk_us
end Prog
