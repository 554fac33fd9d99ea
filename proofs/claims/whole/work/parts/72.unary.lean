section Unary
def QQ (T : TX) (N L : Nat) (t8 : SX8) (d f g : Nat) : Prop := ∀ t, t < N → ∃ o, GoodO T N t o (hpl (uh (d + 1)) 7) ∧ (∀ n, f ≤ n → CEx T N L t8 7 [nI d] t o n) ∧ (∀ n, g ≤ n → MEx T N 2 [nI d] t o n)
theorem rr_7 {T : TX} {N L : Nat} {t8 : SX8} {d f g : Nat} (hg : GL T N L) (hd : d < 1000) (hU : UU T N L t8 (d + 1) f g) : RR T N L t8 7 d (f + 1) (g + 1) := by
  have hn := hg.2.1
  have hN : N ≤ 3001 := by have := hg.1.2.1; omega
  intro t ht
  obtain ⟨o, h1, h2, h3⟩ := hU t ht
  refine ⟨o, h1.mono (hle.p0 _ _), fun e he => by have := lvl_le (TK T o.1); omega, fun n hn2 σ u post h hY hF => ?_, fun n hn2 τ q post h hY hF => ?_⟩
  · obtain ⟨n', rfl⟩ : ∃ n', n = n' + 1 := ⟨n - 1, by omega⟩
    show wg_rd n' 9 σ [nI d + 1] _
    rw [nI_1]
    refine h2 n' (by omega) σ u _ h (fun e he σ' b1 b2 b3 b4 b5 => ⟨1, ?_⟩) (fun he σ' b1 => ⟨1, ?_⟩)
    · have done := hY e he σ' b1 b2 b3 b4 b5
      obtain ⟨a1, a2, a3, a4, a5, a6, a7⟩ := id b1
      show wb_X7_parts_9 (wg_rd n') (post 0) _ σ' (nI 7) (nI d) 0
      refine ⟨fun _ => done, fun _ => ⟨fun _ => done, fun _ => c_kind a2 a3 a4 (c_place a2 a3 a4 (c_level (TK_r T o.1).1 ⟨fun c => absurd c ?_, fun _ => done⟩))⟩⟩
      unfold lv32
      split
      · exact nI_ge (by omega) (by omega)
      · decide
    · exact c_stopF hn b1 (by omega) (hF he σ' b1)
  · obtain ⟨n', rfl⟩ : ∃ n', n = n' + 1 := ⟨n - 1, by omega⟩
    exact ⟨fun c => absurd rfl c, fun _ => h3 n' (by omega) τ q post h hY hF⟩
theorem rr_l {T : TX} {N L : Nat} {t8 : SX8} {d f g : Nat} (hg : GL T N L) (hd : d < 1000) (hU : UU T N L t8 (d + 1) f g) : ∀ j l, l + j = 7 → RR T N L t8 l d (f + (8 - l)) (g + (8 - l)) := by
  have hn := hg.2.1
  have hN : N ≤ 3001 := by have := hg.1.2.1; omega
  intro j
  induction j using Nat.strongRecOn with
  | ind j ih =>
    intro l hl
    by_cases hj : j = 0
    · have e : l = 7 := by omega
      subst e
      exact rr_7 hg hd hU
    · have hR : ∀ c, l ≤ c → c ≤ 6 → RR T N L t8 (c + 1) d (f + (7 - c)) (g + (7 - c)) := by
        intro c h1 h2
        have := ih (7 - (c + 1)) (by omega) (c + 1) (by omega)
        rw [show 8 - (c + 1) = 7 - c by omega] at this
        exact this
      have tl := tail (f := f) (g := g) hg (by omega) hR
      intro t ht
      obtain ⟨o1, ⟨h1, h1b, h1c⟩, h2, h3⟩ := hU t ht
      cases ho : o1.2 with
      | none =>
        refine ⟨(o1.1, none), ⟨fun e he => (by cases he), h1b, h1c⟩, fun e he => (by cases he), fun n hn2 σ u post h hY hF => ?_, fun n hn2 τ q post h hY hF => ?_⟩
        · obtain ⟨n', rfl⟩ : ∃ n', n = n' + 1 := ⟨n - 1, by omega⟩
          show wg_rd n' 9 σ [nI d + 1] _
          rw [nI_1]
          refine h2 n' (by omega) σ u _ h (fun e he => by rw [ho] at he; cases he) (fun he σ' b1 => ⟨1, ?_⟩)
          exact c_stopF hn b1 (by omega) (hF rfl σ' b1)
        · obtain ⟨n', rfl⟩ : ∃ n', n = n' + (7 - l) + 1 := ⟨n - (7 - l) - 1, by omega⟩
          refine m_levels (7 - l) l τ post (by omega) h.1 ?_
          refine h3 n' (by omega) τ q _ h (fun e he => by rw [ho] at he; cases he) (fun he τ' q' i b1 b2 b3 b4 b5 b6 => ?_)
          exact m_levelsB b1 (hF rfl τ' q' i b1 b2 b3 b4 b5 b6) _
      | some e1 =>
        obtain ⟨w1, t1, p1⟩ := h1 e1 ho
        obtain ⟨o, ⟨q1, q2, q3⟩, q4, q5⟩ := tl (N - o1.1) o1.1 e1 (Nat.le_refl _) h1c w1.1
        refine ⟨o, ⟨fun e he => ?_, by omega, q3⟩, fun e he => (q1 e he).2.2, fun n hn2 σ u post h hY hF => ?_, fun n hn2 τ q post h hY hF => ?_⟩
        · obtain ⟨z1, z2, z3⟩ := q1 e he
          exact ⟨⟨z1.1, z1.2 t (w1.2.mono (Nat.le_refl _) (Nat.le_refl _) (hle.p0 _ _))⟩, by omega, by omega⟩
        · obtain ⟨n', rfl⟩ : ∃ n', n = n' + 1 := ⟨n - 1, by omega⟩
          show wg_rd n' 9 σ [nI d + 1] _
          rw [nI_1]
          refine h2 n' (by omega) σ u _ h (fun e he σ' b1 b2 b3 b4 b5 => ⟨N + 1, ?_⟩) (fun he => by rw [ho] at he; cases he)
          rw [ho] at he
          cases he
          have ee : u + sz T e1 - sz T e1 = u := by omega
          refine q4 n' (by omega) (N + 1) 0 (by omega) (by omega) σ' (u + sz T e1) _ b1 (by omega) b4 b5 (fun e' he' σ3 d1 d2 d3 d4 d5 => ?_) (fun he' σ3 d1 => hF he' σ3 d1)
          rw [ee] at d1 d2 d3 d4 d5
          exact hY e' he' σ3 d1 (b2.tr d2 (Nat.le_refl _) (Nat.le_refl _) (Nat.le_refl _) (Nat.le_refl _)) (b3.tr d3 (Nat.le_refl _) (Nat.le_refl _) (Nat.le_refl _) (Nat.le_refl _)) d4 d5
        · obtain ⟨n', rfl⟩ : ∃ n', n = n' + (7 - l) + 1 := ⟨n - (7 - l) - 1, by omega⟩
          refine m_levels (7 - l) l τ post (by omega) h.1 ?_
          refine h3 n' (by omega) τ q _ h (fun e he τ' q' i b1 b2 b3 b4 b5 b6 => ?_) (fun he => by rw [ho] at he; cases he)
          rw [ho] at he
          cases he
          have key := q5 n' 6 (by omega) (by omega) (by omega) (by have := lvl_le (TK T o1.1); omega) (N + 1) (by omega) τ' q' q q' i post b1 b6 (Nat.le_refl _) b5 (fun e' he' τ3 q3 i3 d1 d2 d3 d4 d5 d6 => hY e' he' τ3 q3 i3 d1 (by omega) (b3.tr d3) (b4.tr d4 (Nat.le_refl _)) d5 d6) (fun he' τ3 q3 i3 d1 d2 d3 d4 d5 d6 => hF he' τ3 q3 i3 d1 (b3.tr d2) (b4.tr d3 (Nat.le_refl _)) d4 d5 d6)
          obtain ⟨j', ej⟩ : ∃ j', 7 - l = j' + 1 := ⟨6 - l, by omega⟩
          rw [ej]
          show wp_X12_level_40 (wg_st (n' + (7 - (l + j')))) (PP n' (nI (d + 1)) l post j') τ' (nI (l + j')) (nI (d + 1)) (nI i)
          rw [show l + j' = 6 by omega]
          rw [show 6 - l = j' by omega] at key
          exact ⟨_, key⟩
theorem qq_of {T : TX} {N L : Nat} {t8 : SX8} {d f g : Nat} (hg : GL T N L) (hd : d ≤ 30) (hU : UU T N L t8 (d + 1) f g) : QQ T N L t8 d (f + 9) (g + 9) := by
  have hr := rr_l hg (by omega) hU 7 0 rfl
  intro t ht
  obtain ⟨o, h1, h2, h3, h4⟩ := hr t ht
  have le : nI d ≤ 30 := nI_le (b := 30) hd (by omega)
  refine ⟨o, h1.mono (hle.pl _ (by omega)), fun n hn2 σ u post h hY hF => ?_, fun n hn2 τ q post h hY hF => ?_⟩
  · obtain ⟨n', rfl⟩ : ∃ n', n = n' + 1 := ⟨n - 1, by omega⟩
    exact ⟨fun _ => h3 n' (by omega) σ u (fun _ τ2 => post 0 τ2) h hY hF, fun c => absurd le c⟩
  · obtain ⟨n', rfl⟩ : ∃ n', n = n' + 1 := ⟨n - 1, by omega⟩
    refine ⟨fun c => absurd h.1 c, fun _ => ⟨fun _ => ⟨bz0, ?_⟩, fun c => absurd le c⟩⟩
    show wg_st n' 3 (((τ.1.1.1, ((τ.1.1.2.1.1, (0, τ.1.1.2.1.2.2)), τ.1.1.2.2)), τ.1.2), τ.2) [nI 0, nI d + 1] _
    rw [nI_1]
    refine h4 n' (by omega) (((τ.1.1.1, ((τ.1.1.2.1.1, (0, τ.1.1.2.1.2.2)), τ.1.1.2.2)), τ.1.2), τ.2) q (fun r1 τ2 => post r1 τ2) ⟨rfl, h.2⟩ (fun e he τ' q' i b1 b2 b3 b4 b5 b6 => hY e he τ' q' i b1 b2 ?_ b4 b5 b6) (fun he τ' q' i b1 b2 b3 b4 b5 b6 => hF he τ' q' i b1 ?_ b3 b4 b5 b6)
    · obtain ⟨c1, c2, c3, c4, c5⟩ := b3
      exact ⟨c1, c2, c3, c4, c5⟩
    · obtain ⟨c1, c2, c3, c4, c5⟩ := b2
      exact ⟨c1, c2, c3, c4, c5⟩
theorem qq_deep {T : TX} {N L : Nat} {t8 : SX8} {d : Nat} (hg : GL T N L) (hd : 30 < d) (hd2 : d < 1000) : QQ T N L t8 d 3 2 := by
  have hn := hg.2.1
  have hN : N ≤ 3001 := by have := hg.1.2.1; omega
  intro t ht
  have nle : ¬ nI d ≤ 30 := fun c => by have := (nI_leI (b := 30) (by omega) (by omega)).mp c; omega
  have nle1 : ¬ nI d + 1 ≤ 30 := fun c => by
    rw [nI_1] at c
    have := (nI_leI (b := 30) (by omega) (by omega)).mp c
    omega
  refine ⟨(t, none), ⟨fun e he => (by cases he), Nat.le_refl _, ht⟩, fun n hn2 σ u post h hY hF => ?_, fun n hn2 τ q post h hY hF => ?_⟩
  · obtain ⟨n', rfl⟩ : ∃ n', n = n' + 3 := ⟨n - 3, by omega⟩
    refine ⟨fun c => absurd c nle, fun _ => c_fail h (fun σ' b => ?_)⟩
    refine ⟨fun c => absurd c nle1, fun _ => c_failF b hn ⟨fun c => absurd c (b.ne hn), fun _ => ⟨1, ?_⟩⟩⟩
    exact c_stopF hn b (by omega) (hF rfl σ' b)
  · obtain ⟨n', rfl⟩ : ∃ n', n = n' + 2 := ⟨n - 2, by omega⟩
    obtain ⟨a1, a2, a3, a4, a5, a6⟩ := h
    refine ⟨fun c => absurd a1 c, fun _ => ⟨fun c => absurd c nle, fun _ => ⟨bz1, ?_⟩⟩⟩
    have n10 : ¬ (1 : Int32) = 0 := by decide
    refine ⟨fun _ => ⟨fun c => absurd c n10, fun _ => m_node a5 (by omega) ⟨1, ?_⟩⟩, fun c => absurd c (by decide)⟩
    refine ⟨fun _ => ?_, fun c => absurd c n10⟩
    refine hF rfl _ (q + 1) q ⟨rfl, a2, a3, a4, a5.nd 0 0, ?_⟩ ⟨rfl, rfl, rfl, rfl, rfl⟩ ?_ (Nat.le_refl _) (by omega) pk_us
    · show q + 1 ≤ t + 2
      omega
    · exact mNd_hp (((τ.1.1.1, ((τ.1.1.2.1.1, (1, τ.1.1.2.1.2.2)), τ.1.1.2.2)), τ.1.2), τ.2) (Nat.le_refl q) _ _
end Unary
