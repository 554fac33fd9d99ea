section Calls4
variable {K : Prop → Prop} {Q : Int32 → WSX11 → Int32 → SX12 → Prop} {σ : WSX11} {τ : SX12} {n : Nat}
theorem z_feed {a1 a2 a3 a4 a5 : Int32} (h : INV σ τ n) (hK : ∀ A : Prop, A → K A) (hQ : ∀ r σ' τ' n', n' ≤ n + 20 → INV σ' τ' n' → Q r σ' r τ') : wp_X11_feed σ a1 a2 a3 a4 a5 (fun r σ' => K (wp_X12_feed τ a1 a2 a3 a4 a5 (Q r σ'))) := by
  obtain ⟨r1, ⟨h1, hu, h2, tb⟩, r3, r4, r5⟩ := id h
  unfold wp_X11_feed wp_X8_hasRoom
  rw [h1]
  by_cases hc : n + 20 ≤ 3000
  · refine ⟨fun c => absurd ((nI_ltI (a := 2980) (by omega) (by omega)).mp c) (by omega), fun _ => ⟨fun _ => ?_, fun c => absurd c (by decide)⟩⟩
    have e : σ.1.1.2.1 = (σ.1.1.2.1.1, nI n) := by rw [← h1]
    rw [e]
    refine c_add (by omega) (c_add (by omega) (c_add (by omega) (c_add (by omega) (c_add (by omega) (hK _ ?_)))))
    refine m_feed hc h2 (hQ _ _ _ (n + 20) (Nat.le_refl _) ⟨r1, ⟨rfl, hc, rfl, tb.feed a1 a2 a3 a4 a5⟩, r3, r4, ?_⟩)
    exact r5.fr (t8 := (add20 cby σ.1.1.2.1.1 n a1 a2 a3 a4 a5, nI (n + 20))) (s2 := σ.1.2.1) (τ' := ((((((add20 mby τ.1.1.1.1.1 n a1 a2 a3 a4 a5), ((nI (n + 20)), τ.1.1.1.1.2.2)), τ.1.1.1.2), τ.1.1.2), τ.1.2), τ.2)) ⟨rfl, rfl, rfl, rfl, rfl, rfl⟩ rfl rfl
  · have lt : (2980 : Int32) < nI n := (nI_ltI (a := 2980) (by omega) (by omega)).mpr (by omega)
    refine ⟨fun _ => ⟨fun c => absurd rfl c, fun _ => hK _ ?_⟩, fun c => absurd lt c⟩
    unfold wp_X12_feed
    have h2' : τ.1.1.1.1.2.1 = nI n := h2
    rw [h2']
    have e : nI n + 20 = nI (n + 20) := nI_add n 20
    rw [e]
    exact ⟨fun c => absurd ((nI_leI (b := 3000) (by omega) (by omega)).mp c) hc, fun _ => hQ _ _ _ n (by omega) h⟩
theorem rd_true {rd : Bool} {r : Nat} (a6 : rd = false → r = 0) (h : ¬ r = 0) : rd = true := by
  cases rd with
  | true => rfl
  | false => exact absurd (a6 rfl) h
theorem z_ran {a : Int32} (h : INV σ τ n) (hK : ∀ A : Prop, A → K A) (hQ : ∀ r σ' τ', INV σ' τ' n → Q r σ' r τ') : wp_X11_ran σ a (fun r σ' => K (wp_X12_ran τ a (Q r σ'))) := by
  obtain ⟨r1, r2, r3, r4, rd, r, a1, a2, a3, a4, a5, a6, a7⟩ := id h
  have a5' : τ.2.1.2.1.2.1 = bi (decide (0 < r)) := a5
  have a3' : σ.2.2.1.2.1.2 = nI r := a3
  by_cases r0 : r = 0
  · have z0 : τ.2.1.2.1.2.1 = 0 := by rw [a5', r0]; rfl
    refine ⟨fun _ => ⟨fun z => absurd rfl z, fun _ => hK _ ⟨fun z => absurd z0 z, fun _ => hQ _ _ _ h⟩⟩, fun z => absurd ?_ z⟩
    show σ.2.2.1.2.1.2 ≤ 0
    rw [a3', r0]
    decide
  · have r0' : 0 < r := Nat.pos_of_ne_zero r0
    have r2' : r < 2 ^ 31 := by omega
    have nz : ¬ τ.2.1.2.1.2.1 = 0 := by
      rw [a5', decide_eq_true r0']
      decide
    obtain ⟨T, N, g, ex, u, s, t1, t', L, M, q, x, b1, b2, b3, b4, b5, b6⟩ := a7 (rd_true a6 r0)
    obtain ⟨c1, c2, c3, c4, c5, c6⟩ := b5 r0'
    refine ⟨fun z => ?_, fun _ => ⟨fun _ => ⟨fun d0 => ?_, fun d0 => ⟨fun d1 => ?_, fun d1 => ⟨fun d2 => ?_, fun d2 => ?_⟩⟩⟩, fun z => absurd z (by decide)⟩⟩
    · have z : σ.2.2.1.2.1.2 ≤ 0 := z
      rw [a3'] at z
      exact absurd z (nI_nle r0' r2')
    · refine hK _ ⟨fun _ => ⟨fun z => absurd d0 z, fun _ => ?_⟩, fun z => absurd z nz⟩
      have e : σ.2.2.1.2.2.1 = τ.2.2.1.1.2.2 := c1
      rw [← e]
      exact hQ _ _ _ h
    · refine hK _ ⟨fun _ => ⟨fun _ => ⟨fun z => absurd d1 z, fun _ => ?_⟩, fun z => absurd z d0⟩, fun z => absurd z nz⟩
      have e : σ.2.2.1.2.2.2.1 = τ.2.1.2.2.2.2 := c2
      rw [← e]
      exact hQ _ _ _ h
    · refine hK _ ⟨fun _ => ⟨fun _ => ⟨fun _ => ⟨fun z => absurd d2 z, fun _ => ?_⟩, fun z => absurd z d1⟩, fun z => absurd z d0⟩, fun z => absurd z nz⟩
      have e : σ.2.2.1.2.2.2.2 = τ.2.1.2.2.2.1 := c3
      rw [← e]
      exact hQ _ _ _ h
    · exact hK _ ⟨fun _ => ⟨fun _ => ⟨fun _ => ⟨fun _ => hQ _ _ _ h, fun z => absurd z d2⟩, fun z => absurd z d1⟩, fun z => absurd z d0⟩, fun z => absurd z nz⟩
theorem z_out {a : Int32} (h : INV σ τ n) (hK : ∀ A : Prop, A → K A) (hQ : ∀ r σ' τ', INV σ' τ' n → Q r σ' r τ') : wp_X11_out σ a (fun r σ' => K (wp_X12_out τ a (Q r σ'))) := by
  obtain ⟨r1, r2, r3, r4, rd, r, a1, a2, a3, a4, a5, a6, a7⟩ := id h
  have a5' : τ.2.1.2.1.2.1 = bi (decide (0 < r)) := a5
  have a3' : σ.2.2.1.2.1.2 = nI r := a3
  by_cases r0 : r = 0
  · have z0 : τ.2.1.2.1.2.1 = 0 := by rw [a5', r0]; rfl
    refine ⟨fun _ => ⟨fun _ => hK _ ⟨fun _ => hQ _ _ _ h, fun z => absurd z0 z⟩, fun z => absurd rfl z⟩, fun z => absurd ?_ z⟩
    show σ.2.2.1.2.1.2 ≤ 0
    rw [a3', r0]
    decide
  · have r0' : 0 < r := Nat.pos_of_ne_zero r0
    have r2' : r < 2 ^ 31 := by omega
    have nz : ¬ τ.2.1.2.1.2.1 = 0 := by
      rw [a5', decide_eq_true r0']
      decide
    obtain ⟨T, N, g, ex, u, s, t1, t', L, M, q, x, b1, b2, b3, b4, b5, b6⟩ := a7 (rd_true a6 r0)
    obtain ⟨c1, c2, c3, c4, ⟨m, hm, e1, e2⟩, c6⟩ := b5 r0'
    have e1' : τ.2.1.2.2.2.1 = nI m := e1
    have e3 : σ.2.2.1.2.2.2.2 = nI m := c3.trans e1
    refine ⟨fun z => ?_, fun _ => ⟨fun z => absurd z (by decide), fun _ => ⟨fun d => hK _ ⟨fun z => absurd z nz, fun _ => ⟨fun _ => hQ _ _ _ h, fun z => absurd d z⟩⟩, fun d => ⟨fun d1 => ?_, fun d1 => ?_⟩⟩⟩⟩
    · have z : σ.2.2.1.2.1.2 ≤ 0 := z
      rw [a3'] at z
      exact absurd z (nI_nle r0' r2')
    · have d1 : σ.2.2.1.2.2.2.2 ≤ a := d1
      rw [e3] at d1
      have nlt : ¬ a < τ.2.1.2.2.2.1 := by
        rw [e1']
        intro z
        have z1 := Int32.lt_iff_toInt_lt.mp z
        have z2 := Int32.le_iff_toInt_le.mp d1
        omega
      exact hK _ ⟨fun z => absurd z nz, fun _ => ⟨fun z => absurd z d, fun _ => ⟨fun z => absurd z nlt, fun _ => hQ _ _ _ h⟩⟩⟩
    · have d1 : ¬ σ.2.2.1.2.2.2.2 ≤ a := d1
      rw [e3] at d1
      obtain ⟨j, hj, rfl⟩ := nI_of d
      have hj2 : j < m := by
        by_cases z : j < m
        · exact z
        · exact absurd (nI_le (by omega) hj) d1
      have lt : nI j < τ.2.1.2.2.2.1 := by
        rw [e1']
        exact nI_lt hj2 (by omega)
      have ep : (800 : Int32) + nI j * 4 = nI (4 * (200 + j)) := by
        have e5 : nI j * 4 = nI (4 * j) := by
          have := nI_mul4 (w := j)
          rwa [Int32.zero_add] at this
        rw [e5]
        have := nI_add 800 (4 * j)
        rw [show 800 + 4 * j = 4 * (200 + j) by omega] at this
        exact this
      rw [ep]
      refine c_fetch (by omega) (hK _ ⟨fun z => absurd z nz, fun _ => ⟨fun z => absurd z d, fun _ => ⟨fun _ => ⟨in_k (by omega) (by omega), ?_⟩, fun z => absurd lt z⟩⟩⟩)
      rw [nI_clamp (by omega)]
      have e6 : σ.2.2.1.1.1.1.1 (200 + j) = τ.2.1.2.2.1 j := e2 j hj2
      show Q (σ.2.2.1.1.1.1.1 (200 + j)) σ (τ.2.1.2.2.1 j) τ
      rw [← e6]
      exact hQ _ _ _ h
theorem z_word {a : Int32} (h : INV σ τ n) (hK : ∀ A : Prop, A → K A) (hQ : ∀ r σ' τ', INV σ' τ' n → Q r σ' r τ') : wp_X11_word σ a (fun r σ' => K (wp_X12_word τ a (Q r σ'))) := by
  obtain ⟨r1, r2, r3, r4, rd, r, a1, a2, a3, a4, a5, a6, a7⟩ := id h
  have a5' : τ.2.1.2.1.2.1 = bi (decide (0 < r)) := a5
  have a3' : σ.2.2.1.2.1.2 = nI r := a3
  by_cases r0 : r = 0
  · have z0 : τ.2.1.2.1.2.1 = 0 := by rw [a5', r0]; rfl
    refine ⟨fun _ => ⟨fun _ => hK _ ⟨fun _ => hQ _ _ _ h, fun z => absurd z0 z⟩, fun z => absurd rfl z⟩, fun z => absurd ?_ z⟩
    show σ.2.2.1.2.1.2 ≤ 0
    rw [a3', r0]
    decide
  · have r0' : 0 < r := Nat.pos_of_ne_zero r0
    have r2' : r < 2 ^ 31 := by omega
    have nz : ¬ τ.2.1.2.1.2.1 = 0 := by
      rw [a5', decide_eq_true r0']
      decide
    obtain ⟨T, N, g, ex, u, s, t1, t', L, M, q, x, b1, b2, b3, b4, b5, b6⟩ := a7 (rd_true a6 r0)
    obtain ⟨c1, c2, c3, c4, c5, c6⟩ := b5 r0'
    have hw2 := b1.1.2
    have e3 : σ.1.2.2.2.2.2.1 = nI (wds T g) := b1.2.1.2.1
    have e1 : τ.1.2.2.2.1.1 = nI (wds T g) := b2.1.2.2.2.1
    refine ⟨fun z => ?_, fun _ => ⟨fun z => absurd z (by decide), fun _ => ⟨fun d => hK _ ⟨fun z => absurd z nz, fun _ => ⟨fun _ => hQ _ _ _ h, fun z => absurd d z⟩⟩, fun d => ⟨fun d1 => ?_, fun d1 => ?_⟩⟩⟩⟩
    · have z : σ.2.2.1.2.1.2 ≤ 0 := z
      rw [a3'] at z
      exact absurd z (nI_nle r0' r2')
    · have d1 : σ.1.2.2.2.2.2.1 ≤ a := d1
      rw [e3] at d1
      have nlt : ¬ a < τ.1.2.2.2.1.1 := by
        rw [e1]
        intro z
        have z1 := Int32.lt_iff_toInt_lt.mp z
        have z2 := Int32.le_iff_toInt_le.mp d1
        omega
      exact hK _ ⟨fun z => absurd z nz, fun _ => ⟨fun z => absurd z d, fun _ => ⟨fun z => absurd z nlt, fun _ => hQ _ _ _ h⟩⟩⟩
    · have d1 : ¬ σ.1.2.2.2.2.2.1 ≤ a := d1
      rw [e3] at d1
      obtain ⟨j, hj, rfl⟩ := nI_of d
      have hj2 : j < wds T g := by
        by_cases z : j < wds T g
        · exact z
        · exact absurd (nI_le (by omega) hj) d1
      have lt : nI j < τ.1.2.2.2.1.1 := by
        rw [e1]
        exact nI_lt hj2 (by omega)
      rw [nI_mul4]
      refine c_fetch (by omega) (hK _ ⟨fun z => absurd z nz, fun _ => ⟨fun z => absurd z d, fun _ => ⟨fun _ => ⟨in_k (by omega) (by omega), ?_⟩, fun z => absurd lt z⟩⟩⟩)
      rw [nI_clamp (by omega)]
      have e6 : σ.2.2.1.1.1.1.1 j = τ.2.1.2.1.2.2 j := c4 j (by omega)
      show Q (σ.2.2.1.1.1.1.1 j) σ (τ.2.1.2.1.2.2 j) τ
      rw [← e6]
      exact hQ _ _ _ h
theorem z_quiet (h : INV σ τ n) (hQ : ∀ r σ' τ', INV σ' τ' n → Q r σ' r τ') : wp_X11_quiet σ (fun r σ' => wp_X12_quiet τ (Q r σ')) := by
  obtain ⟨r1, r2, r3, r4, rd, r, a1, a2, a3, a4, a5, a6, a7⟩ := id h
  have a3' : σ.2.2.1.2.1.2 = nI r := a3
  have fin : aw_bz 1 ∧ wp_X12_quiet τ (Q 1 σ) := ⟨bz1, hQ _ _ _ h⟩
  by_cases r1' : 1 < r
  · obtain ⟨T, N, g, ex, u, s, t1, t', L, M, q, x, b1, b2, b3, b4, b5, b6⟩ := a7 (rd_true a6 (by omega))
    obtain ⟨c1, c2, c3, c4, c5, inp, st, c6⟩ := b5 (by omega)
    obtain ⟨inp', st', c7⟩ := b6 r1'
    exact c_alike (A := σ.2.2.1.2) (n4 := σ.1.2.2.1) (n3 := σ.1.2.2.2) (t8 := σ.1.1.2.1) (mc := σ.2.2.1.1) (p := σ.2.2.2.1) (p2 := σ.2.2.2.2) b1.1 (fun _ => ⟨c6, c7⟩) fin
  · refine ⟨fun _ => fin, fun z => absurd ?_ z⟩
    show σ.2.2.1.2.1.2 < 2
    rw [a3']
    exact nI_lt (b := 2) (by omega) (by omega)
theorem S0_congr {T : TX} {N st : Nat} {g : List DD} (hv : GV T N g) {inp inp' E : Nat → Int32} (h : ∀ k, k < 200 → inp k = inp' k) : S0 T g inp E st = S0 T g inp' E st := by
  obtain ⟨il1, _⟩ := iw_len hv
  have gen : ∀ k, k ≤ 200 → inF (iwF T g 0) inp (zk 200 E) k = inF (iwF T g 0) inp' (zk 200 E) k := by
    intro k
    induction k with
    | zero => intro _; rfl
    | succ k ih =>
      intro hk
      show upd (inF (iwF T g 0) inp (zk 200 E) k) (ix (iwF T g 0) k).1 (inp k) = upd (inF (iwF T g 0) inp' (zk 200 E) k) (ix (iwF T g 0) k).1 (inp' k)
      rw [ih (by omega), h k (by omega)]
  unfold S0
  rw [gen _ il1]
theorem z_run {a : Int32} (h : INV σ τ n) (hK : ∀ A : Prop, A → K A) (hQ : ∀ r σ' τ', INV σ' τ' n → Q r σ' r τ') : wp_X11_run σ a (fun r σ' => K (wp_X12_run τ a (Q r σ'))) := by
  obtain ⟨r1, r2, r3, r4, rd, r, a1, a2, a3, a4, a5, a6, a7⟩ := id h
  have a2' : τ.2.1.1.1.2.2 = bi rd := a2
  have a3' : σ.2.2.1.2.1.2 = nI r := a3
  cases rd with
  | false => exact ⟨fun _ => hK _ ⟨fun _ => hQ _ _ _ h, fun z => absurd a2' z⟩, fun z => absurd a1 z⟩
  | true =>
    have n1 : ¬ σ.1.1.1.1 = 0 := by rw [a1]; decide
    have n2 : ¬ τ.2.1.1.1.2.2 = 0 := by rw [a2']; decide
    refine ⟨fun z => absurd z n1, fun _ => ⟨fun c => hK _ ⟨fun z => absurd z n2, fun _ => ⟨fun _ => hQ _ _ _ h, fun z => absurd c z⟩⟩, fun c => ⟨fun c2 => ?_, fun c2 => hK _ ⟨fun z => absurd z n2, fun _ => ⟨fun z => absurd z c, fun _ => ⟨fun z => absurd z c2, fun _ => hQ _ _ _ h⟩⟩⟩⟩⟩⟩
    obtain ⟨st, hst, rfl⟩ := nI_of2 (n := 2000) (by decide) c c2
    obtain ⟨T, N, g, e, u, s, t1, t', L, M, q, x, b1, b2, b3, b4, b5, b6⟩ := a7 rfl
    obtain ⟨v1, v2, v3, v4, v5, v6, v7, v8, v9, v10, v11, v12, v13, v14, v15⟩ := id b1
    obtain ⟨w1, w2, w3, w4, w5, w6⟩ := id b2
    refine c_perf (A := σ.2.2.1.2) (n4 := σ.1.2.2.1) (n3 := σ.1.2.2.2) (t8 := σ.1.1.2.1) (mc := σ.2.2.1.1) (p := σ.2.2.2.1) (p2 := σ.2.2.2.2) (Ej := τ.2.1.2.1.2.2) v1 v2 v3 v4 v5 v6 v7 v8 v9 v10 v11 hst b4 r4.1 (fun mc' p' ep en k1 k2 k3 k4 => hK _ ?_)
    refine m_run v1 v12 v7 v10 v8 w1 v13 v15 v14 w2 w3 w4 w5 w6 a2' hst (fun τ' q1 ru => ?_)
    have es : S0 T g σ.2.2.1.2.1.1 τ.2.1.2.1.2.2 st = S0 T g τ.2.1.1.1.1 τ.2.1.2.1.2.2 st := S0_congr v1 b3
    rw [es] at k1 k3 k4
    generalize hS : rs T g e 0 false (S0 T g τ.2.1.1.1.1 τ.2.1.2.1.2.2 st) = S at k1 k3 k4 ru
    rw [es, hS]
    obtain ⟨u1, u2, u3, u4, u5, u6, u7, u8⟩ := ru
    obtain ⟨f1, f2, f3, f4, f5, f6, f7, f8⟩ := k1
    have een : en = τ'.2.2.1.1.2.1 ∧ ep = τ'.2.2.1.1.2.2 := by
      cases hs : S.2.2.2 with
      | none =>
        rw [hs] at u8
        obtain ⟨z1, z2⟩ := k3 hs
        exact ⟨z2.trans u8.1.symm, z1.trans u8.2.symm⟩
      | some z =>
        rw [hs] at u8
        obtain ⟨z1, z2⟩ := k4 z.1 z.2 hs
        exact ⟨z2.trans u8.1.symm, z1.trans u8.2.2.symm⟩
    rw [een.1, een.2]
    have er : (if (2 : Int32) < nI r + 1 then 2 else nI r + 1) = nI (if r = 2 then 2 else r + 1) := by
      have : r = 0 ∨ r = 1 ∨ r = 2 := by omega
      rcases this with z | z | z <;> (rw [z]; decide)
    rw [a3', er]
    obtain ⟨vv, oo, oc, sp, en', ep', ov, rfl⟩ := q1
    have hr' : (if r = 2 then 2 else r + 1) ≤ 2 ∧ 0 < (if r = 2 then 2 else r + 1) ∧ (1 < (if r = 2 then 2 else r + 1) → 0 < r) := by
      split <;> omega
    refine hQ _ _ _ ⟨r1, r2, r3, ⟨f7, r4.2⟩, true, (if r = 2 then 2 else r + 1), a1, a2, rfl, hr'.1, ?_, (fun z => by cases z), fun _ => ⟨T, N, g, e, u, s, t1, t', L, M, q, x, b1, b2.fr v15 ⟨rfl, rfl, rfl, rfl, rfl, rfl⟩, b3, f1, fun _ => ⟨rfl, ?_, ?_, ?_, ⟨S.2.2.1.length, f3, u5, fun k hk => ?_⟩, _, _, k2⟩, fun z => ?_⟩⟩
    · rw [decide_eq_true hr'.2.1]
      rfl
    · exact u4.symm
    · exact u5.symm
    · intro k hk
      have u1 : vv = S.1 := u1
      show mc'.1.1.1 k = vv k
      rw [u1]
      exact f2 k hk
    · exact (f4 k hk).trans (u7 k hk).symm
    · obtain ⟨_, _, _, _, _, inp, st', c6⟩ := b5 (hr'.2.2 z)
      exact ⟨inp, st', c6⟩
end Calls4
