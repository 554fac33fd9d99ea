section Perf3
theorem lg_self (x : Int64) : lg_cmp x x = 0 := by
  unfold lg_cmp
  split
  · rename_i h
    have := Int64.lt_iff_toInt_lt.mp h
    omega
  · split
    · rfl
    · rename_i h
      exact absurd rfl h
theorem c_perf {T : TX} {N u s t t' st L : Nat} {g : List DD} {e : Tr} {M Ej : Nat → Int32} {A : ((Nat → Int32) × Int32) × (Int32 × (Int32 × Int32))} {n4 : SX4} {n3 : SX3} {t8 : SX8} {mc : SX2} {p p2 : SX6} {post : Int32 → WSX10 → Prop} (hv : GV T N g) (hnc : NC T g n3) (hnw : NW0 n4 u L) (hu3 : u ≤ 3000) (hpr : PRG T g e s M n4.2.1.2.2) (hbi : BI u n4.2.1.2.2 4096) (hwf : WFS T N e 0) (hxs : XS T e 0 t t' 31) (hcb : CB T n4 e 0 s) (hjs : js T g e 0 false = .ok ()) (hu : s + szS T e 0 = u) (hst : st ≤ 2000) (hM : ∀ j, 512 ≤ j → j < 4096 → mc.1.1.1 j = M j) (hl : ∀ j, 32 ≤ j → mc.1.2.1 j = 0)
    (hp : ∀ (mc' : SX2) (p' : SX6) (ep en : Int32), FINM T u n4.1.2.1 n4.2.1.2.2 M (rs T g e 0 false (S0 T g A.1.1 Ej st)) (fun _ => 0) mc' → PASTOK T g e u n4.1.2.1 n4.2.1.2.2 M p' A.1.1 st → ((rs T g e 0 false (S0 T g A.1.1 Ej st)).2.2.2 = none → ep = -1 ∧ en = 0) → (∀ c t, (rs T g e 0 false (S0 T g A.1.1 Ej st)).2.2.2 = some (c, t) → ep = nI (PL T t) ∧ en = nI c) →
      post en ((((A.1.1, if (2 : Int32) < A.1.2 + 1 then 2 else A.1.2 + 1), (ep, (nI (st - (rs T g e 0 false (S0 T g A.1.1 Ej st)).2.1), nI (rs T g e 0 false (S0 T g A.1.1 Ej st)).2.2.1.length))), (n4, n3)), ((t8, mc'), (p', p)))) :
    wp_X10_perform ((A, (n4, n3)), ((t8, mc), (p, p2))) (nI st) post := by
  obtain ⟨il1, il2⟩ := iw_len hv
  have hw2 := hv.2
  obtain ⟨c1', c2', c3', c4', c5', c6'⟩ := id hnc
  have hin : n3.2.2.2.1 = nI (iwF T g 0).length := c4'
  unfold wp_X10_perform
  refine c_wipe (B := 512) (by omega) (fun m0 z1 z2 => ⟨(iwF T g 0).length + 1, ?_⟩)
  have p64 : wp_X10_perform_64 post ((A, (n4, n3)), ((t8, (((inF (iwF T g 0) A.1.1 m0 (iwF T g 0).length, aw_fill 32 0 mc.1.1.2), mc.1.2), mc.2)), (p, p2))) (nI st) := by
    unfold wp_X10_perform_64
    refine c_fillR (k := 2) (by omega) (by omega) (c_beginAt (q := 512) (by omega) ?_)
    have el : aw_fill 32 0 mc.1.2.1 = fun _ => 0 := by
      funext j
      unfold aw_fill
      by_cases c : j < 32
      · rw [if_pos c]
      · rw [if_neg c]
        exact hl j (by omega)
    have hsee := @Classical.epsilon_spec_aux CY ⟨c00⟩ (SEEN T g e u n4.1.2.1 n4.2.1.2.2 M st (PBof T g A.1.1)) (w_run hv hpr hu3 hwf hxs hcb hjs hu hst (PBof T g A.1.1) (fun _ => 0))
    have hsee : SEEN T g e u n4.1.2.1 n4.2.1.2.2 M st (PBof T g A.1.1) (cyF T g e u n4.1.2.1 n4.2.1.2.2 M st (PBof T g A.1.1)) := hsee
    have wst : WST T g M (PBof T g A.1.1) st (S0 T g A.1.1 Ej st).1 (inF (iwF T g 0) A.1.1 m0 (iwF T g 0).length) (upd (aw_fill 32 0 mc.1.1.2) 2 (nI st)) := by
      refine ⟨fun j j1 j2 => ?_, fun k hk => ?_, ?_, pk_us, ?_, fun w hw => PBof_S0 hv hw⟩
      · rw [inF_hi _ (fun k hk => by have := il2 k hk; omega), z2 j j1]
        exact hM j j1 j2
      · refine inF_lt ?_ _
        rw [z1 k (by omega)]
        unfold zk
        rw [if_pos hk]
      · rw [pk_un (by omega)]
        rfl
      · rw [pk_un (by omega)]
        rfl
    obtain ⟨mc', e1, fin, hwk⟩ := hsee _ _ _ wst
    have fin : FINM T u n4.1.2.1 n4.2.1.2.2 M (rs T g e 0 false (S0 T g A.1.1 Ej st)) (fun _ => 0) mc' := fin
    have fin0 := fin
    obtain ⟨f1, f2, f3, f4, f5, f6, f7, f8⟩ := fin
    have hst' := rs_st (T := T) (g := g) e 0 false (S0 T g A.1.1 Ej st)
    have e0 : (S0 T g A.1.1 Ej st).2.1 = st := rfl
    have p128 : ∀ ep en : Int32, ((rs T g e 0 false (S0 T g A.1.1 Ej st)).2.2.2 = none → ep = -1 ∧ en = 0) → (∀ c t, (rs T g e 0 false (S0 T g A.1.1 Ej st)).2.2.2 = some (c, t) → ep = nI (PL T t) ∧ en = nI c) → wp_X10_perform_128 post ((A, (n4, n3)), ((t8, mc'), (p, p2))) (nI st) en ep := by
      intro ep en q1 q2
      unfold wp_X10_perform_128
      refine c_rg2 (k := 2) (by omega) (fun y19 e19 => c_rg2 (k := 4) (by omega) (fun y22 e22 => ?_))
      have e19 : y19 = nI (st - (rs T g e 0 false (S0 T g A.1.1 Ej st)).2.1) := by
        rw [e19]
        show nI st - mc'.1.1.2 2 = _
        rw [f5]
        exact nI_sub (by omega)
      have e22 : y22 = nI (rs T g e 0 false (S0 T g A.1.1 Ej st)).2.2.1.length := by
        rw [e22]
        show mc'.1.1.2 4 / 4 = _
        rw [f6]
        exact nI_div4 f3
      rw [e19, e22]
      refine c_rem (A := (A.1, (ep, (nI (st - (rs T g e 0 false (S0 T g A.1.1 Ej st)).2.1), nI (rs T g e 0 false (S0 T g A.1.1 Ej st)).2.2.1.length)))) hv hnc (fun p' r1 r2 r3 r4 => ?_)
      refine hp mc' p' ep en fin0 ⟨hst, r1, r2, r3, ?_⟩ q1 q2
      rw [r4, e1]
    have hwork : ∀ po : Int32 → SX2 → Prop, po 1 mc' → wp_X2_work ((((inF (iwF T g 0) A.1.1 m0 (iwF T g 0).length, upd (aw_fill 32 0 mc.1.1.2) 2 (nI st)), (aw_fill 32 0 mc.1.2.1, nI (4 * 512))), c00) : SX2) (nI 100000000) po := by
      intro po h
      rw [el]
      exact hwk po h
    refine hwork _ (c_rg2 (k := 5) (by omega) ?_)
    rcases f8 with ⟨g1, g2⟩ | ⟨c, tt, g1, g2, j, q, g3, g4, g5, g6, g7, g8⟩
    · show (¬ mc'.1.1.2 5 = 0 → _) ∧ (mc'.1.1.2 5 = 0 → _)
      refine ⟨fun z => absurd g2 z, fun _ => ?_⟩
      refine p128 _ _ (fun _ => ⟨rfl, g2⟩) (fun c t h => ?_)
      rw [g1] at h
      cases h
    · have hc := rs_code (T := T) (g := g) e 0 false (S0 T g A.1.1 Ej st) (fun c t h => by cases h) c tt g1
      show (¬ mc'.1.1.2 5 = 0 → _) ∧ (mc'.1.1.2 5 = 0 → _)
      refine ⟨fun _ => ?_, fun z => ?_⟩
      · refine c_rg2 (k := 1) (by omega) ?_
        refine c_placeOfBack hnw hu3 g3 g5 g7 hbi.2 g8 ?_
        refine p128 _ _ (fun h => ?_) (fun c' t' h => ?_)
        · rw [g1] at h
          cases h
        · rw [g1] at h
          cases h
          exact ⟨g4, g2⟩
      · rw [g2] at z
        exact absurd z (nI_ne0 hc.1 (by omega))
  -- the inputs
  have lp : ∀ (m k : Nat), k + m = (iwF T g 0).length → wp_X10_perform_12 post (m + 1) ((A, (n4, n3)), ((t8, (((inF (iwF T g 0) A.1.1 m0 k, aw_fill 32 0 mc.1.1.2), mc.1.2), mc.2)), (p, p2))) (nI st) (nI k) := by
    intro m
    induction m with
    | zero =>
      intro k hk
      have hk : k = (iwF T g 0).length := by omega
      show wb_X10_perform_12 post _ _ (nI st) (nI k)
      refine ⟨fun _ => ?_, fun c => absurd ?_ c⟩
      · rw [hk]
        exact p64
      · show n3.2.2.2.1 ≤ nI k
        rw [hin]
        exact nI_le (by omega) (by omega)
    | succ m ih =>
      intro k hk
      have hiw : n3.1.2.2.2 k = nI (ix (iwF T g 0) k).1 := (c6' k (by omega)).1
      have hix := il2 k (by omega)
      have nle : ¬ n3.2.2.2.1 ≤ nI k := by
        rw [hin]
        exact nI_ge (by omega) (by omega)
      show wb_X10_perform_12 post (fun a => wp_X10_perform_12 post (m + 1) a.1 a.2.1 a.2.2) _ (nI st) (nI k)
      refine ⟨fun c => absurd c nle, fun _ => ⟨fun c => absurd c (nI_ge (b := 200) (by omega) (by omega)), fun _ => ?_⟩⟩
      refine ⟨fun c => absurd c (nI_pos (by omega)), fun _ => ⟨fun c => absurd c nle, fun _ => ⟨fun c => absurd c (nI_ge (b := 200) (by omega) (by omega)), fun _ => ⟨fun c => absurd c (by decide), fun _ => ⟨in_k (by omega) (by omega), in_k (by omega) (by omega), ?_⟩⟩⟩⟩⟩
      show wp_X2_store (((inF (iwF T g 0) A.1.1 m0 k, aw_fill 32 0 mc.1.1.2), mc.1.2), mc.2) (0 + n3.1.2.2.2 (nI k).toNatClampNeg * 4) (A.1.1 (nI k).toNatClampNeg) (fun r28 τ29 => wp_X10_perform_12 post (m + 1) ((A, (n4, n3)), ((t8, τ29), (p, p2))) (nI st) (nI k + 1))
      rw [nI_clamp (by omega), hiw, nI_mul4, nI_1]
      refine c_sto2 (by omega) ?_
      exact ih (k + 1) (by omega)
  exact lp (iwF T g 0).length 0 (by omega)
theorem c_alike {T : TX} {N u : Nat} {g : List DD} {e : Tr} {pl B M inp inp' : Nat → Int32} {st st' : Nat} {A : ((Nat → Int32) × Int32) × (Int32 × (Int32 × Int32))} {n4 : SX4} {n3 : SX3} {t8 : SX8} {mc : SX2} {p p2 : SX6} {post : Int32 → WSX10 → Prop} (hv : GV T N g) (h1 : ¬ A.1.2 < 2 → PASTOK T g e u pl B M p inp st ∧ PASTOK T g e u pl B M p2 inp' st') (hp : post 1 ((A, (n4, n3)), ((t8, mc), (p, p2)))) : wp_X10_lastTwoAlike ((A, (n4, n3)), ((t8, mc), (p, p2))) post := by
  refine ⟨fun _ => hp, fun c => ?_⟩
  obtain ⟨⟨a1, a2, a3, a4, a5⟩, b1, b2, b3, b4, b5⟩ := h1 c
  obtain ⟨il1, _⟩ := iw_len hv
  have hpc := pcn_le (iwF T g 0) (iwF T g 0).length
  refine ⟨fun _ => ⟨fun _ => hp, fun z => absurd rfl z⟩, fun c1 => ⟨fun c2 => ⟨pcn (iwF T g 0) (iwF T g 0).length + 1, ?_⟩, fun _ => ⟨fun _ => hp, fun z => absurd rfl z⟩⟩⟩
  have c1 : p.2.1 = p2.2.1 := c1
  rw [a2, b2] at c1
  have est : st = st' := (nI_eq (by omega) (by omega)).mp c1
  have fin : (∀ j, j < pcn (iwF T g 0) (iwF T g 0).length → p.1.1 j = p2.1.1 j) → p.2.2 = p2.2.2 := by
    intro h
    have e1 : PBof T g inp = PBof T g inp' := PBof_eq hv (fun k hk hf => by
      rw [← a4 k hk hf, ← b4 k hk hf]
      exact h _ (pcn_lt _ hk hf))
    rw [a5, b5, e1, est]
  have a3' : p.1.2 = nI (pcn (iwF T g 0) (iwF T g 0).length) := a3
  have lp : ∀ (m k : Nat), k + m = pcn (iwF T g 0) (iwF T g 0).length → (∀ j, j < k → p.1.1 j = p2.1.1 j) → wp_X6_sameFrom_26 (fun r1 τ2 => ((r1 = 0 → post (1 : Int32) ((A, (n4, n3)), ((t8, mc), τ2))) ∧ (¬ r1 = 0 → wp_X6_sameSeen τ2 (fun r3 τ4 => ((r3 = 0 → post (0 : Int32) ((A, (n4, n3)), ((t8, mc), τ4))) ∧ (¬ r3 = 0 → post (1 : Int32) ((A, (n4, n3)), ((t8, mc), τ4)))))))) (m + 1) (p, p2) (nI k) := by
    intro m
    induction m with
    | zero =>
      intro k hk h
      have hk : k = pcn (iwF T g 0) (iwF T g 0).length := by omega
      refine ⟨fun _ => ⟨fun z => absurd z (by decide), fun _ => ?_⟩, fun z => absurd ?_ z⟩
      · have e := fin (by rw [← hk]; exact h)
        have e1 : p.2.2.1 = p2.2.2.1 := by rw [e]
        have e2 : p.2.2.2 = p2.2.2.2 := by rw [e]
        have z1 : lg_cmp p.2.2.1 p2.2.2.1 = 0 := by rw [e1]; exact lg_self _
        have z2 : lg_cmp p.2.2.2 p2.2.2.2 = 0 := by rw [e2]; exact lg_self _
        exact ⟨fun z => absurd z1 z, fun _ => ⟨fun z => absurd z2 z, fun _ => ⟨fun z => absurd z (by decide), fun _ => hp⟩⟩⟩
      · show p.1.2 ≤ nI k
        rw [a3']
        exact nI_le (by omega) (by omega)
    | succ m ih =>
      intro k hk h
      have nle : ¬ p.1.2 ≤ nI k := by
        rw [a3']
        exact nI_ge (by omega) (by omega)
      have n200 : ¬ (200 : Int32) ≤ nI k := nI_ge (b := 200) (by omega) (by omega)
      refine ⟨fun z => absurd z nle, fun _ => ⟨fun z => absurd z n200, fun _ => ⟨fun z => absurd z n200, fun _ => ⟨in_k (by omega) (by omega), in_k (by omega) (by omega), fun z => ?_, fun z => ⟨fun _ => hp, fun z => absurd rfl z⟩⟩⟩⟩⟩
      have z : p.1.1 (nI k).toNatClampNeg = p2.1.1 (nI k).toNatClampNeg := z
      rw [nI_clamp (by omega)] at z
      have := ih (k + 1) (by omega) (fun j hj => by
        by_cases c : j = k
        · rw [c]; exact z
        · exact h j (by omega))
      rw [← nI_1 k] at this
      exact this
  exact lp _ 0 (by omega) (fun j hj => absurd hj (Nat.not_lt_zero j))
end Perf3
