section Mjd
abbrev dst (τ : SX12) (n : Int32) (a b c d e : Nat → Int32) (w i p : Int32) (f : Nat → Int32) : SX12 := ((τ.1.1, ((τ.1.2.1.1, (n, (a, b))), ((c, (d, e)), ((w, i), (p, f))))), τ.2)
/-- only what is kept of names has changed -/
def DR (τ τ' : SX12) : Prop := ∃ n a b c d e w i p f, τ' = dst τ n a b c d e w i p f
theorem DR.rf (τ : SX12) : DR τ τ := ⟨_, _, _, _, _, _, _, _, _, _, rfl⟩
theorem DR.tr {x y z : SX12} (h : DR x y) (k : DR y z) : DR x z := by
  obtain ⟨n, a, b, c, d, e, w, i, p, f, rfl⟩ := h
  obtain ⟨n', a', b', c', d', e', w', i', p', f', rfl⟩ := k
  exact ⟨_, _, _, _, _, _, _, _, _, _, rfl⟩
def IOm (τ : SX12) (l : List (Nat × Bool)) : Prop := τ.1.2.2.2.1.2 = nI l.length ∧ τ.1.2.2.2.2.1 = nI (pbc l) ∧ ∀ j, j < l.length → τ.1.2.2.2.2.2 j = nI (ix l j).1
theorem kd3 {T : TX} {N : Nat} {x : DD} (hx : WFD T N x) : (nI (kM (TK T x.1)) = (3 : Int32) ↔ dsec T x = false) ∧ (nI (kM (TK T x.1)) = (4 : Int32) ↔ dsec T x = true) := by
  unfold dsec
  rcases hx.1 with q | q
  · rw [q]
    exact ⟨⟨fun _ => by decide, fun _ => rfl⟩, ⟨fun c => absurd c (by decide), fun c => absurd c (by decide)⟩⟩
  · rw [q]
    exact ⟨⟨fun c => absurd c (by decide), fun c => absurd c (by decide)⟩, ⟨fun _ => by decide, fun _ => rfl⟩⟩
/-- the loop over inputs -/
theorem m_in {T : TX} {N : Nat} {x : DD} {q w size : Nat} {l : List (Nat × Bool)} {post : SX12 → Prop} (hx : WFD T N x) (hq : q < 9000) (hl : l.length + size ≤ 200) (hs : size < 2 ^ 30) : ∀ (m i : Nat) (τ : SX12), i + m = size → τ.1.1.2.2.1 q = nI (kM (TK T x.1)) → τ.1.2.2.2.1.1 = nI w → IOm τ (l ++ (if x.2.1 = true then (List.range i).map (fun j => (w + j, dsec T x)) else [])) →
    (∀ τ', (∃ i p f, τ' = ((τ.1.1, (τ.1.2.1, (τ.1.2.2.1, ((τ.1.2.2.2.1.1, i), (p, f))))), τ.2)) → IOm τ' (l ++ (if x.2.1 = true then (List.range size).map (fun j => (w + j, dsec T x)) else [])) → wp_X12_declare_314 post τ' (nI size)) →
    wp_X12_declare_247 post (m + 1) τ (nI q) (bi x.2.1) (nI size) (nI i) := by
  intro m
  induction m with
  | zero =>
    intro i τ hm hk hw h hp
    have e : i = size := by omega
    subst e
    show wb_X12_declare_247 post _ τ (nI q) (bi x.2.1) (nI i) (nI i)
    exact ⟨fun _ => hp τ ⟨_, _, _, rfl⟩ h, fun c => absurd (nI_le (Nat.le_refl _) (by omega)) c⟩
  | succ m ih =>
    intro i τ hm hk hw h hp
    show wb_X12_declare_247 post (fun a => wp_X12_declare_247 post (m + 1) a.1 a.2.1 a.2.2.1 a.2.2.2.1 a.2.2.2.2) τ (nI q) (bi x.2.1) (nI size) (nI i)
    refine ⟨fun c => absurd c (nI_ge (by omega) (by omega)), fun _ => ?_⟩
    cases hin : x.2.1 with
    | false =>
      rw [hin] at h hp
      exact ⟨fun _ => hp τ ⟨_, _, _, rfl⟩ h, fun c => absurd rfl c⟩
    | true =>
      rw [hin, if_pos rfl] at h
      have hlen : (l ++ (List.range i).map (fun j => (w + j, dsec T x))).length = l.length + i := by rw [List.length_append, List.length_map, List.length_range]
      obtain ⟨h1, h2, h3⟩ := h
      rw [hlen] at h1 h3
      have h1' : τ.1.2.2.2.1.2 = nI (l.length + i) := h1
      have hw' : τ.1.2.2.2.1.1 = nI w := hw
      have hk' : τ.1.1.2.2.1 q = nI (kM (TK T x.1)) := hk
      have h2' : τ.1.2.2.2.2.1 = nI (pbc (l ++ (List.range i).map (fun j => (w + j, dsec T x)))) := h2
      refine ⟨fun c => absurd c (by decide), fun _ => ?_⟩
      rw [h1', nI_clamp (by omega), nI_1]
      refine ⟨in_k (by omega) (by omega), fun y12 e12 y13 e13 => ⟨in_k hq (by omega), ?_⟩⟩
      rw [hw', nI_add] at e12
      rw [nI_clamp (by omega)]
      have pbs : pbc (l ++ (List.range (i + 1)).map (fun j => (w + j, dsec T x))) = pbc (l ++ (List.range i).map (fun j => (w + j, dsec T x))) + (if dsec T x = true then 0 else 1) := by
        rw [rng_s, ← List.append_assoc, pbc_app]
        rfl
      have nxt : ∀ v : Int32, v = nI (pbc (l ++ (List.range (i + 1)).map (fun j => (w + j, dsec T x)))) → wp_X12_declare_247 post (m + 1) ((τ.1.1, (τ.1.2.1, (τ.1.2.2.1, ((τ.1.2.2.2.1.1, y13), (v, y12))))), τ.2) (nI q) (bi true) (nI size) (nI (i + 1)) := by
        intro v hv
        rw [← hin]
        refine ih (i + 1) _ (by omega) hk hw ?_ (fun τ' h4 h5 => hp τ' ?_ h5)
        · rw [hin, if_pos rfl]
          refine ⟨?_, hv, fun j hj => ?_⟩
          · rw [List.length_append, List.length_map, List.length_range]
            exact e13
          · rw [List.length_append, List.length_map, List.length_range] at hj
            rw [rng_s, ← List.append_assoc]
            show y12 j = _
            rw [e12]
            by_cases z : j = l.length + i
            · rw [z, pk_us, ← hlen, ix_eq]
            · rw [pk_un z, ix_lt (by rw [hlen]; omega)]
              exact h3 j (by omega)
        · obtain ⟨i2, p2, f2, rfl⟩ := h4
          exact ⟨i2, p2, f2, rfl⟩
      show (¬ τ.1.1.2.2.1 q = 3 → _) ∧ (τ.1.1.2.2.1 q = 3 → _)
      rw [hk']
      refine ⟨fun c y4 e4 => ?_, fun c y4 e4 => ?_⟩
      · have bt : dsec T x = true := by
          cases z : dsec T x with
          | true => rfl
          | false => exact absurd ((kd3 hx).1.mpr z) c
        have := nxt y4 (by
          rw [pbs, bt, e4]
          show τ.1.2.2.2.2.1 + nI 0 = _
          rw [h2', nI_add, bt]
          rfl)
        rw [← nI_1] at this
        exact this
      · have bf := (kd3 hx).1.mp c
        have := nxt y4 (by
          rw [pbs, bf, e4]
          show τ.1.2.2.2.2.1 + 1 = _
          rw [h2', nI_1, bf]
          rfl)
        rw [← nI_1] at this
        exact this
theorem m_declare {T : TX} {N : Nat} {g : List DD} {x : DD} {q : Nat} {τ : SX12} {post : SX12 → Prop} (hv : GV T N g) (hN : N ≤ 3001) (hj : MJI T N g τ) (hx : WFD T N x) (hq : q + 4 < 9000) (hd : DNk T τ x q) (c0 : τ.2.1.2.1.1 = 0)
    (hY : jD T [x] g = .ok (g ++ [x]) → GV T N (g ++ [x]) → ∀ τ', DR τ τ' → NM T (g ++ [x]) τ' → post τ')
    (hF : ∀ z, jD T [x] g = .error z → post (τ.1, (((τ.2.1.1.1, (τ.2.1.1.2.1, (τ.2.1.1.2.2.1, (nI z.2)))), (((nI z.1), τ.2.1.2.1.2), τ.2.1.2.2)), τ.2.2))) : wp_X12_declare τ (nI q) post := by
  obtain ⟨d1, d2, d3, d4, d5, d6, d7⟩ := hd
  have hl := hv.len
  have hw2 := hv.2
  have hbi : bN x.2.1 ≤ 1 := by cases x.2.1 <;> decide
  obtain ⟨n1, n2, n3, n4, n5, n6⟩ := hj.2.2
  have ej : jD T [x] g = (if (fdI T g (ntk x)).isSome = true then .error (1, ntk x) else if x.2.2 = true ∧ (NB T (ntk x + 2) < 1 ∨ 64 < NB T (ntk x + 2)) then .error (2, ntk x + 2) else if 200 < wds T g + dsz T x then .error (2, ntk x) else .ok (g ++ [x])) := rfl
  have htk := ntk_lt hx
  have f1 : τ.1.1.2.2.2.2 q = nI (q + 1) := d2
  have k1 : τ.1.1.2.2.1 (q + 1) = (if x.2.1 = true then 5 else 1) := d3
  have k0 : τ.1.1.2.2.1 q = nI (kM (TK T x.1)) := d1
  have a1 : τ.1.1.2.2.2.1 (q + 1 + bN x.2.1) = nI (ntk x) := d5
  have f2 : τ.1.1.2.2.2.2 (q + 1 + bN x.2.1) = (if x.2.2 = true then nI (q + 2 + bN x.2.1) else -1) := d6
  -- a right length
  have e113 : ¬ (fdI T g (ntk x)).isSome = true → wp_X12_declare_113 post τ (nI q) (bi x.2.1) (nI (q + 1 + bN x.2.1)) (bi x.2.2) (nI (dsz T x)) := by
    intro hnf
    rw [if_neg hnf] at ej
    have e128 : x.2.2 = true ∧ (NB T (ntk x + 2) < 1 ∨ 64 < NB T (ntk x + 2)) → wp_X12_declare_128 post τ (nI (q + 1 + bN x.2.1)) := by
      intro hb
      rw [if_pos hb] at ej
      refine ⟨in_k (by omega) (by omega), ?_⟩
      rw [nI_clamp (by omega), f2, if_pos hb.1, nI_clamp (by omega)]
      have a2 : τ.1.1.2.2.2.1 (q + 2 + bN x.2.1) = nI (ntk x + 2) := d7 hb.1
      rw [a2]
      exact ⟨in_k (by omega) (by omega), m_wrong (fun _ => hF (2, ntk x + 2) ej) (fun c => absurd c0 c)⟩
    have dz : dsz T x < 2 ^ 31 := by
      unfold dsz
      split
      · rename_i z
        have := (num_tok (hx.2.2.2.1 z).2.1).2.2.2.1
        omega
      · omega
    have row1 : ∀ P : Prop, (dsz T x < 1 ∨ 64 < dsz T x → x.2.2 = true ∧ (NB T (ntk x + 2) < 1 ∨ 64 < NB T (ntk x + 2))) := by
      intro _ hb
      unfold dsz at hb
      split at hb
      · rename_i z
        exact ⟨z, hb⟩
      · omega
    refine ⟨fun c => e128 (row1 True (Or.inl ((nI_ltI (b := 1) dz (by omega)).mp c))), fun c1 => ⟨fun c2 => ?_, fun c2 => e128 (row1 True (Or.inr (Nat.not_le.mp (fun z => c2 (nI_le (b := 64) z (by omega))))))⟩⟩
    have h1 : 1 ≤ dsz T x := by
      by_cases z : dsz T x < 1
      · exact absurd (nI_lt (b := 1) z (by omega)) c1
      · omega
    have h64 : dsz T x ≤ 64 := (nI_leI (b := 64) dz (by omega)).mp c2
    have hnb : ¬ (x.2.2 = true ∧ (NB T (ntk x + 2) < 1 ∨ 64 < NB T (ntk x + 2))) := by
      intro hb
      have e : dsz T x = NB T (ntk x + 2) := by unfold dsz; rw [if_pos hb.1]
      omega
    rw [if_neg hnb] at ej
    have n2' : τ.1.2.2.2.1.1 = nI (wds T g) := n2
    have n1' : τ.1.2.1.2.1 = nI g.length := n1
    rw [n2', nI_add]
    refine ⟨fun c => ?_, fun c => ⟨in_k (by omega) (by omega), ?_⟩⟩
    · have hle : wds T g + dsz T x ≤ 200 := (nI_leI (b := 200) (by omega) (by omega)).mp c
      rw [if_neg (by omega)] at ej
      have hv' := hv.app hx h1 h64 hle
      rw [n1', nI_clamp (by omega), nI_clamp (by omega), a1]
      refine ⟨in_k (by omega) (by omega), in_k (by omega) (by omega), fun y5 e5 => ⟨in_k (by omega) (by omega), fun y6 e6 => ⟨in_k (by omega) (by omega), fun y7 e7 => ⟨in_k (by omega) (by omega), fun y8 e8 => ⟨in_k (by omega) (by omega), ?_⟩⟩⟩⟩⟩
      rw [nI_clamp (by omega), k0]
      have len1 : (g ++ [x]).length = g.length + 1 := by rw [List.length_append]; rfl
      have ll := iwF_len T g 0
      have e8 : y8 = upd τ.1.2.2.1.2.1 g.length (bi x.2.2) := by
        rw [e8]
        cases x.2.2 <;> rfl
      have fin : ∀ b : Bool, b = dsec T x → wp_X12_declare_243 post ((τ.1.1, ((τ.1.2.1.1, ((nI g.length), (y5, y6))), ((y7, (y8, τ.1.2.2.1.2.2)), τ.1.2.2.2))), τ.2) (nI q) (bi x.2.1) (nI (dsz T x)) (bi b) (nI g.length) := by
        intro b hb
        refine ⟨in_k (by omega) (by omega), fun y9 e9 => ?_⟩
        rw [nI_clamp (by omega)] at e9
        have e9 : y9 = upd τ.1.2.2.1.2.2 g.length (bi b) := by
          rw [e9]
          cases b <;> rfl
        refine ⟨dsz T x + 1, m_in (l := iwF T g 0) (w := wds T g) hx (by omega) (by omega) (by omega) (dsz T x) 0 _ (by omega) k0 n2 ?_ (fun τ' h4 h5 => ?_)⟩
        · have e0 : (if x.2.1 = true then (List.range 0).map (fun j => (wds T g + j, dsec T x)) else []) = [] := by
            split <;> rfl
          rw [e0, List.append_nil]
          exact ⟨n4, n5, n6⟩
        · obtain ⟨i2, p2, f2, rfl⟩ := h4
          intro y10 e10 y11 e11
          have eI : iwF T (g ++ [x]) 0 = iwF T g 0 ++ (if x.2.1 = true then (List.range (dsz T x)).map (fun j => (wds T g + j, dsec T x)) else []) := by
            rw [iwF_app, Nat.zero_add]
          rw [← eI] at h5
          refine hY ej hv' _ ⟨_, _, _, _, _, _, _, _, _, _, rfl⟩ ⟨?_, ?_, fun k hk => ?_, h5.1, h5.2.1, h5.2.2⟩
          · show y11 = _
            rw [e11, len1, ← nI_1]
          · show y10 = _
            rw [e10, wds_app]
            show τ.1.2.2.2.1.1 + nI (dsz T x) = nI (wds T g + (dsz T x + 0))
            rw [n2', nI_add]
            rfl
          · rw [len1] at hk
            show y5 k = _ ∧ y6 k = _ ∧ y7 k = _ ∧ y8 k = _ ∧ y9 k = _
            rw [e5, e6, e7, e8, e9]
            by_cases z : k = g.length
            · rw [z, pk_us, pk_us, pk_us, pk_us, pk_us, gx_eq, tk_lt (Nat.le_refl _), List.take_length, hb]
              exact ⟨rfl, rfl, rfl, rfl, rfl⟩
            · rw [pk_un z, pk_un z, pk_un z, pk_un z, pk_un z, gx_lt (by omega), tk_lt (by omega)]
              exact n3 k (by omega)
      refine ⟨fun c4 => fin false ?_, fun c4 => fin true ((kd3 hx).2.mp c4).symm⟩
      cases z : dsec T x with
      | false => rfl
      | true => exact absurd ((kd3 hx).2.mpr z) c4
    · have hgt : 200 < wds T g + dsz T x := Nat.not_le.mp (fun z => c (nI_le (b := 200) z (by omega)))
      rw [if_pos hgt] at ej
      rw [nI_clamp (by omega), a1]
      exact m_wrong (fun _ => hF (2, ntk x) ej) (fun c => absurd c0 c)
  -- the name
  have e45 : wp_X12_declare_45 post τ (nI q) (bi x.2.1) (nI (q + 1 + bN x.2.1)) := by
    refine ⟨in_k (by omega) (by omega), ?_⟩
    rw [nI_clamp (by omega), a1]
    refine m_findN hj.1 hj.2.1 hN hv hj.2.2 hx.2.2.1 htk ?_
    cases hf : fdI T g (ntk x) with
    | some k =>
      rw [hf] at ej
      have ej : jD T [x] g = .error (1, ntk x) := ej
      have hk := fdI_lt g _ k hf
      have ek : rI 0 (some k) = nI k := by show nI (0 + k) = _; rw [Nat.zero_add]
      rw [ek, a1]
      exact ⟨fun c => absurd c (nI_nem1 (by omega)), fun _ => ⟨in_k (by omega) (by omega), m_wrong (fun _ => hF (1, ntk x) ej) (fun c => absurd c0 c)⟩⟩
    | none =>
      have go := e113 (by rw [hf]; simp)
      refine ⟨fun _ => ⟨in_k (by omega) (by omega), ?_⟩, fun c => absurd rfl c⟩
      rw [f2]
      cases hr : x.2.2 with
      | false =>
        rw [hr] at go
        have ed : dsz T x = 1 := by unfold dsz; rw [if_neg (by rw [hr]; decide)]
        rw [ed] at go
        refine ⟨fun _ => ⟨fun _ => go, fun c => absurd rfl c⟩, fun c => absurd (by rfl) c⟩
      | true =>
        rw [hr] at go f2
        have ed : dsz T x = NB T (ntk x + 2) := by unfold dsz; rw [if_pos hr]
        rw [ed] at go
        rw [if_pos rfl]
        refine ⟨fun c => absurd c (nI_nem1 (by omega)), fun _ => ⟨fun c => absurd c (by decide), fun _ => ⟨in_k (by omega) (by omega), ?_⟩⟩⟩
        have a2 : τ.1.1.2.2.2.1 (q + 2 + bN x.2.1) = nI (ntk x + 2) := d7 hr
        rw [nI_clamp (by omega), f2, if_pos rfl, nI_clamp (by omega), a2]
        have hx6 := hx.2.2.2.2.2.2
        have hb3 : bN x.2.2 = 1 := by rw [hr]; rfl
        have : ntk x + 2 < N := by unfold ndk at hx6; omega
        exact ⟨in_k (by omega) (by omega), m_number hj.1 hj.2.1 hN this (hx.2.2.2.1 hr).2.1 go⟩
  show vp_in (nI q) 9000 ∧ _
  refine ⟨in_k (by omega) (by omega), ?_⟩
  rw [nI_clamp (by omega), f1, nI_clamp (by omega), k1]
  refine ⟨in_k (by omega) (by omega), ?_⟩
  cases hin : x.2.1 with
  | false =>
    rw [hin] at e45
    rw [if_neg (by decide)]
    refine ⟨fun _ => ⟨fun _ => ⟨in_k (by omega) (by omega), ?_⟩, fun c => absurd rfl c⟩, fun c => absurd c (by decide)⟩
    rw [nI_clamp (by omega), f1]
    exact e45
  | true =>
    rw [hin] at e45
    rw [if_pos rfl]
    refine ⟨fun c => absurd rfl c, fun _ => ⟨fun c => absurd c (by decide), fun _ => ⟨in_k (by omega) (by omega), ?_⟩⟩⟩
    have nx : τ.1.2.1.1.1 (q + 1) = nI (q + 2) := d4 hin
    rw [nI_clamp (by omega), f1, nI_clamp (by omega), nx]
    exact ⟨in_k (by omega) (by omega), e45⟩
end Mjd
