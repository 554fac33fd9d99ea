section Cdecl
def mmN : Bool → Bool → Nat
  | false, false => 0
  | true, false => 1
  | false, true => 2
  | true, true => 3
theorem mmN_1 : ∀ s i : Bool, (nI (mmN s i) &&& 1 = 0) ↔ s = false := by decide
theorem mmN_2 : ∀ s i : Bool, (nI (mmN s i) &&& 2 = 0) ↔ i = false := by decide
theorem mann_eq (T : TX) (x : DD) : mann T x = mmN (dsec T x) x.2.1 := by
  unfold mann dsec
  by_cases h : TK T x.1 = 5
  · rw [if_pos h, decide_eq_true h]
    cases x.2.1 <;> rfl
  · rw [if_neg h, decide_eq_false h]
    cases x.2.1 <;> rfl
theorem mann_1 (T : TX) (x : DD) : (nI (mann T x) &&& 1 = 0) ↔ dsec T x = false := by
  rw [mann_eq]
  exact mmN_1 _ _
theorem mann_2 (T : TX) (x : DD) : (nI (mann T x) &&& 2 = 0) ↔ x.2.1 = false := by
  rw [mann_eq]
  exact mmN_2 _ _
theorem c_nhas {σ : WSX3} {T : TX} {g : List DD} {k : Nat} {post : Int32 → WSX3 → Prop} (hc : NC T g σ.1) (hg : g.length ≤ 200) (hk : k < g.length) (hp : post 1 σ) : wp_X3_has σ (nI k) post := by
  refine ⟨fun c => absurd c (nI_pos (by omega)), fun _ => ⟨fun c => absurd c ?_, fun _ => ⟨fun c => absurd c (nI_ge (b := 200) (by omega) (by omega)), fun _ => hp⟩⟩⟩
  rw [hc.1]
  exact nI_ge hk (by omega)
theorem c_nsec {σ : WSX3} {T : TX} {g : List DD} {k : Nat} {post : Int32 → WSX3 → Prop} (hc : NC T g σ.1) (hg : g.length ≤ 200) (hk : k < g.length) (hp : post (bi (dsec T (gx g k))) σ) : wp_X3_secret σ (nI k) post := by
  refine c_nhas hc hg hk ⟨fun c => absurd c (by decide), fun _ => ⟨in_k (by omega) (by omega), ?_⟩⟩
  have e : σ.1.1.2.2.1 k = nI (mann T (gx g k)) := (hc.2.2.1 k hk).2.2.2
  rw [nI_clamp (by omega), e]
  cases q : dsec T (gx g k) with
  | false =>
    rw [q] at hp
    exact ⟨fun _ => hp, fun c => absurd ((mann_1 T _).mpr q) c⟩
  | true =>
    rw [q] at hp
    exact ⟨fun c => absurd ((mann_1 T _).mp c) (by rw [q]; decide), fun _ => hp⟩
theorem c_nlen {σ : WSX3} {T : TX} {g : List DD} {k : Nat} {post : Int32 → WSX3 → Prop} (hc : NC T g σ.1) (hg : g.length ≤ 200) (hk : k < g.length) (hp : post (nI (if (gx g k).2.2 = true then dsz T (gx g k) else 0)) σ) : wp_X3_length σ (nI k) post := by
  refine c_nhas hc hg hk ⟨fun c => absurd c (by decide), fun _ => ⟨in_k (by omega) (by omega), ?_⟩⟩
  have e : σ.1.1.2.1 k = nI (if (gx g k).2.2 = true then dsz T (gx g k) else 0) := (hc.2.2.1 k hk).2.2.1
  rw [nI_clamp (by omega), e]
  exact hp
theorem c_nfirst {σ : WSX3} {T : TX} {g : List DD} {k : Nat} {post : Int32 → WSX3 → Prop} (hc : NC T g σ.1) (hg : g.length ≤ 200) (hk : k < g.length) (hp : post (nI (wds T (g.take k))) σ) : wp_X3_firstWord σ (nI k) post := by
  refine c_nhas hc hg hk ⟨fun c => absurd c (by decide), fun _ => ⟨in_k (by omega) (by omega), ?_⟩⟩
  have e : σ.1.1.1.2 k = nI (wds T (g.take k)) := (hc.2.2.1 k hk).2.1
  rw [nI_clamp (by omega), e]
  exact hp
theorem c_nrow {σ : WSX3} {T : TX} {N : Nat} {g : List DD} {k : Nat} {post : Int32 → WSX3 → Prop} (hv : GV T N g) (hc : NC T g σ.1) (hk : k < g.length) (hp : post (bi (gx g k).2.2) σ) : wp_X3_isRow σ (nI k) post := by
  have hl := hv.len
  have hw := hv.2
  have hx := hv.1 _ (gx_mem hk)
  refine c_nlen hc (by omega) hk ?_
  cases q : (gx g k).2.2 with
  | false =>
    rw [q] at hp
    rw [if_neg (by decide)]
    exact ⟨fun _ => hp, fun c => absurd (by decide) c⟩
  | true =>
    rw [q] at hp
    rw [if_pos rfl]
    exact ⟨fun c => absurd c (nI_nle (by omega) (by omega)), fun _ => hp⟩
def IOk (s : SX3) (l : List (Nat × Bool)) : Prop := s.2.2.2.1 = nI l.length ∧ s.2.2.2.2 = nI (pbc l) ∧ ∀ j, j < l.length → s.1.2.2.2 j = nI (ix l j).1 ∧ s.2.1.1 j = bi (ix l j).2
theorem rng_s (n w : Nat) (b : Bool) : (List.range (n + 1)).map (fun i => (w + i, b)) = (List.range n).map (fun i => (w + i, b)) ++ [(w + n, b)] := by
  rw [List.range_succ, List.map_append]
  rfl
theorem c_addIn {w more : Nat} {b : Bool} {l : List (Nat × Bool)} {post : WSX3 → Prop} (hl : l.length + more ≤ 200) (t8 : SX8) : ∀ (m i : Nat) (s : SX3), i + m = more → IOk s (l ++ (List.range i).map (fun j => (w + j, b))) →
    (∀ s', IOk s' (l ++ (List.range more).map (fun j => (w + j, b))) → s'.1.1.1 = s.1.1.1 → s'.1.1.2 = s.1.1.2 → s'.1.2.1 = s.1.2.1 → s'.1.2.2.1 = s.1.2.2.1 → s'.2.1.2 = s.2.1.2 → s'.2.2.1 = s.2.2.1 → post (s', t8)) →
    wp_X3_addInputs_3 post (m + 1) (s, t8) (nI w) (nI more) (bi b) (nI i) := by
  intro m
  induction m with
  | zero =>
    intro i s hm h hp
    have e : i = more := by omega
    subst e
    show wb_X3_addInputs_3 post _ (s, t8) (nI w) (nI i) (bi b) (nI i)
    exact ⟨fun _ => hp s h rfl rfl rfl rfl rfl rfl, fun c => absurd (nI_le (Nat.le_refl _) (by omega)) c⟩
  | succ m ih =>
    intro i s hm h hp
    have hlen : (l ++ (List.range i).map (fun j => (w + j, b))).length = l.length + i := by rw [List.length_append, List.length_map, List.length_range]
    obtain ⟨h1, h2, h3⟩ := h
    rw [hlen] at h1 h3
    have h1' : s.2.2.2.1 = nI (l.length + i) := h1
    show wb_X3_addInputs_3 post _ (s, t8) (nI w) (nI more) (bi b) (nI i)
    refine ⟨fun c => absurd c (nI_ge (by omega) (by omega)), fun _ => ⟨fun c => absurd c (by show ¬ (200 : Int32) ≤ s.2.2.2.1; rw [h1']; exact nI_ge (b := 200) (by omega) (by omega)), fun _ => ?_⟩⟩
    show vp_in s.2.2.2.1 200 ∧ _
    rw [h1', nI_clamp (by omega)]
    refine ⟨in_k (by omega) (by omega), fun y1 e1 => ⟨in_k (by omega) (by omega), fun y2 e2 y3 e3 => ?_⟩⟩
    have e1 : y1 = upd s.1.2.2.2 (l.length + i) (nI (w + i)) := by rw [e1, nI_add]
    have e2 : y2 = upd s.2.1.1 (l.length + i) (bi b) := by
      rw [e2]
      cases b <;> rfl
    have e3 : y3 = nI (l.length + (i + 1)) := by rw [e3, nI_1]; rfl
    have pbs : pbc (l ++ (List.range (i + 1)).map (fun j => (w + j, b))) = pbc (l ++ (List.range i).map (fun j => (w + j, b))) + (if b = true then 0 else 1) := by
      rw [rng_s, ← List.append_assoc, pbc_app]
      rfl
    have nxt : ∀ v : Int32, v = nI (pbc (l ++ (List.range (i + 1)).map (fun j => (w + j, b)))) → wp_X3_addInputs_3 post (m + 1) (((s.1.1, (s.1.2.1, (s.1.2.2.1, y1))), ((y2, s.2.1.2), (s.2.2.1, (y3, v)))), t8) (nI w) (nI more) (bi b) (nI (i + 1)) := by
      intro v hv
      refine ih (i + 1) _ (by omega) ⟨?_, hv, fun j hj => ?_⟩ (fun s' g1 g2 g3 g4 g5 g6 g7 => hp s' g1 g2 g3 g4 g5 g6 g7)
      · rw [List.length_append, List.length_map, List.length_range]
        exact e3
      · rw [List.length_append, List.length_map, List.length_range] at hj
        rw [rng_s, ← List.append_assoc]
        show y1 j = _ ∧ y2 j = _
        rw [e1, e2]
        by_cases q : j = l.length + i
        · rw [q, pk_us, pk_us, ← hlen, ix_eq]
          exact ⟨rfl, rfl⟩
        · rw [pk_un q, pk_un q, ix_lt (by rw [hlen]; omega)]
          exact h3 j (by omega)
    have h2' : s.2.2.2.2 = nI (pbc (l ++ (List.range i).map (fun j => (w + j, b)))) := h2
    refine ⟨fun c y4 e4 => ?_, fun c y4 e4 => ?_⟩
    · have bf : b = false := eq0_f c
      have := nxt y4 (by
        rw [pbs, bf, e4]
        show s.2.2.2.2 + 1 = _
        rw [h2', nI_1, bf]
        rfl)
      rw [← nI_1] at this
      exact this
    · have bt : b = true := ne0_t c
      have := nxt y4 (by
        rw [pbs, bt, e4]
        show s.2.2.2.2 + nI 0 = _
        rw [h2', nI_add, bt]
        rfl)
      rw [← nI_1] at this
      exact this
theorem NC.ok {T : TX} {g : List DD} {s : SX3} (h : NC T g s) : IOk s (iwF T g 0) := ⟨h.2.2.2.1, h.2.2.2.2.1, h.2.2.2.2.2⟩
theorem c_declare {σ : WSX3} {T : TX} {N : Nat} {g : List DD} {x : DD} {post : Int32 → WSX3 → Prop} (hv : GV T N g) (hc : NC T g σ.1) (h1 : 1 ≤ dsz T x) (h64 : dsz T x ≤ 64)
    (hY : wds T g + dsz T x ≤ 200 → ∀ σ', NC T (g ++ [x]) σ'.1 → σ'.2 = σ.2 → post 1 σ') (hF : 200 < wds T g + dsz T x → post 0 σ) : wp_X3_declare σ (nI (PL T (ntk x))) (nI (if x.2.2 = true then dsz T x else 0)) (nI (mann T x)) post := by
  obtain ⟨s, t8⟩ := σ
  have hl := hv.len
  have hw := hv.2
  obtain ⟨c1, c2, c3, c4, c5, c6⟩ := id hc
  have c1' : s.2.1.2 = nI g.length := c1
  have c2' : s.2.2.1 = nI (wds T g) := c2
  intro y1 e1
  have e1 : y1 = nI (dsz T x) := by
    rw [e1]
    cases q : x.2.2 with
    | true =>
      rw [if_pos rfl]
      by_cases z : 1 < dsz T x
      · exact if_pos (nI_lt (a := 1) z (by omega))
      · rw [show dsz T x = 1 by omega]
        rfl
    | false =>
      have : dsz T x = 1 := by unfold dsz; rw [if_neg (by rw [q]; decide)]
      rw [this]
      rfl
  show ((200 : Int32) < s.2.2.1 + y1 → _) ∧ (¬ (200 : Int32) < s.2.2.1 + y1 → _)
  rw [c2', e1, nI_add]
  refine ⟨fun c => hF ((nI_ltI (a := 200) (by omega) (by omega)).mp c), fun c => ?_⟩
  have hle : wds T g + dsz T x ≤ 200 := by
    by_cases z : wds T g + dsz T x ≤ 200
    · exact z
    · exact absurd (nI_lt (a := 200) (by omega) (by omega)) c
  show (s.2.1.2 < 200 → _) ∧ _
  rw [c1']
  refine ⟨fun _ => ?_, fun c => absurd (nI_lt (b := 200) (by omega) (by omega)) c⟩
  rw [nI_clamp (by omega)]
  refine ⟨in_k (by omega) (by omega), fun y2 e2 => ⟨in_k (by omega) (by omega), fun y3 e3 => ⟨in_k (by omega) (by omega), fun y4 e4 => ⟨in_k (by omega) (by omega), fun y5 e5 y6 e6 => ?_⟩⟩⟩⟩
  rw [nI_1] at e6
  have len1 : (g ++ [x]).length = g.length + 1 := by rw [List.length_append]; rfl
  have fin : ∀ s' : SX3, IOk s' (iwF T (g ++ [x]) 0) → s'.1.1.1 = y2 → s'.1.1.2 = y3 → s'.1.2.1 = y4 → s'.1.2.2.1 = y5 → s'.2.1.2 = y6 → s'.2.2.1 = nI (wds T g) → wp_X3_declare_112 post (s', t8) (nI (dsz T x)) := by
    intro s' g1 g2 g3 g4 g5 g6 g7 y7 e7
    refine hY hle _ ⟨?_, ?_, fun k hk => ?_, g1.1, g1.2.1, g1.2.2⟩ rfl
    · rw [len1, ← e6]
      exact g6
    · have g7' : s'.2.2.1 = nI (wds T g) := g7
      show y7 = _
      rw [e7, wds_app]
      show s'.2.2.1 + _ = nI (wds T g + (dsz T x + 0))
      rw [g7', nI_add]
      rfl
    · rw [len1] at hk
      show s'.1.1.1 k = _ ∧ s'.1.1.2 k = _ ∧ s'.1.2.1 k = _ ∧ s'.1.2.2.1 k = _
      rw [g2, g3, g4, g5, e2, e3, e4, e5]
      by_cases q : k = g.length
      · rw [q, pk_us, pk_us, pk_us, pk_us, gx_eq, tk_lt (Nat.le_refl _), List.take_length]
        exact ⟨rfl, rfl, rfl, rfl⟩
      · rw [pk_un q, pk_un q, pk_un q, pk_un q, gx_lt (by omega), tk_lt (by omega)]
        exact c3 k (by omega)
  have ll := iwF_len T g 0
  have addI : ∀ b : Bool, b = dsec T x → x.2.1 = true → wp_X3_declare_109 post ((((y2, y3), (y4, (y5, s.1.2.2.2))), ((s.2.1.1, y6), s.2.2)), t8) (nI (dsz T x)) (bi b) (nI (dsz T x)) (nI (wds T g)) := by
    intro b hb hin
    unfold wp_X3_declare_109
    refine ⟨_, c_addIn (l := iwF T g 0) (more := dsz T x) (by omega) t8 (dsz T x) 0 _ (by omega) ?_ (fun s' g1 g2 g3 g4 g5 g6 g7 => fin s' ?_ g2 g3 g4 g5 g6 (g7.trans c2'))⟩
    · show IOk _ (iwF T g 0 ++ [])
      rw [List.append_nil]
      exact ⟨c4, c5, c6⟩
    · rw [iwF_app, if_pos hin, Nat.zero_add]
      rw [hb] at g1
      exact g1
  refine ⟨fun c => fin _ ?_ rfl rfl rfl rfl rfl c2', fun c => ?_⟩
  · have hin := (mann_2 T x).mp c
    rw [iwF_app, if_neg (by rw [hin]; decide), List.append_nil]
    exact ⟨c4, c5, c6⟩
  · have hin : x.2.1 = true := by
      cases q : x.2.1 with
      | true => rfl
      | false => exact absurd ((mann_2 T x).mpr q) c
    refine ⟨fun c2 => addI false ((mann_1 T x).mp c2).symm hin, fun c2 => addI true ?_ hin⟩
    cases q : dsec T x with
    | true => rfl
    | false => exact absurd ((mann_1 T x).mpr q) c2
end Cdecl
