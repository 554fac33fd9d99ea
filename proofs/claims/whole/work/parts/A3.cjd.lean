section Cjd
theorem m_ca {T : TX} {N : Nat} {g : List DD} (hv : GV T N g) (hN : N ≤ 3001) : ∀ e : Tr, CA0 T N g e ∧ CA1 T N g e ∧ CA2 T N g e := by
  intro e
  induction e with
  | leaf t =>
    refine ⟨ca_leaf t, ?_, ?_⟩
    · intro n lo hi x w τ post h t1 t' hn hm hw
      have : (1 : Nat) = 0 := hw
      omega
    · intro n lo hi i x w s τ post h t1 t' hn hm hw
      have : (2 : Nat) = 0 := hw
      omega
  | branch p a b iha ihb =>
    refine ⟨ca_cons p a b iha.2.1 ihb.1 (fun τ lo hi j h1 h2 h3 h4 => one_kind h1 h2 h3 h4), ?_, ca_two p a b iha.1 ihb.1⟩
    by_cases q : p % 8 = 0 ∨ p % 8 = 1
    · exact ca_put hv hN p a b q
    · by_cases q2 : p % 8 = 2 ∨ p % 8 = 3
      · exact ca_ow hv hN p a b ihb.1 q2
      · exact ca_if hv hN p a b ihb.1 ihb.2.2 (by omega)
/-- what is wrong in DECLARATIONs, or all names -/
def jD (T : TX) : List DD → List DD → Except (Nat × Nat) (List DD)
  | [], g => .ok g
  | x :: ds, g => if (fdI T g (ntk x)).isSome = true then .error (1, ntk x) else if x.2.2 = true ∧ (NB T (ntk x + 2) < 1 ∨ 64 < NB T (ntk x + 2)) then .error (2, ntk x + 2) else if 200 < wds T g + dsz T x then .error (2, ntk x) else jD T ds (g ++ [x])
def jp (T : TX) (ds : List DD) (e : Tr) : Except (Nat × Nat) (List DD) := match jD T ds [] with
  | .error z => .error z
  | .ok g => match js T g e 0 false with
    | .error z => .error z
    | .ok _ => .ok g
theorem GV.app {T : TX} {N : Nat} {g : List DD} {x : DD} (h : GV T N g) (hx : WFD T N x) (h1 : 1 ≤ dsz T x) (h2 : dsz T x ≤ 64) (h3 : wds T g + dsz T x ≤ 200) : GV T N (g ++ [x]) := by
  refine ⟨fun y hy => ?_, ?_⟩
  · rcases List.mem_append.mp hy with q | q
    · exact h.1 y q
    · have : y = x := by simpa using q
      rw [this]
      exact ⟨hx, h1, h2⟩
  · rw [wds_app]
    show wds T g + (dsz T x + 0) ≤ 200
    omega
theorem c_kindG {σ : SX4} {u L j : Nat} {post : Int32 → SX4 → Prop} (h : NW0 σ u L) (hj : j < 2 ^ 31) (h1 : j < u → post (σ.1.1.2 j) σ) (h0 : u ≤ j → post 30 σ) : wp_X4_kind σ (nI j) post := by
  have hL := h.2.2.1
  have hL2 := h.2.2.2
  refine c_has h hj (fun q => ⟨fun c => absurd c (by decide), fun _ => ⟨?_, ?_⟩⟩) (fun q => ⟨fun _ => h0 q, fun c => absurd rfl c⟩)
  · rw [h.2.1]
    exact in_k (by omega) hL2
  · rw [nI_clamp (by omega)]
    exact h1 q
/-- the node behind a DECLARATION that is no row is no LENGTH -/
theorem nxt12 {T : TX} {N : Nat} {σ : SX4} (ds : List DD) (e : Tr) (s : Nat) (hd : CD T σ ds s) (hb : CB T σ e 0 (s + szD ds)) (hw : WFS T N e 0) (hu : 0 < szD ds + szS T e 0) : ¬ σ.1.1.2 s = 12 := by
  cases ds with
  | cons x ds =>
    rw [hd.1.1]
    decide
  | nil =>
    cases e with
    | leaf t =>
      have : szD [] + szS T (.leaf t) 0 = 0 := rfl
      omega
    | branch p a b =>
      rw [CB, if_pos rfl] at hb
      rw [WFS, if_pos rfl] at hw
      have hb1 : CB T σ a 1 s := hb.1
      have hw1 := hw.1
      cases a with
      | leaf t =>
        have : (1 : Nat) = 0 := hw1
        omega
      | branch p2 a2 b2 =>
        rw [CB, if_neg (by omega), if_pos rfl] at hb1
        split at hb1
        · rw [hb1.1.1]; decide
        · split at hb1
          · rw [hb1.1.1]; decide
          · split at hb1
            · rw [hb1.1.1]; decide
            · split at hb1
              · rw [hb1.1.1]; decide
              · split at hb1
                · rw [hb1.1.1]; decide
                · rw [hb1.1.1]; decide
/-- the class's DECLARATIONs from node s on, g being declared before -/
theorem c_jD {T : TX} {N L : Nat} {e : Tr} (hN : N ≤ 3001) : ∀ (ds : List DD) (g : List DD) (s u M t t' : Nat) (σ : WSX1) (post : Int32 → WSX1 → Prop), GV T N g → WFDs T N ds t t' → JI T g L σ u 0 → u ≤ 3000 → CD T σ.1.2 ds s → CB T σ.1.2 e 0 (s + szD ds) → WFS T N e 0 → s + szD ds + szS T e 0 = u → u - s < M →
    (∀ g' σ', jD T ds g = .ok g' → GV T N g' → σ'.1 = σ.1 → σ'.2.2 = σ.2.2 → NC T g' σ'.2.1 → ∀ M', u - (s + szD ds) < M' → wp_X1_firstWrong_12 post M' σ' (nI (s + szD ds))) →
    (∀ z σ', jD T ds g = .error z → JX T L σ σ' z → post (nI z.1) σ') → wp_X1_firstWrong_12 post M σ (nI s) := by
  intro ds
  induction ds with
  | nil =>
    intro g s u M t t' σ post hv hwd hj hu3 hcd hcb hw hu hM hY hF
    exact hY g σ rfl hv rfl rfl hj.2.2.1 M hM
  | cons x ds ih =>
    intro g s u M t t' σ post hv hwd hj hu3 hcd hcb hw hu hM hY hF
    obtain ⟨d1, d2, d3⟩ := hwd
    obtain ⟨b1, b2, b3⟩ := hcd
    have es : szD (x :: ds) = 1 + bN x.2.2 + szD ds := rfl
    rw [es] at hcb hu hY
    have ej : jD T (x :: ds) g = (if (fdI T g (ntk x)).isSome = true then .error (1, ntk x) else if x.2.2 = true ∧ (NB T (ntk x + 2) < 1 ∨ 64 < NB T (ntk x + 2)) then .error (2, ntk x + 2) else if 200 < wds T g + dsz T x then .error (2, ntk x) else jD T ds (g ++ [x])) := rfl
    obtain ⟨M', rfl⟩ : ∃ M', M = M' + 1 := ⟨M - 1, by omega⟩
    obtain ⟨j1, j2, j3, j4, j5⟩ := id hj
    have hl := hv.len
    have hw2 := hv.2
    have K := d2.2.2.1
    refine c_w j1 (by omega) (lk_11 j1 (by omega) b1.1 ?_)
    unfold wp_X1_lookAtDeclaration
    refine c_nplace j1 (by omega) ?_
    rw [b1.2.1]
    refine c_findN j2 hv j3 K ?_
    cases hf : fdI T g (ntk x) with
    | some k =>
      have hk := fdI_lt g _ k hf
      have ek : rI 0 (some k) = nI k := by show nI (0 + k) = _; rw [Nat.zero_add]
      rw [ek]
      rw [hf, if_pos (by rfl)] at ej
      refine ⟨fun c => absurd c (nI_nem1 (by omega)), fun _ => ⟨fun c => absurd c (by decide), fun _ => ?_⟩⟩
      exact hF (1, ntk x) _ ej ⟨rfl, ⟨u, j1⟩, rfl, (by decide : 0 < 1), (by decide : 1 < 100)⟩
    | none =>
      rw [hf, if_neg (by simp)] at ej
      refine ⟨fun _ => ?_, fun c => absurd rfl c⟩
      rw [nI_1]
      -- the rest, once the length is known to be right
      have go : 1 ≤ dsz T x → dsz T x ≤ 64 → ¬ (x.2.2 = true ∧ (NB T (ntk x + 2) < 1 ∨ 64 < NB T (ntk x + 2))) → wp_X1_lookAtDeclaration_83 (fun r τ4 => ((r = 0 → wp_X1_firstWrong_12 post M' τ4 (nI (s + 1))) ∧ (¬ r = 0 → post r τ4))) σ (nI s) (nI (PL T (ntk x))) (nI (if x.2.2 = true then dsz T x else 0)) := by
        intro h1 h64 hn
        rw [if_neg hn] at ej
        refine c_nvalue j1 (by omega) ?_
        rw [b1.2.2]
        refine c_declare hv j3 h1 h64 (fun hle σ3 nc3 e3 => ?_) (fun hgt => ?_)
        · rw [if_neg (by omega)] at ej
          refine ⟨fun _ => ⟨fun _ => ⟨fun _ => ?_, fun c => absurd rfl c⟩, fun c => absurd rfl c⟩, fun c => absurd c (by decide)⟩
          have hv' := hv.app d2 h1 h64 hle
          have hj' : JI T (g ++ [x]) L ((σ.1.1, σ.1.2), σ3) u 0 := ⟨j1, by show TC σ3.2 T; rw [e3]; exact j2, nc3, j4, j5⟩
          have nxt : ∀ M2, u - (s + 1 + bN x.2.2) < M2 → wp_X1_firstWrong_12 post M2 ((σ.1.1, σ.1.2), σ3) (nI (s + 1 + bN x.2.2)) := by
            intro M2 hM2
            refine ih (g ++ [x]) (s + 1 + bN x.2.2) u M2 _ _ _ post hv' d3 hj' hu3 b3 (by rw [show s + 1 + bN x.2.2 + szD ds = s + (1 + bN x.2.2 + szD ds) by omega]; exact hcb) hw (by omega) hM2 (fun g' σ' r1 r2 r3 r4 r5 M3 hM3 => ?_) (fun z σ' r1 x1 => hF z σ' (by rw [ej]; exact r1) ⟨x1.1, x1.2.1, x1.2.2.1.trans e3, x1.2.2.2⟩)
            have := hY g' σ' (by rw [ej]; exact r1) r2 r3 (r4.trans e3) r5 M3 (by omega)
            rw [show s + (1 + bN x.2.2 + szD ds) = s + 1 + bN x.2.2 + szD ds by omega] at this
            exact this
          cases hr : x.2.2 with
          | false =>
            rw [hr] at nxt
            exact nxt M' (by show u - (s + 1 + 0) < M'; omega)
          | true =>
            rw [hr] at nxt hu
            have hb1 : bN true = 1 := rfl
            obtain ⟨M2, rfl⟩ : ∃ M2, M' = M2 + 1 := ⟨M' - 1, by omega⟩
            have k12 := (b2 hr).1
            exact c_w j1 (by omega) (lk_zero j1 (by omega) (K := 12) k12 (by omega) ⟨fun _ => nxt M2 (by omega), fun c => absurd rfl c⟩)
        · rw [if_pos hgt] at ej
          refine ⟨fun c => absurd rfl c, fun _ => c_wrongIf (b := true) j1 (by omega) (fun c2 => absurd c2 (by decide)) (fun _ => ⟨fun c => absurd c (by decide), fun _ => ?_⟩)⟩
          exact hF (2, ntk x) _ ej ⟨b1.2.1, ⟨u, j1⟩, rfl, (by decide : 0 < 2), (by decide : 2 < 100)⟩
      cases hr : x.2.2 with
      | false =>
        have ed : dsz T x = 1 := by unfold dsz; rw [if_neg (by rw [hr]; decide)]
        rw [hr] at go hcb hu b3
        have hb0 : bN false = 0 := rfl
        have fin := go (by omega) (by omega) (fun q => absurd q.1 (by decide))
        refine c_kindG j1 (by omega) (fun q => ⟨fun _ => fin, fun c => absurd c ?_⟩) (fun q => ⟨fun _ => fin, fun c => absurd c (by decide)⟩)
        exact nxt12 (T := T) (N := N) ds e (s + 1) (by rw [hb0] at b3; exact b3) (by rw [hb0, show s + (1 + 0 + szD ds) = s + 1 + szD ds by omega] at hcb; exact hcb) hw (by omega)
      | true =>
        have ed : dsz T x = NB T (ntk x + 2) := by unfold dsz; rw [if_pos hr]
        have hnb := (num_tok (d2.2.2.2.1 hr).2.1).2.2.2.1
        rw [hr] at go hu
        rw [hr] at ej
        have hb1 : bN true = 1 := rfl
        obtain ⟨k1, k2, k3⟩ := b2 hr
        have bad : (NB T (ntk x + 2) < 1 ∨ 64 < NB T (ntk x + 2)) → wp_X1_lookAtDeclaration_67 (fun r τ4 => ((r = 0 → wp_X1_firstWrong_12 post M' τ4 (nI (s + 1))) ∧ (¬ r = 0 → post r τ4))) σ (nI s) := by
          intro q
          rw [if_pos ⟨rfl, q⟩] at ej
          unfold wp_X1_lookAtDeclaration_67
          rw [nI_1]
          refine c_nplace j1 (by omega) ⟨fun c => absurd c (by decide), fun _ => ?_⟩
          exact hF (2, ntk x + 2) _ ej ⟨k2, ⟨u, j1⟩, rfl, (by decide : 0 < 2), (by decide : 2 < 100)⟩
        refine c_nkind j1 (by omega) ?_
        rw [k1]
        refine ⟨fun c => absurd rfl c, fun _ => c_nvalue j1 (by omega) ?_⟩
        rw [k3]
        refine ⟨fun c => bad (Or.inl ((nI_ltI (b := 1) (by omega) (by omega)).mp c)), fun c => ⟨fun c2 => ?_, fun c2 => bad (Or.inr ?_)⟩⟩
        · have h1 : ¬ NB T (ntk x + 2) < 1 := fun q => c (nI_lt (b := 1) q (by omega))
          have h2 := (nI_leI (b := 64) (by omega) (by omega)).mp c2
          have := go (by omega) (by omega) (fun q => by omega)
          rw [if_pos rfl, ed] at this
          exact this
        · exact Nat.not_le.mp (fun q => c2 (nI_le (b := 64) q (by omega)))
end Cjd
