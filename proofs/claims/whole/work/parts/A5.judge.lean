section JudgeAll
theorem jD_z {T : TX} : ∀ (ds g : List DD) (z : Nat × Nat), jD T ds g = .error z → 0 < z.1 ∧ z.1 < 100 := by
  intro ds
  induction ds with
  | nil => intro g z h; cases h
  | cons x ds ih =>
    intro g z h
    unfold jD at h
    split at h
    · cases h
      exact ⟨Nat.succ_pos 0, (by decide : 1 < 100)⟩
    · split at h
      · cases h
        exact ⟨Nat.succ_pos 1, (by decide : 2 < 100)⟩
      · split at h
        · cases h
          exact ⟨Nat.succ_pos 1, (by decide : 2 < 100)⟩
        · exact ih _ z h
theorem jD_cons {T : TX} (x : DD) (ds g : List DD) : (∀ z, jD T [x] g = .error z → jD T (x :: ds) g = .error z) ∧ (jD T [x] g = .ok (g ++ [x]) → jD T (x :: ds) g = jD T ds (g ++ [x])) := by
  have e : jD T (x :: ds) g = (if (fdI T g (ntk x)).isSome = true then .error (1, ntk x) else if x.2.2 = true ∧ (NB T (ntk x + 2) < 1 ∨ 64 < NB T (ntk x + 2)) then .error (2, ntk x + 2) else if 200 < wds T g + dsz T x then .error (2, ntk x) else jD T ds (g ++ [x])) := rfl
  have e1 : jD T [x] g = (if (fdI T g (ntk x)).isSome = true then .error (1, ntk x) else if x.2.2 = true ∧ (NB T (ntk x + 2) < 1 ∨ 64 < NB T (ntk x + 2)) then .error (2, ntk x + 2) else if 200 < wds T g + dsz T x then .error (2, ntk x) else .ok (g ++ [x])) := rfl
  rw [e, e1]
  split
  · exact ⟨(fun z h => by cases h; rfl), (fun h => by cases h)⟩
  · split
    · exact ⟨(fun z h => by cases h; rfl), (fun h => by cases h)⟩
    · split
      · exact ⟨(fun z h => by cases h; rfl), (fun h => by cases h)⟩
      · exact ⟨(fun z h => by cases h), (fun _ => rfl)⟩
theorem jD_ok {T : TX} : ∀ (ds g g' : List DD), jD T ds g = .ok g' → g' = g ++ ds := by
  intro ds
  induction ds with
  | nil =>
    intro g g' h
    cases h
    rw [List.append_nil]
  | cons x ds ih =>
    intro g g' h
    unfold jD at h
    split at h
    · cases h
    · split at h
      · cases h
      · split at h
        · cases h
        · have := ih _ _ h
          rw [this, List.append_assoc]
          rfl
/-- the class's judge of a whole program -/
theorem c_judge {T : TX} {N L t1 : Nat} {ds : List DD} {e : Tr} {σ : WSX1} {u : Nat} {post : Int32 → WSX1 → Prop} (hN : N ≤ 3001) (hwd : WFDs T N ds 0 t1) (hws : WFS T N e 0) (hn : NW σ.1.2 u L) (hu3 : u ≤ 3000) (hT : TC σ.2.2 T) (h0 : NC T [] σ.2.1) (hcd : CD T σ.1.2 ds 0) (hcb : CB T σ.1.2 e 0 (szD ds)) (hcw : CW T σ.1.2 e 0 (szD ds)) (hu : szD ds + szS T e 0 = u)
    (hY : ∀ g σ', jp T ds e = .ok g → GV T N g → σ'.1.1 = (-1, 0) → σ'.2.2 = σ.2.2 → NC T g σ'.2.1 → JN σ.1.2 σ'.1.2 (szD ds) u → CJS T g σ'.1.2 e 0 (szD ds) → post 0 σ')
    (hF : ∀ z σ', jp T ds e = .error z → JX T L σ σ' z → post (nI z.1) σ') : wp_X1_firstWrong σ post := by
  have hj0 : JI T [] L (((-1, 0), σ.1.2), σ.2) u 0 := ⟨hn.w, hT, h0, rfl, by decide⟩
  have gv0 : GV T N [] := ⟨(fun x hx => by cases hx), Nat.zero_le _⟩
  have fin : ∀ (M : Nat) (σ' : WSX1), 0 < M → NW0 σ'.1.2 u L → post 0 σ' → wp_X1_firstWrong_12 post M σ' (nI u) := by
    intro M σ' hM hw hp
    obtain ⟨M', rfl⟩ : ∃ M', M = M' + 1 := ⟨M - 1, by omega⟩
    show wb_X1_firstWrong_12 post _ σ' (nI u)
    have e : σ'.1.2.2.2.2.2 = nI u := hw.1
    show (σ'.1.2.2.2.2.2 ≤ nI u → _) ∧ (¬ σ'.1.2.2.2.2.2 ≤ nI u → _)
    rw [e]
    exact ⟨fun _ => hp, fun c => absurd (nI_le (Nat.le_refl _) (by omega)) c⟩
  have ejp : jp T ds e = (match jD T ds [] with
    | .error z => .error z
    | .ok g => match js T g e 0 false with
      | .error z => .error z
      | .ok _ => .ok g) := rfl
  refine ⟨u + 1, ?_⟩
  refine c_jD (e := e) hN ds [] 0 u (u + 1) 0 t1 _ post gv0 hwd hj0 hu3 hcd (by rw [Nat.zero_add]; exact hcb) hws (by omega) (by omega) (fun g σ1 r1 hv f1 f2 nc M1 hM1 => ?_) (fun z σ1 r1 x1 => hF z σ1 (by rw [ejp, r1]) x1)
  rw [Nat.zero_add] at hM1 ⊢
  rw [r1] at ejp
  dsimp only at ejp
  have hj1 : JI T g L σ1 u 0 := ⟨by rw [f1]; exact hn.w, by rw [f2]; exact hT, nc, by rw [f1]; rfl, by decide⟩
  have s12 : σ1.1.2 = σ.1.2 := by rw [f1]
  refine c_js hv e 0 (szD ds) u 0 M1 σ1 post (by omega) hws hj1 (Nat.zero_le _) hu3 (by rw [s12]; exact hcb) (by rw [s12]; exact hcw) (by omega) (fun j j1 j2 => by rw [s12]; exact (hn.2.2.2.2 j (by omega)).1) (by omega) (fun σ2 r2 g1 g2 M2 hM2 => ?_) (fun z σ2 r2 x2 => hF z σ2 (by
    have r2' : js T g e 0 false = .error z := r2
    rw [ejp, r2']) ⟨x2.1, x2.2.1, x2.2.2.1.trans f2, x2.2.2.2⟩)
  rw [hu]
  refine fin M2 σ2 (by omega) (g1.2.2.nw (by rw [s12]; exact hn.w)) (hY g σ2 ?_ hv ?_ ?_ ?_ ?_ g2)
  · have r2' : js T g e 0 false = .ok () := r2
    rw [ejp, r2']
  · rw [g1.1, f1]
  · rw [g1.2.1, f2]
  · rw [g1.2.1]
    exact nc
  · rw [← s12, ← hu]
    exact g1.2.2
theorem DR.sh {τ τ' : SX12} (h : DR τ τ') : τ'.1.1 = τ.1.1 ∧ τ'.1.2.1.1 = τ.1.2.1.1 ∧ τ'.2 = τ.2 := by
  obtain ⟨n, a, b, c, d, e, w, i, p, f, rfl⟩ := h
  exact ⟨rfl, rfl, rfl⟩
theorem DR.mdx {T : TX} {τ τ' : SX12} (h : DR τ τ') {ds : List DD} {q : Nat} {x : Int32} (k : MDx T τ ds q x) : MDx T τ' ds q x := by
  have gen : ∀ (ds : List DD) (q : Nat), MDx T τ ds q x → MDx T τ' ds q x := by
    intro ds
    induction ds with
    | nil => intro q _; trivial
    | cons d ds ih =>
      intro q k
      refine ⟨?_, ?_, ih _ k.2.2⟩
      · obtain ⟨n, a, b, c, d, e, w, i, p, f, rfl⟩ := h
        exact k.1
      · obtain ⟨n, a, b, c, d, e, w, i, p, f, rfl⟩ := h
        exact k.2.1
  exact gen ds q k
theorem DR.ms {T : TX} {τ τ' : SX12} (h : DR τ τ') {e : Tr} {m lo hi : Nat} {x : Int32} (hh : hi ≤ 9000) (k : MS T τ e m lo hi x) : MS T τ' e m lo hi x := by
  obtain ⟨n, a, b, c, d, e, w, i, p, f, rfl⟩ := h
  exact MS.fr (τ := τ) _ m lo hi x hh (fun _ _ _ => ⟨rfl, rfl, rfl⟩) (fun _ _ _ _ => rfl) k
/-- the reference's rows of DECLARATIONs from node q on, g being declared before -/
theorem m_jD {T : TX} {N n : Nat} {e : Tr} {hi : Nat} {x : Int32} {post : SX12 → Prop} (hN : N ≤ 3001) (h9 : hi ≤ 3100) (hws : WFS T N e 0) : ∀ (ds g : List DD) (q M t t' : Nat) (τ : SX12), GV T N g → WFDs T N ds t t' → MJI T N g τ → MDx T τ ds q x → q + dnS ds ≤ hi → τ.2.1.2.1.1 = 0 → ds.length + bl e < M →
    (∀ g' τ', jD T ds g = .ok g' → GV T N g' → DR τ τ' → NM T g' τ' → τ'.2.1.2.1.1 = 0 → ∀ M', bl e < M' → wp_X12_checkAll_7 (wg_ca n) post M' τ' (bi false) x) →
    (∀ z τ', jD T ds g = .error z → (∃ τ1, DR τ τ1 ∧ τ' = (τ1.1, (((τ1.2.1.1.1, (τ1.2.1.1.2.1, (τ1.2.1.1.2.2.1, (nI z.2)))), (((nI z.1), τ1.2.1.2.1.2), τ1.2.1.2.2)), τ1.2.2))) → post τ') → wp_X12_checkAll_7 (wg_ca n) post M τ (bi false) (lnk ds q x) := by
  intro ds
  induction ds with
  | nil =>
    intro g q M t t' τ hv hwd hj hm hq c0 hM hY hF
    exact hY g τ rfl hv (DR.rf τ) hj.2.2 c0 M (by simpa using hM)
  | cons d ds ih =>
    intro g q M t t' τ hv hwd hj hm hq c0 hM hY hF
    obtain ⟨d1, d2, d3⟩ := hwd
    obtain ⟨m1, m2, m3⟩ := hm
    have es : dnS (d :: ds) = dn d + dnS ds := rfl
    have hdn : dn d ≤ 4 := by
      unfold dn
      have b1 : bN d.2.1 ≤ 1 := by cases d.2.1 <;> decide
      have b2 : bN d.2.2 ≤ 1 := by cases d.2.2 <;> decide
      omega
    have hlen : (d :: ds).length = ds.length + 1 := rfl
    obtain ⟨M', rfl⟩ : ∃ M', M = M' + 1 := ⟨M - 1, by omega⟩
    obtain ⟨jc1, jc2⟩ := jD_cons (T := T) d ds g
    show wb_X12_checkAll_7 (wg_ca n) post (fun a => wp_X12_checkAll_7 (wg_ca n) post M' a.1 a.2.1 a.2.2) τ (bi false) (nI q)
    have k0 : τ.1.1.2.2.1 q = nI (kM (TK T d.1)) := m1.1
    refine ⟨fun c => absurd c (nI_nem1 (by omega)), fun _ => ⟨fun c => absurd c0 c, fun _ => ⟨in_k (by omega) (by omega), ?_⟩⟩⟩
    rw [nI_clamp (by omega), k0]
    have go : wp_X12_checkAll_39 (wg_ca n) (fun a => wp_X12_checkAll_7 (wg_ca n) post M' a.1 a.2.1 a.2.2) post τ (bi false) (nI q) := by
      refine m_declare hv hN hj d2 (by omega) m1 c0 (fun hok hv' τ1 r1 nm1 => ?_) (fun z hz => ?_)
      · refine ⟨in_k (by omega) (by omega), fun y ey => ?_⟩
        rw [nI_clamp (by omega)] at ey
        have mj1 : MJI T N (g ++ [d]) τ1 := by
          refine ⟨?_, ?_, nm1⟩
          · obtain ⟨n, a, b, c, d, e, w, i, p, f, rfl⟩ := r1
            exact hj.1
          · obtain ⟨n, a, b, c, d, e, w, i, p, f, rfl⟩ := r1
            exact hj.2.1
        have why1 : τ1.2.1.2.1.1 = 0 := by
          obtain ⟨n, a, b, c, d, e, w, i, p, f, rfl⟩ := r1
          exact c0
        have nx : y = lnk ds (q + dn d) x := by
          rw [ey]
          have := r1.sh.2.1
          rw [this]
          exact m2
        rw [nx]
        refine ih (g ++ [d]) (q + dn d) M' _ _ τ1 hv' d3 mj1 (r1.mdx m3) (by omega) why1 (by omega) (fun g' τ' h1 h2 h3 h4 h5 M2 hM2 => hY g' τ' (by rw [jc2 hok]; exact h1) h2 (r1.tr h3) h4 h5 M2 hM2) (fun z τ' h1 h2 => ?_)
        obtain ⟨τ2, z1, z2⟩ := h2
        exact hF z τ' (by rw [jc2 hok]; exact h1) ⟨τ2, r1.tr z1, z2⟩
      · have hz1 := jD_z _ _ z hz
        have done := hF z (τ.1, (((τ.2.1.1.1, (τ.2.1.1.2.1, (τ.2.1.1.2.2.1, (nI z.2)))), (((nI z.1), τ.2.1.2.1.2), τ.2.1.2.2)), τ.2.2)) (jc1 z hz) ⟨τ, DR.rf τ, rfl⟩
        refine ⟨in_k (by omega) (by omega), fun y ey => ?_⟩
        obtain ⟨M2, rfl⟩ : ∃ M2, M' = M2 + 1 := ⟨M' - 1, by omega⟩
        show wb_X12_checkAll_7 (wg_ca n) post (fun a => wp_X12_checkAll_7 (wg_ca n) post M2 a.1 a.2.1 a.2.2) (τ.1, (((τ.2.1.1.1, (τ.2.1.1.2.1, (τ.2.1.1.2.2.1, (nI z.2)))), (((nI z.1), τ.2.1.2.1.2), τ.2.1.2.2)), τ.2.2)) (bi false) y
        exact ⟨fun _ => done, fun _ => ⟨fun _ => done, fun c => absurd c (nI_ne0 hz1.1 (by omega))⟩⟩
    rcases d2.1 with z | z
    · rw [z]
      exact ⟨fun _ => go, fun c => absurd rfl c⟩
    · rw [z]
      exact ⟨fun c => absurd c (by decide), fun _ => ⟨in_k (by omega) (by omega), fun c => absurd rfl c, fun _ => go⟩⟩
/-- the reference's check of a whole program -/
theorem m_judge {T : TX} {N t1 t' : Nat} {ds : List DD} {e : Tr} {τ : SX12} {q : Nat} {x : Int32} {post : Int32 → SX12 → Prop} (hN : N ≤ 3001) (hwd : WFDs T N ds 0 t1) (hws : WFS T N e 0) (hxs : XS T e 0 t1 t' 31) (hj : MJI T N [] τ) (hq : NQ τ q) (hq9 : q ≤ 3100) (h1 : 1 + dnS ds ≤ q) (hf : τ.1.1.2.2.2.2 0 = lnk ds 1 x) (hm : MDx T τ ds 1 x) (hms : MS T τ e 0 (1 + dnS ds) q x) (c0 : τ.2.1.2.1.1 = 0)
    (hY : ∀ g τ', jp T ds e = .ok g → GV T N g → (∃ τ1, DR τ τ1 ∧ JR τ1 τ' (1 + dnS ds) q) → NM T g τ' → τ'.2.1.2.1.1 = 0 → MJS T g τ' e 0 x → post 0 τ')
    (hF : ∀ z τ', jp T ds e = .error z → (∃ τ1, DR τ τ1 ∧ JR τ1 τ' (1 + dnS ds) q) → τ'.2.1.2.1.1 = nI z.1 → τ'.2.1.1.2.2.2 = nI z.2 → post 0 τ') : wg_ca 100 0 τ [nI 0, bi false] post := by
  show wp_X12_checkAll (wg_ca 99) τ (nI 0) (bi false) (post 0)
  refine ⟨in_k (by omega) (by omega), fun y ey => ⟨ds.length + bl e + 1, ?_⟩⟩
  rw [nI_clamp (by omega)] at ey
  have ey : y = lnk ds 1 x := ey.trans hf
  rw [ey]
  have gv0 : GV T N [] := ⟨(fun x hx => by cases hx), Nat.zero_le _⟩
  have ejp : jp T ds e = (match jD T ds [] with
    | .error z => .error z
    | .ok g => match js T g e 0 false with
      | .error z => .error z
      | .ok _ => .ok g) := rfl
  refine m_jD (n := 99) (e := e) (hi := q) hN hq9 hws ds [] 1 _ 0 t1 τ gv0 hwd hj hm h1 c0 (by omega) (fun g τ1 r1 hv r2 r3 r4 M' hM' => ?_) (fun z τ' r1 r2 => ?_)
  · rw [r1] at ejp
    dsimp only at ejp
    have mj1 : MJI T N g τ1 := by
      refine ⟨?_, ?_, r3⟩
      · obtain ⟨n, a, b, c, d, e, w, i, p, f, rfl⟩ := r2
        exact hj.1
      · obtain ⟨n, a, b, c, d, e, w, i, p, f, rfl⟩ := r2
        exact hj.2.1
    have sz1 : ∀ j, 1 + dnS ds ≤ j → j < q → τ1.1.2.1.1.2.1 j = 0 := by
      intro j j1 j2
      obtain ⟨n, a, b, c, d, e, w, i, p, f, rfl⟩ := r2
      exact hq.2 j j2
    have hfb := fb_le e 0 _ _ _ hxs
    refine (m_ca hv hN e).1 99 (1 + dnS ds) q x false τ1 (post 0) 31 t1 t' M' (by omega) (r2.ms (by omega) hms) hws hxs (by omega) mj1 sz1 hM' (fun τ2 g1 g2 => ?_)
    cases hjs : js T g e 0 false with
    | error z =>
      rw [hjs] at ejp
      obtain ⟨v1, v2⟩ := (g2.2 r4).2 z hjs
      exact hF z τ2 ejp ⟨τ1, r2, g1⟩ v1 v2
    | ok uu =>
      rw [hjs] at ejp
      obtain ⟨v1, v2⟩ := (g2.2 r4).1 hjs
      exact hY g τ2 ejp hv ⟨τ1, r2, g1⟩ (g1.mji mj1).2.2 v1 v2
  · rw [r1] at ejp
    obtain ⟨τ1, z1, rfl⟩ := r2
    exact hF z _ ejp ⟨τ1, z1, JR.wr τ1 _ _ _ _⟩ rfl rfl
end JudgeAll
