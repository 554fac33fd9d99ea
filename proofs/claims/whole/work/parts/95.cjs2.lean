section Cjs2
theorem CJ.jf {T : TX} {g : List DD} {σ σ' : SX4} {lo hi : Nat} (h : JN σ σ' lo hi) {e : Tr} {i : Nat} (hc : CJ T g σ e i) (h0 : sz T e ≤ i + 1) (h1 : i < lo ∨ hi + sz T e ≤ i + 1) : CJ T g σ' e i := by
  refine CJ.fr (σ := σ) (lo := i + 1 - sz T e) (hi := i + 1) (fun j j1 j2 => (h.2.1 j (by omega)).1) e i hc h0 (by omega) (by omega)
theorem jt_ok {T : TX} {g : List DD} {w r : Bool} {t k : Nat} (h : jt T g w r t = .ok k) : fdI T g t = some k ∧ (gx g k).2.2 = r ∧ ¬ (w && ((gx g k).2.2 || !(dsec T (gx g k)))) = true := by
  unfold jt at h
  cases hf : fdI T g t with
  | none =>
    rw [hf] at h
    cases h
  | some k2 =>
    rw [hf] at h
    dsimp only at h
    split at h
    · cases h
    · rename_i q
      split at h
      · rename_i q2
        cases h
        exact ⟨rfl, q2, q⟩
      · cases h
theorem c_js {T : TX} {N L : Nat} {g : List DD} (hv : GV T N g) : ∀ (e : Tr) (m i0 u hid M : Nat) (σ : WSX1) (post : Int32 → WSX1 → Prop), m ≤ 2 → WFS T N e m → JI T g L σ u hid → hid ≤ i0 → u ≤ 3000 → CB T σ.1.2 e m i0 → CW T σ.1.2 e m i0 → i0 + szS T e m ≤ u → (∀ j, i0 ≤ j → j < i0 + szS T e m → σ.1.2.2.2.1 j = 0) → u - i0 < M →
    (∀ σ', js T g e m (decide (0 < hid)) = .ok () → JF σ σ' i0 (i0 + szS T e m) → CJS T g σ'.1.2 e m i0 → ∀ M', u - (i0 + szS T e m) < M' → wp_X1_firstWrong_12 post M' σ' (nI (i0 + szS T e m))) →
    (∀ z σ', js T g e m (decide (0 < hid)) = .error z → JX T L σ σ' z → post (nI z.1) σ') → wp_X1_firstWrong_12 post M σ (nI i0) := by
  intro e
  induction e with
  | leaf t =>
    intro m i0 u hid M σ post hm hwf hj hh hu3 hcb hcw hu hz hM hY hF
    exact hY σ rfl (JF.rf _ _ _) trivial M hM
  | branch p a b iha ihb =>
    intro m i0 u hid M σ post hm hwf hj hh hu3 hcb hcw hu hz hM hY hF
    have pa := sz_pos T a
    have pb := sz_pos T b
    have hl := hv.len
    have hw := hv.2
    obtain ⟨j1, j2, j3, j4, j5⟩ := id hj
    -- two rows of statements one behind the other
    have two : ∀ (m1 k : Nat), m1 ≤ 2 → WFS T N a m1 → WFS T N b 0 → CB T σ.1.2 a m1 i0 → CW T σ.1.2 a m1 i0 → i0 + szS T a m1 + k + szS T b 0 ≤ u → CB T σ.1.2 b 0 (i0 + szS T a m1 + k) → CW T σ.1.2 b 0 (i0 + szS T a m1 + k) → (k = 0 ∨ k = 1 ∧ σ.1.2.1.1.2 (i0 + szS T a m1) = 19) → (∀ j, i0 ≤ j → j < i0 + szS T a m1 + k + szS T b 0 → σ.1.2.2.2.1 j = 0) →
        (∀ z σ', (match js T g a m1 (decide (0 < hid)) with | .error z => Except.error z | .ok _ => js T g b 0 (decide (0 < hid))) = .error z → JX T L σ σ' z → post (nI z.1) σ') →
        (∀ σ', (match js T g a m1 (decide (0 < hid)) with | .error z => Except.error z | .ok _ => js T g b 0 (decide (0 < hid))) = .ok () → JF σ σ' i0 (i0 + szS T a m1 + k + szS T b 0) → CJS T g σ'.1.2 a m1 i0 → CJS T g σ'.1.2 b 0 (i0 + szS T a m1 + k) → ∀ M', u - (i0 + szS T a m1 + k + szS T b 0) < M' → wp_X1_firstWrong_12 post M' σ' (nI (i0 + szS T a m1 + k + szS T b 0))) → wp_X1_firstWrong_12 post M σ (nI i0) := by
      intro m1 k hm1 wa wb ca va hu2 cb vb hk hz2 hF2 hY2
      refine iha m1 i0 u hid M σ post hm1 wa hj hh hu3 ca va (by omega) (fun j x1 x2 => hz2 j x1 (by omega)) hM (fun σ1 r1 f1 q1 M1 hM1 => ?_) (fun z σ1 r1 x1 => hF2 z σ1 (by rw [r1]) x1)
      rw [r1] at hF2 hY2
      dsimp only at hF2 hY2
      have go : ∀ M2, u - (i0 + szS T a m1 + k) < M2 → wp_X1_firstWrong_12 post M2 σ1 (nI (i0 + szS T a m1 + k)) := by
        intro M2 hM2
        refine ihb 0 (i0 + szS T a m1 + k) u hid M2 σ1 post (by omega) wb (f1.ji hj) (by omega) hu3 (CB.fr (lo := i0 + szS T a m1) (hi := u) (f1.2.2.ag _ _) (fun j x1 x2 => (f1.2.2.2.1 j (by omega)).1) b 0 _ (by omega) cb (by rw [if_neg (by omega)]; omega) (by omega)) (CW.fr (lo := i0 + szS T a m1) (hi := u) (fun j x1 x2 => (f1.2.2.2.1 j (by omega)).1) b 0 _ (by omega) vb (by omega) (by omega)) (by omega) (fun j x1 x2 => (f1.2.2.2.1 j (by omega)).2.trans (hz2 j (by omega) (by omega))) hM2 (fun σ2 r2 f2 q2 M3 hM3 => ?_) (fun z σ2 r2 x2 => hF2 z σ2 r2 ⟨x2.1, x2.2.1, x2.2.2.1.trans (by rw [f1.2.1]), x2.2.2.2⟩)
        refine hY2 σ2 r2 (f1.tr f2 (Nat.le_refl _) (by omega) (by omega) (Nat.le_refl _)) ?_ q2 M3 hM3
        exact CJS.fr (lo := i0) (hi := i0 + szS T a m1) (fun j x1 x2 => f2.2.2.2.1 j (by omega)) a m1 i0 hm1 q1 (Nat.le_refl _) (Nat.le_refl _)
      rcases hk with hk | hk
      · rw [hk] at go
        exact go M1 (by omega)
      · rw [hk.1] at go
        obtain ⟨M2, rfl⟩ : ∃ M2, M1 = M2 + 1 := ⟨M1 - 1, by omega⟩
        obtain ⟨n1, _⟩ := f1.ji hj
        obtain ⟨g1, _⟩ := f1.2.2.ag 0 (u + 1) (i0 + szS T a m1) (by omega) (by omega)
        exact c_w n1 (by omega) (lk_zero n1 (by omega) (K := 19) (g1.trans hk.2) (by omega) ⟨fun _ => go M2 (by omega), fun c => absurd rfl c⟩)
    by_cases m0 : m = 0
    · subst m0
      rw [WFS, if_pos rfl] at hwf
      rw [CB, if_pos rfl] at hcb
      rw [CW, if_pos rfl] at hcw
      have es : szS T (.branch p a b) 0 = szS T a 1 + szS T b 0 := by rw [szS, if_pos rfl]
      have ej : js T g (.branch p a b) 0 (decide (0 < hid)) = (match js T g a 1 (decide (0 < hid)) with | .error z => Except.error z | .ok _ => js T g b 0 (decide (0 < hid))) := by rw [js, if_pos rfl] <;> rfl
      rw [es] at hu hz hY
      rw [ej] at hY hF
      rw [show i0 + (szS T a 1 + szS T b 0) = i0 + szS T a 1 + 0 + szS T b 0 by omega] at hu hz hY
      refine two 1 0 (by omega) hwf.1 hwf.2 hcb.1 hcw.1 hu hcb.2 hcw.2 (Or.inl rfl) hz hF (fun σ' r f q1 q2 M' hM' => hY σ' r f ?_ M' hM')
      rw [CJS, if_pos rfl]
      exact ⟨q1, q2⟩
    · by_cases m1 : m = 1
      · subst m1
        rw [WFS, if_neg (by omega), if_pos rfl] at hwf
        rw [CB, if_neg (by omega), if_pos rfl] at hcb
        rw [CW, if_neg (by omega), if_pos rfl] at hcw
        rw [szS, if_neg (by omega), if_pos rfl] at hu hz hY
        rw [js, if_neg (by omega), if_pos rfl] at hY hF
        -- an EXPR that begins at node i
        have ex : ∀ (e1 : Tr) (i M1 : Nat) (σ1 : WSX1) (lo : Nat), WF T N e1 → JI T g L σ1 u hid → JN σ.1.2 σ1.1.2 i0 lo → σ1.2 = σ.2 → lo ≤ i → i0 ≤ i → CS T σ.1.2 e1 (i + sz T e1 - 1) → CV T σ.1.2 e1 (i + sz T e1 - 1) → i + sz T e1 ≤ u → (∀ j, i ≤ j → j < i + sz T e1 → σ.1.2.2.2.1 j = 0) → u - i < M1 →
            (∀ z σ', je T g (decide (0 < hid)) e1 = .error z → JX T L σ σ' z → post (nI z.1) σ') →
            (∀ s σ2, je T g (decide (0 < hid)) e1 = .ok s → JF σ1 σ2 i (i + sz T e1) → CJ T g σ2.1.2 e1 (i + sz T e1 - 1) → σ2.1.2.2.2.1 (i + sz T e1 - 1) = bi s → ∀ M2, u - (i + sz T e1) < M2 → wp_X1_firstWrong_12 post M2 σ2 (nI (i + sz T e1))) → wp_X1_firstWrong_12 post M1 σ1 (nI i) := by
          intro e1 i M1 σ1 lo we hj1 jn e2 hlo hi0 cs cv hu1 hz1 hM1 hF1 hY1
          have pe := sz_pos T e1
          exact c_je hv e1 i u hid M1 σ1 post we hj1 (CS.fr (jn.ag 0 (u + 1)) e1 _ cs (by omega) (by omega)) (CV.fr (lo := i) (hi := u) (fun j x1 x2 => (jn.2.1 j (by omega)).1) e1 _ cv (by omega) (by omega)) hu1 (fun j x1 x2 => (jn.2.1 j (by omega)).2.trans (hz1 j x1 x2)) hM1 hY1 (fun z σ2 r2 x2 => hF1 z σ2 r2 ⟨x2.1, x2.2.1, x2.2.2.1.trans (by rw [e2]), x2.2.2.2⟩)
        have hidw : ∀ c : Bool, decide (0 < hid) = c → (σ.1.1.2 ≤ 0 ↔ c = false) := by
          intro c hc
          rw [j4, ← hc]
          exact hid_le j5
        have err : ∀ (M1 : Nat) (j : Nat) (z : Nat × Nat) (σ' : WSX1), JX T L σ σ' z → post (nI z.1) σ' → ((nI z.1 = 0 → wp_X1_firstWrong_12 post M1 σ' (nI j)) ∧ (¬ nI z.1 = 0 → post (nI z.1) σ')) := by
          intro M1 j z σ' x w
          exact ⟨fun c => absurd c (nI_ne0 x.2.2.2.1 (by have := x.2.2.2.2; omega)), fun _ => w⟩
        -- the node PUT at i, its target at i0
        have put : ∀ (i M1 k : Nat) (s : Bool) (σ2 : WSX1), JI T g L σ2 u hid → σ2.2 = σ.2 → 0 < i → i < u → k < g.length → σ2.1.2.1.1.2 i = 16 → σ2.1.2.1.2.1 i = nI (PL T (p / 8)) → σ2.1.2.1.2.2.1 i = nI i0 → i0 < u → σ2.1.2.1.2.2.1 i0 = nI k → σ2.1.2.2.2.1 (i - 1) = bi s →
            ((s && !(dsec T (gx g k))) = true → ∀ σ', JX T L σ σ' (7, p / 8) → post (nI 7) σ') → (¬ (s && !(dsec T (gx g k))) = true → wp_X1_firstWrong_12 post M1 σ2 (nI (i + 1))) → wp_X1_firstWrong_12 post (M1 + 1) σ2 (nI i) := by
          intro i M1 k s σ2 hj2 e2 hi hiu hk k1 k2 k3 hi0 k4 k5 hF1 hY1
          obtain ⟨n1, n2, n3, n4, n5⟩ := id hj2
          refine c_w n1 hiu (lk_16 n1 hiu k1 ?_)
          rw [sub1 hi]
          have p228 : ¬ (s && !(dsec T (gx g k))) = true → wp_X1_look_228 (fun r τ4 => ((r = 0 → wp_X1_firstWrong_12 post M1 τ4 (nI (i + 1))) ∧ (¬ r = 0 → post r τ4))) σ2 (nI i) := fun q => ⟨fun _ => ⟨fun _ => hY1 q, fun c => absurd rfl c⟩, fun c => absurd rfl c⟩
          refine c_nsecret n1 (by omega) k5 ⟨fun c => p228 (by rw [eq0_f c, Bool.false_and]; decide), fun c => c_nvalue n1 hiu ?_⟩
          rw [k3]
          refine c_nvalue n1 hi0 ?_
          rw [k4]
          refine c_nsec n3 (by omega) hk ⟨fun c2 => p228 (by rw [ne0_t c2]; cases s <;> decide), fun c2 => ?_⟩
          refine c_wrongIf (b := true) n1 hiu (fun c3 => absurd c3 (by decide)) (fun _ => ⟨fun c => absurd c (by decide), fun _ => ?_⟩)
          exact hF1 (by rw [ne0_t c, eq0_f c2]; rfl) _ ⟨k2, ⟨u, n1⟩, by show σ2.2.2 = _; rw [e2], (by decide : 0 < 7), (by decide : 7 < 100)⟩
        -- a node at i that is wrong when the EXPR before it is secret
        have tel : ∀ (i M1 n t : Nat) (K : Int32) (s : Bool) (σ2 : WSX1), (∀ w : wp_X4_secret σ2.1.2 (nI i - 1) (fun r τ => wp_X1_wrongIf ((σ2.1.1, τ), σ2.2) r (nI n) (nI i) (fun r τ4 => ((r = 0 → wp_X1_firstWrong_12 post M1 τ4 (nI (i + 1))) ∧ (¬ r = 0 → post r τ4)))), wp_X1_look σ2 (nI i) (fun r τ4 => ((r = 0 → wp_X1_firstWrong_12 post M1 τ4 (nI (i + 1))) ∧ (¬ r = 0 → post r τ4)))) → 0 < n → n < 100 → JI T g L σ2 u hid → σ2.2 = σ.2 → 0 < i → i < u → σ2.1.2.1.2.1 i = nI (PL T t) → σ2.1.2.2.2.1 (i - 1) = bi s →
            (s = true → ∀ σ', JX T L σ σ' (n, t) → post (nI n) σ') → (¬ s = true → wp_X1_firstWrong_12 post M1 σ2 (nI (i + 1))) → wp_X1_firstWrong_12 post (M1 + 1) σ2 (nI i) := by
          intro i M1 n t K s σ2 lk hn hn2 hj2 e2 hi hiu k2 k5 hF1 hY1
          obtain ⟨n1, n2, n3, n4, n5⟩ := id hj2
          refine c_w n1 hiu (lk ?_)
          rw [sub1 hi]
          refine c_nsecret n1 (by omega) k5 (c_wrongIf n1 hiu (fun q => ⟨fun _ => hY1 (by rw [q]; decide), fun c => absurd rfl c⟩) (fun q => ⟨fun c => absurd c (nI_ne0 hn (by omega)), fun _ => ?_⟩))
          exact hF1 q _ ⟨k2, ⟨u, n1⟩, by show σ2.2.2 = _; rw [e2], hn, hn2⟩
        -- a node at i0 that is wrong within a secret if
        have wi : ∀ (M1 : Nat), (∀ w : ((σ.1.1.2 ≤ 0 → wp_X1_look_249 (fun r τ4 => ((r = 0 → wp_X1_firstWrong_12 post M1 τ4 (nI (i0 + 1))) ∧ (¬ r = 0 → post r τ4))) σ (nI i0) (0 : Int32)) ∧ (¬ σ.1.1.2 ≤ 0 → wp_X1_look_249 (fun r τ4 => ((r = 0 → wp_X1_firstWrong_12 post M1 τ4 (nI (i0 + 1))) ∧ (¬ r = 0 → post r τ4))) σ (nI i0) (1 : Int32))), wp_X1_look σ (nI i0) (fun r τ4 => ((r = 0 → wp_X1_firstWrong_12 post M1 τ4 (nI (i0 + 1))) ∧ (¬ r = 0 → post r τ4)))) → i0 < u → σ.1.2.1.2.1 i0 = nI (PL T (p / 8)) →
            (decide (0 < hid) = true → ∀ σ', JX T L σ σ' (8, p / 8) → post (nI 8) σ') → (¬ decide (0 < hid) = true → wp_X1_firstWrong_12 post M1 σ (nI (i0 + 1))) → wp_X1_firstWrong_12 post (M1 + 1) σ (nI i0) := by
          intro M1 lk hi0 k2 hF1 hY1
          refine c_w j1 hi0 (lk ⟨fun c => ⟨fun _ => ⟨fun _ => hY1 ?_, fun c => absurd rfl c⟩, fun c => absurd rfl c⟩, fun c => ?_⟩)
          · rw [(hidw _ rfl).mp c]
            decide
          · refine c_wrongIf (b := true) j1 hi0 (fun c3 => absurd c3 (by decide)) (fun _ => ⟨fun c => absurd c (by decide), fun _ => ?_⟩)
            refine hF1 ?_ _ ⟨k2, ⟨u, j1⟩, rfl, (by decide : 0 < 8), (by decide : 8 < 100)⟩
            cases z : decide (0 < hid) with
            | true => rfl
            | false => exact absurd ((hidw _ z).mpr rfl) c
        by_cases c0 : p % 8 = 0
        · rw [if_pos c0] at hwf hcb hcw hu hz hF
          rw [if_pos c0, if_pos c0] at hY
          obtain ⟨b1, b2, b3⟩ := hcb
          obtain ⟨M', rfl⟩ : ∃ M', M = M' + 1 := ⟨M - 1, by omega⟩
          refine c_w j1 (by omega) (lk_13 j1 (by omega) b1.1 ?_)
          refine c_target (r := false) hv hj (by omega) hwf.2.1 b1.1 b1.2 (fun k rk hk => ⟨fun _ => ?_, fun c => absurd rfl c⟩) (fun z σ' rz x => err M' (i0 + 1) z σ' x (hF z σ' (by rw [rz]) x))
          rw [rk] at hY hF
          dsimp only at hY hF
          have f0 : JF σ ((σ.1.1, ((σ.1.2.1.1, (σ.1.2.1.2.1, ((upd σ.1.2.1.2.2.1 i0 (nI k)), σ.1.2.1.2.2.2))), σ.1.2.2)), σ.2) i0 (i0 + 1) := ⟨rfl, rfl, JN.v σ.1.2 i0 (nI k) (by rw [b1.1]; decide)⟩
          have hj0 := f0.ji hj
          have v0 : (((σ.1.1, ((σ.1.2.1.1, (σ.1.2.1.2.1, ((upd σ.1.2.1.2.2.1 i0 (nI k)), σ.1.2.1.2.2.2))), σ.1.2.2)), σ.2) : WSX1).1.2.1.2.2.1 i0 = nI k := pk_us
          generalize (((σ.1.1, ((σ.1.2.1.1, (σ.1.2.1.2.1, ((upd σ.1.2.1.2.2.1 i0 (nI k)), σ.1.2.1.2.2.2))), σ.1.2.2)), σ.2) : WSX1) = σ0 at f0 hj0 v0 ⊢
          refine ex a (i0 + 1) M' σ0 (i0 + 1) hwf.2.2 hj0 f0.2.2 f0.2.1 (Nat.le_refl _) (by omega) (by rw [show i0 + 1 + sz T a - 1 = i0 + sz T a by omega]; exact b2) (by rw [show i0 + 1 + sz T a - 1 = i0 + sz T a by omega]; exact hcw) (by omega) (fun j x1 x2 => hz j (by omega) (by omega)) (by omega) (fun z σ' rz x => hF z σ' (by rw [rz]) x) (fun s σ2 rs f1 cj ss M2 hM2 => ?_)
          rw [rs] at hY hF
          dsimp only at hY hF
          have f01 : JF σ σ2 i0 (i0 + 1 + sz T a) := f0.tr f1 (Nat.le_refl _) (by omega) (by omega) (Nat.le_refl _)
          rw [show i0 + 1 + sz T a - 1 = i0 + sz T a by omega] at cj ss
          rw [show i0 + 1 + sz T a = i0 + sz T a + 1 by omega] at hM2 f01 ⊢
          obtain ⟨M3, rfl⟩ : ∃ M3, M2 = M3 + 1 := ⟨M2 - 1, by omega⟩
          obtain ⟨g1, g2, _⟩ := f01.2.2.ag 0 (u + 1) (i0 + sz T a + 1) (by omega) (by omega)
          have vk : σ2.1.2.1.2.2.1 i0 = nI k := (f1.2.2.2.1 i0 (by omega)).1.trans v0
          refine put (i0 + sz T a + 1) M3 k s σ2 (f1.ji hj0) f01.2.1 (by omega) (by omega) hk (g1.trans b3.1) (g2.trans b3.2.1) ((f01.2.2.2.1 _ (by omega)).1.trans b3.2.2) (by omega) vk (by rw [show i0 + sz T a + 1 - 1 = i0 + sz T a by omega]; exact ss) (fun q σ' x => hF (7, p / 8) σ' (by rw [if_pos q]) x) (fun q => ?_)
          have := hY σ2 (by rw [if_neg q]) (f01.tr (JF.rf σ2 i0 i0) (Nat.le_refl _) (Nat.le_refl _) (by omega) (by omega)) (by
            rw [CJS, if_neg (by omega), if_pos rfl, if_pos c0]
            exact ⟨⟨k, (jt_ok rk).1, vk⟩, cj⟩) M3 (by omega)
          rw [show i0 + (sz T a + 2) = i0 + sz T a + 1 + 1 by omega] at this
          exact this
        · rw [if_neg c0] at hwf hcb hcw hu hz hF
          rw [if_neg c0, if_neg c0] at hY
          by_cases c1 : p % 8 = 1
          · rw [if_pos c1] at hwf hcb hcw hu hz hF
            rw [if_pos c1, if_pos c1] at hY
            obtain ⟨b1, b2, b3, b4, b5⟩ := hcb
            obtain ⟨M', rfl⟩ : ∃ M', M = M' + 1 := ⟨M - 1, by omega⟩
            refine c_w j1 (by omega) (lk_14 j1 (by omega) b1.1 ?_)
            refine c_target (r := true) hv hj (by omega) hwf.2.1 b1.1 b1.2 (fun k rk hk => ⟨fun _ => ?_, fun c => absurd rfl c⟩) (fun z σ' rz x => err M' (i0 + 1) z σ' x (hF z σ' (by rw [rz]) x))
            rw [rk] at hY hF
            dsimp only at hY hF
            have f0 : JF σ ((σ.1.1, ((σ.1.2.1.1, (σ.1.2.1.2.1, ((upd σ.1.2.1.2.2.1 i0 (nI k)), σ.1.2.1.2.2.2))), σ.1.2.2)), σ.2) i0 (i0 + 1) := ⟨rfl, rfl, JN.v σ.1.2 i0 (nI k) (by rw [b1.1]; decide)⟩
            have hj0 := f0.ji hj
            have v0 : (((σ.1.1, ((σ.1.2.1.1, (σ.1.2.1.2.1, ((upd σ.1.2.1.2.2.1 i0 (nI k)), σ.1.2.1.2.2.2))), σ.1.2.2)), σ.2) : WSX1).1.2.1.2.2.1 i0 = nI k := pk_us
            generalize (((σ.1.1, ((σ.1.2.1.1, (σ.1.2.1.2.1, ((upd σ.1.2.1.2.2.1 i0 (nI k)), σ.1.2.1.2.2.2))), σ.1.2.2)), σ.2) : WSX1) = σ0 at f0 hj0 v0 ⊢
            refine ex a (i0 + 1) M' σ0 (i0 + 1) hwf.2.2.2.2.1 hj0 f0.2.2 f0.2.1 (Nat.le_refl _) (by omega) (by rw [show i0 + 1 + sz T a - 1 = i0 + sz T a by omega]; exact b2) (by rw [show i0 + 1 + sz T a - 1 = i0 + sz T a by omega]; exact hcw.1) (by omega) (fun j x1 x2 => hz j (by omega) (by omega)) (by omega) (fun z σ' rz x => hF z σ' (by rw [rz]) x) (fun s1 σ2 rs f1 cj ss M2 hM2 => ?_)
            rw [rs] at hY hF
            dsimp only at hY hF
            have f01 : JF σ σ2 i0 (i0 + 1 + sz T a) := f0.tr f1 (Nat.le_refl _) (by omega) (by omega) (Nat.le_refl _)
            rw [show i0 + 1 + sz T a - 1 = i0 + sz T a by omega] at cj ss
            rw [show i0 + 1 + sz T a = i0 + sz T a + 1 by omega] at hM2 f01 ⊢
            obtain ⟨M3, rfl⟩ : ∃ M3, M2 = M3 + 1 := ⟨M2 - 1, by omega⟩
            obtain ⟨g1, g2, _⟩ := f01.2.2.ag 0 (u + 1) (i0 + sz T a + 1) (by omega) (by omega)
            have hj2 := f1.ji hj0
            have vk : σ2.1.2.1.2.2.1 i0 = nI k := (f1.2.2.2.1 i0 (by omega)).1.trans v0
            refine tel (i0 + sz T a + 1) M3 4 (p / 8 + 1) 15 s1 σ2 (fun w => lk_15 hj2.1 (by omega) (g1.trans b3.1) w) (by decide) (by decide) hj2 f01.2.1 (by omega) (by omega) (g2.trans b3.2.1) (by rw [show i0 + sz T a + 1 - 1 = i0 + sz T a by omega]; exact ss) (fun q σ' x => hF (4, p / 8 + 1) σ' (by rw [if_pos q]) x) (fun q => ?_)
            rw [if_neg q] at hY hF
            refine ex b (i0 + sz T a + 1 + 1) M3 σ2 (i0 + sz T a + 1) hwf.2.2.2.2.2 hj2 f01.2.2 f01.2.1 (by omega) (by omega) (by rw [show i0 + sz T a + 1 + 1 + sz T b - 1 = i0 + sz T a + 1 + sz T b by omega]; exact b4) (by rw [show i0 + sz T a + 1 + 1 + sz T b - 1 = i0 + sz T a + 1 + sz T b by omega]; exact hcw.2) (by omega) (fun j x1 x2 => hz j (by omega) (by omega)) (by omega) (fun z σ' rz x => hF z σ' (by rw [rz]) x) (fun s σ3 rs2 f2 cj2 ss2 M4 hM4 => ?_)
            rw [rs2] at hY hF
            dsimp only at hY hF
            have f02 : JF σ σ3 i0 (i0 + sz T a + 1 + 1 + sz T b) := f01.tr f2 (Nat.le_refl _) (by omega) (by omega) (Nat.le_refl _)
            rw [show i0 + sz T a + 1 + 1 + sz T b - 1 = i0 + sz T a + 1 + sz T b by omega] at cj2 ss2
            rw [show i0 + sz T a + 1 + 1 + sz T b = i0 + sz T a + sz T b + 2 by omega] at hM4 f02 ⊢
            obtain ⟨M5, rfl⟩ : ∃ M5, M4 = M5 + 1 := ⟨M4 - 1, by omega⟩
            obtain ⟨h1, h2, _⟩ := f02.2.2.ag 0 (u + 1) (i0 + sz T a + sz T b + 2) (by omega) (by omega)
            have vk3 : σ3.1.2.1.2.2.1 i0 = nI k := (f2.2.2.2.1 i0 (by omega)).1.trans vk
            refine put (i0 + sz T a + sz T b + 2) M5 k s σ3 (f2.ji hj2) f02.2.1 (by omega) (by omega) hk (h1.trans b5.1) (h2.trans b5.2.1) ((f02.2.2.2.1 _ (by omega)).1.trans b5.2.2) (by omega) vk3 (by rw [show i0 + sz T a + sz T b + 2 - 1 = i0 + sz T a + 1 + sz T b by omega]; exact ss2) (fun q σ' x => hF (7, p / 8) σ' (by rw [if_pos q]) x) (fun q2 => ?_)
            have := hY σ3 (by rw [if_neg q2]) (f02.tr (JF.rf σ3 i0 i0) (Nat.le_refl _) (Nat.le_refl _) (by omega) (by omega)) (by
              rw [CJS, if_neg (by omega), if_pos rfl, if_neg c0, if_pos c1]
              exact ⟨⟨k, (jt_ok rk).1, vk3⟩, CJ.jf f2.2.2 cj (by omega) (by omega), cj2⟩) M5 (by omega)
            rw [show i0 + (sz T a + sz T b + 3) = i0 + sz T a + sz T b + 2 + 1 by omega] at this
            exact this
          · rw [if_neg c1] at hwf hcb hcw hu hz hF
            rw [if_neg c1, if_neg c1] at hY
            by_cases c2 : p % 8 = 2
            · rw [if_pos c2] at hwf hcb hcw hu hz hF
              rw [if_pos c2, if_pos c2] at hY
              obtain ⟨b1, b2, b3⟩ := hcb
              obtain ⟨M', rfl⟩ : ∃ M', M = M' + 1 := ⟨M - 1, by omega⟩
              refine wi M' (fun w => lk_25 j1 (by omega) b1.1 w) (by omega) b1.2 (fun q σ' x => hF (8, p / 8) σ' (by rw [if_pos q]) x) (fun q => ?_)
              rw [if_neg q] at hY hF
              refine ex a (i0 + 1) M' σ (i0 + 1) hwf.2.2 hj (JN.rf _ _ _) rfl (Nat.le_refl _) (by omega) (by rw [show i0 + 1 + sz T a - 1 = i0 + sz T a by omega]; exact b2) (by rw [show i0 + 1 + sz T a - 1 = i0 + sz T a by omega]; exact hcw) (by omega) (fun j x1 x2 => hz j (by omega) (by omega)) (by omega) (fun z σ' rz x => hF z σ' (by rw [rz]) x) (fun s σ2 rs f1 cj ss M2 hM2 => ?_)
              rw [rs] at hY hF
              dsimp only at hY hF
              rw [show i0 + 1 + sz T a - 1 = i0 + sz T a by omega] at cj ss
              rw [show i0 + 1 + sz T a = i0 + sz T a + 1 by omega] at hM2 f1 ⊢
              obtain ⟨M3, rfl⟩ : ∃ M3, M2 = M3 + 1 := ⟨M2 - 1, by omega⟩
              obtain ⟨g1, g2, _⟩ := f1.2.2.ag 0 (u + 1) (i0 + sz T a + 1) (by omega) (by omega)
              have hj2 := f1.ji hj
              refine tel (i0 + sz T a + 1) M3 7 (p / 8) 26 s σ2 (fun w => lk_26 hj2.1 (by omega) (g1.trans b3.1) w) (by decide) (by decide) hj2 f1.2.1 (by omega) (by omega) (g2.trans b3.2) (by rw [show i0 + sz T a + 1 - 1 = i0 + sz T a by omega]; exact ss) (fun q σ' x => hF (7, p / 8) σ' (by rw [if_pos q]) x) (fun q2 => ?_)
              have := hY σ2 (by rw [if_neg q2]) (f1.tr (JF.rf σ2 i0 i0) (by omega) (Nat.le_refl _) (by omega) (by omega)) (by
                rw [CJS, if_neg (by omega), if_pos rfl, if_neg c0, if_neg c1, if_pos c2]
                exact cj) M3 (by omega)
              rw [show i0 + (sz T a + 2) = i0 + sz T a + 1 + 1 by omega] at this
              exact this
            · rw [if_neg c2] at hwf hcb hcw hu hz hF
              rw [if_neg c2, if_neg c2] at hY
              by_cases c3 : p % 8 = 3
              · rw [if_pos c3] at hwf hcb hcw hu hz hF
                rw [if_pos c3, if_pos c3] at hY
                obtain ⟨b1, b2, b3, b4, b5, b6⟩ := hcb
                obtain ⟨M', rfl⟩ : ∃ M', M = M' + 1 + 1 := ⟨M - 2, by omega⟩
                refine wi (M' + 1) (fun w => lk_21 j1 (by omega) b1.1 w) (by omega) b1.2 (fun q σ' x => hF (8, p / 8) σ' (by rw [if_pos q]) x) (fun q => ?_)
                rw [if_neg q] at hY hF
                refine c_w j1 (by omega) (lk_zero j1 (by omega) (K := 22) b2.1 (by omega) ⟨fun _ => ?_, fun c => absurd rfl c⟩)
                refine ex a (i0 + 1 + 1) M' σ (i0 + 1) hwf.2.2.1 hj (JN.rf _ _ _) rfl (by omega) (by omega) (by rw [show i0 + 1 + 1 + sz T a - 1 = i0 + 1 + sz T a by omega]; exact b3) (by rw [show i0 + 1 + 1 + sz T a - 1 = i0 + 1 + sz T a by omega]; exact hcw.1) (by omega) (fun j x1 x2 => hz j (by omega) (by omega)) (by omega) (fun z σ' rz x => hF z σ' (by rw [rz]) x) (fun s σ2 rs f1 cj ss M2 hM2 => ?_)
                rw [rs] at hY hF
                dsimp only at hY hF
                rw [show i0 + 1 + 1 + sz T a - 1 = i0 + 1 + sz T a by omega] at cj ss
                rw [show i0 + 1 + 1 + sz T a = i0 + sz T a + 2 by omega] at hM2 f1 ⊢
                obtain ⟨M3, rfl⟩ : ∃ M3, M2 = M3 + 1 := ⟨M2 - 1, by omega⟩
                obtain ⟨g1, g2, _⟩ := f1.2.2.ag 0 (u + 1) (i0 + sz T a + 2) (by omega) (by omega)
                have hj2 := f1.ji hj
                refine tel (i0 + sz T a + 2) M3 6 (p / 8) 23 s σ2 (fun w => lk_23 hj2.1 (by omega) (g1.trans b4.1) w) (by decide) (by decide) hj2 f1.2.1 (by omega) (by omega) (g2.trans b4.2.1) (by rw [show i0 + sz T a + 2 - 1 = i0 + 1 + sz T a by omega]; exact ss) (fun q σ' x => hF (6, p / 8) σ' (by rw [if_pos q]) x) (fun q2 => ?_)
                rw [if_neg q2] at hY hF
                refine ihb 0 (i0 + sz T a + 2 + 1) u hid M3 σ2 post (by omega) hwf.2.2.2 hj2 (by omega) hu3 (CB.fr (lo := i0 + sz T a + 2) (hi := u) (f1.2.2.ag _ _) (fun j x1 x2 => (f1.2.2.2.1 j (by omega)).1) b 0 _ (by omega) b5 (by rw [if_neg (by omega)]; omega) (by omega)) (CW.fr (lo := i0 + sz T a + 2) (hi := u) (fun j x1 x2 => (f1.2.2.2.1 j (by omega)).1) b 0 _ (by omega) hcw.2 (by omega) (by omega)) (by omega) (fun j x1 x2 => (f1.2.2.2.1 j (by omega)).2.trans (hz j (by omega) (by omega))) (by omega) (fun σ3 r3 f3 cj3 M4 hM4 => ?_) (fun z σ3 r3 x3 => hF z σ3 r3 ⟨x3.1, x3.2.1, x3.2.2.1.trans (by rw [f1.2.1]), x3.2.2.2⟩)
                have f03 : JF σ σ3 i0 (i0 + sz T a + 3 + szS T b 0) := f1.tr f3 (by omega) (by omega) (by omega) (by omega)
                rw [show i0 + sz T a + 2 + 1 = i0 + sz T a + 3 by omega] at cj3 hM4 ⊢
                obtain ⟨M5, rfl⟩ : ∃ M5, M4 = M5 + 1 := ⟨M4 - 1, by omega⟩
                obtain ⟨h1, h2, _⟩ := f03.2.2.ag 0 (u + 1) (i0 + sz T a + 3 + szS T b 0) (by omega) (by omega)
                have n1 := (f3.ji hj2).1
                refine c_w n1 (by omega) (lk_zero n1 (by omega) (K := 24) (h1.trans b6.1) (by omega) ⟨fun _ => ?_, fun c => absurd rfl c⟩)
                have := hY σ3 r3 (f03.tr (JF.rf σ3 i0 i0) (Nat.le_refl _) (Nat.le_refl _) (by omega) (by omega)) (by
                  rw [CJS, if_neg (by omega), if_pos rfl, if_neg c0, if_neg c1, if_neg c2, if_pos c3]
                  exact ⟨CJ.jf f3.2.2 cj (by omega) (by omega), cj3⟩) M5 (by omega)
                rw [show i0 + (sz T a + szS T b 0 + 4) = i0 + sz T a + 3 + szS T b 0 + 1 by omega] at this
                exact this
              · rw [if_neg c3] at hwf hcb hcw hu hz hF
                rw [if_neg c3, if_neg c3] at hY
                -- an if, with one BLOCK or two
                have ifc : ∀ mb, mb ≤ 2 → WF T N a → WFS T N b mb → nk σ.1.2 i0 17 (PL T (p / 8)) → CS T σ.1.2 a (i0 + sz T a) → σ.1.2.1.1.2 (i0 + sz T a + 1) = 18 → CB T σ.1.2 b mb (i0 + sz T a + 2) → σ.1.2.1.1.2 (i0 + sz T a + 2 + szS T b mb) = 20 → σ.1.2.1.2.2.1 (i0 + sz T a + 2 + szS T b mb) = nI (i0 + sz T a + 1) → CV T σ.1.2 a (i0 + sz T a) → CW T σ.1.2 b mb (i0 + sz T a + 2) → i0 + (sz T a + szS T b mb + 3) ≤ u → (∀ j, i0 ≤ j → j < i0 + (sz T a + szS T b mb + 3) → σ.1.2.2.2.1 j = 0) →
                    (∀ z σ', (match je T g (decide (0 < hid)) a with | .error z => Except.error z | .ok s => js T g b mb (decide (0 < hid) || s)) = .error z → JX T L σ σ' z → post (nI z.1) σ') →
                    (∀ σ', (match je T g (decide (0 < hid)) a with | .error z => Except.error z | .ok s => js T g b mb (decide (0 < hid) || s)) = .ok () → JF σ σ' i0 (i0 + (sz T a + szS T b mb + 3)) → CJ T g σ'.1.2 a (i0 + sz T a) → σ'.1.2.2.2.1 (i0 + sz T a + 1) = bi (esc T g a) → CJS T g σ'.1.2 b mb (i0 + sz T a + 2) → ∀ M', u - (i0 + (sz T a + szS T b mb + 3)) < M' → wp_X1_firstWrong_12 post M' σ' (nI (i0 + (sz T a + szS T b mb + 3)))) → wp_X1_firstWrong_12 post M σ (nI i0) := by
                  intro mb hmb wa wb b1 b2 b3 b4 b5 b6 va vb hu hz hF hY
                  obtain ⟨M', rfl⟩ : ∃ M', M = M' + 1 := ⟨M - 1, by omega⟩
                  refine c_w j1 (by omega) (lk_zero j1 (by omega) (K := 17) b1.1 (by omega) ⟨fun _ => ?_, fun c => absurd rfl c⟩)
                  refine ex a (i0 + 1) M' σ (i0 + 1) wa hj (JN.rf _ _ _) rfl (Nat.le_refl _) (by omega) (by rw [show i0 + 1 + sz T a - 1 = i0 + sz T a by omega]; exact b2) (by rw [show i0 + 1 + sz T a - 1 = i0 + sz T a by omega]; exact va) (by omega) (fun j x1 x2 => hz j (by omega) (by omega)) (by omega) (fun z σ' rz x => hF z σ' (by rw [rz]) x) (fun s σ2 rs f1 cj ss M2 hM2 => ?_)
                  rw [rs] at hY hF
                  dsimp only at hY hF
                  have es := je_esc a s rs
                  rw [show i0 + 1 + sz T a - 1 = i0 + sz T a by omega] at cj ss
                  rw [show i0 + 1 + sz T a = i0 + sz T a + 1 by omega] at hM2 f1 ⊢
                  obtain ⟨M3, rfl⟩ : ∃ M3, M2 = M3 + 1 := ⟨M2 - 1, by omega⟩
                  obtain ⟨g1, g2, _⟩ := f1.2.2.ag 0 (u + 1) (i0 + sz T a + 1) (by omega) (by omega)
                  obtain ⟨n1, n2, n3, n4, n5⟩ := f1.ji hj
                  have hd : decide (0 < hid + (if s = true then 1 else 0)) = (decide (0 < hid) || s) := by
                    cases s with
                    | true => rw [if_pos rfl, Bool.or_true]; exact decide_eq_true (by omega)
                    | false => rw [if_neg (by decide), Bool.or_false, Nat.add_zero]
                  refine c_w n1 (by omega) (lk_18 n1 (by omega) (g1.trans b3) ?_)
                  rw [sub1 (by omega), show i0 + sz T a + 1 - 1 = i0 + sz T a by omega]
                  refine c_nsecret n1 (by omega) ss (c_keepSecret n1 (by omega) ?_)
                  have nw3 : NW0 (σ2.1.2.1, (σ2.1.2.2.1, ((upd σ2.1.2.2.2.1 (i0 + sz T a + 1) (bi s)), σ2.1.2.2.2.2))) u L := (JN.s σ2.1.2 _ (bi s)).nw n1
                  refine c_nsecret nw3 (by omega) (b := s) pk_us ?_
                  -- the BLOCKs
                  have go : wp_X1_firstWrong_12 post M3 (((σ2.1.1.1, nI (hid + (if s = true then 1 else 0))), (σ2.1.2.1, (σ2.1.2.2.1, ((upd σ2.1.2.2.2.1 (i0 + sz T a + 1) (bi s)), σ2.1.2.2.2.2)))), σ2.2) (nI (i0 + sz T a + 1 + 1)) := by
                    have jn3 : JN σ.1.2 (σ2.1.2.1, (σ2.1.2.2.1, ((upd σ2.1.2.2.2.1 (i0 + sz T a + 1) (bi s)), σ2.1.2.2.2.2))) i0 (i0 + sz T a + 2) := f1.2.2.tr (JN.s σ2.1.2 (i0 + sz T a + 1) (bi s)) (by omega) (by omega) (by omega) (by omega)
                    have hj3 : JI T g L (((σ2.1.1.1, nI (hid + (if s = true then 1 else 0))), (σ2.1.2.1, (σ2.1.2.2.1, ((upd σ2.1.2.2.2.1 (i0 + sz T a + 1) (bi s)), σ2.1.2.2.2.2)))), σ2.2) u (hid + (if s = true then 1 else 0)) := ⟨nw3, n2, n3, rfl, by split <;> omega⟩
                    refine ihb mb (i0 + sz T a + 1 + 1) u (hid + (if s = true then 1 else 0)) M3 _ post hmb wb hj3 (by split <;> omega) hu3 (CB.fr (lo := i0 + sz T a + 1) (hi := u) (jn3.ag _ _) ?_ b mb _ hmb b4 (by split <;> omega) (by omega)) (CW.fr (lo := i0 + sz T a + 2) (hi := u) (fun j x1 x2 => (jn3.2.1 j (by omega)).1) b mb _ hmb vb (by omega) (by omega)) (by omega) (fun j x1 x2 => (jn3.2.1 j (by omega)).2.trans (hz j (by omega) (by omega))) (by omega) (fun σ3 r3 f3 cj3 M4 hM4 => ?_) (fun z σ3 r3 x3 => hF z σ3 (by rw [← hd]; exact r3) ⟨x3.1, x3.2.1, x3.2.2.1.trans (by show σ2.2.2 = _; rw [f1.2.1]), x3.2.2.2⟩)
                    · intro j x1 x2
                      by_cases q : j = i0 + sz T a + 1
                      · show σ2.1.2.1.2.2.1 j = _
                        exact (f1.2.2.2.1 j (by omega)).1
                      · exact (jn3.2.1 j (by omega)).1
                    · rw [show i0 + sz T a + 1 + 1 = i0 + sz T a + 2 by omega] at f3 cj3 hM4 ⊢
                      obtain ⟨M5, rfl⟩ : ∃ M5, M4 = M5 + 1 := ⟨M4 - 1, by omega⟩
                      have jn4 : JN σ.1.2 σ3.1.2 i0 (i0 + sz T a + 2 + szS T b mb) := jn3.tr f3.2.2 (Nat.le_refl _) (by omega) (by omega) (Nat.le_refl _)
                      obtain ⟨h1, h2, _⟩ := jn4.ag 0 (u + 1) (i0 + sz T a + 2 + szS T b mb) (by omega) (by omega)
                      have m1 := f3.2.2.nw nw3
                      have s3 : σ3.1.2.2.2.1 (i0 + sz T a + 1) = bi s := (f3.2.2.2.1 _ (by omega)).2.trans pk_us
                      have hid3 : σ3.1.1.2 = nI (hid + (if s = true then 1 else 0)) := by rw [f3.1]
                      have wh3 : σ3.1.1.1 = σ.1.1.1 := by rw [f3.1]; show σ2.1.1.1 = _; rw [f1.1]
                      have e32 : σ3.2 = σ.2 := f3.2.1.trans f1.2.1
                      refine c_w m1 (by omega) (lk_20 m1 (by omega) (h1.trans b5) ?_)
                      refine c_nvalue m1 (by omega) ?_
                      rw [(jn4.2.1 _ (by omega)).1, b6]
                      have fin : ∀ y : Int32, y = nI hid → wp_X1_firstWrong_12 post M5 (((σ3.1.1.1, y), σ3.1.2), σ3.2) (nI (i0 + sz T a + 2 + szS T b mb + 1)) := by
                        intro y hy
                        rw [hy]
                        have fJ : JF σ (((σ3.1.1.1, nI hid), σ3.1.2), σ3.2) i0 (i0 + (sz T a + szS T b mb + 3)) := ⟨Prod.ext wh3 j4.symm, e32, jn4.tr (JN.rf _ i0 i0) (Nat.le_refl _) (Nat.le_refl _) (by omega) (by omega)⟩
                        have cja : CJ T g σ3.1.2 a (i0 + sz T a) := CJ.jf (lo := i0 + sz T a + 1) (hi := i0 + sz T a + 2 + szS T b mb) ((JN.s σ2.1.2 (i0 + sz T a + 1) (bi s)).tr f3.2.2 (by omega) (by omega) (by omega) (by omega)) cj (by omega) (by omega)
                        have := hY (((σ3.1.1.1, nI hid), σ3.1.2), σ3.2) (by rw [← hd]; exact r3) fJ cja (by rw [← es]; exact s3) cj3 M5 (by omega)
                        rw [show i0 + (sz T a + szS T b mb + 3) = i0 + sz T a + 2 + szS T b mb + 1 by omega] at this
                        exact this
                      refine c_nsecret m1 (by omega) s3 ⟨fun c y ey => ⟨fun _ => fin y ?_, fun c => absurd rfl c⟩, fun c y ey => ⟨fun _ => fin y ?_, fun c => absurd rfl c⟩⟩
                      · have hid3' : σ3.1.1.2 = nI (hid + (if s = true then 1 else 0)) := hid3
                        rw [ey]
                        show σ3.1.1.2 - 0 = _
                        rw [hid3', eq0_f c, if_neg (by decide)]
                        exact pk_sub (b := 0) (Nat.zero_le _)
                      · have hid3' : σ3.1.1.2 = nI (hid + (if s = true then 1 else 0)) := hid3
                        rw [ey]
                        show σ3.1.1.2 - 1 = _
                        rw [hid3', ne0_t c, if_pos rfl]
                        exact nI_pred hid
                  refine ⟨fun c y ey => ⟨fun _ => ?_, fun c => absurd rfl c⟩, fun c y ey => ⟨fun _ => ?_, fun c => absurd rfl c⟩⟩
                  · have : y = nI (hid + (if s = true then 1 else 0)) := by
                      rw [ey, eq0_f c, if_neg (by decide)]
                      show σ2.1.1.2 + nI 0 = _
                      rw [n4, nI_add]
                    rw [this]
                    exact go
                  · have : y = nI (hid + (if s = true then 1 else 0)) := by
                      rw [ey, ne0_t c, if_pos rfl]
                      show σ2.1.1.2 + nI 1 = _
                      rw [n4, nI_add]
                    rw [this]
                    exact go
                by_cases c4 : p % 8 = 4
                · rw [if_pos c4] at hwf hcb hcw hu hz hF
                  rw [if_pos c4, if_pos c4] at hY
                  obtain ⟨b1, b2, b3, b4, b5⟩ := hcb
                  refine ifc 0 (by omega) hwf.2.2.1 hwf.2.2.2 b1 b2 b3.1 b4 b5.1 b5.2.2 hcw.1 hcw.2 hu hz hF (fun σ' r f cj s cjs M' hM' => hY σ' r f ?_ M' hM')
                  rw [CJS, if_neg (by omega), if_pos rfl, if_neg c0, if_neg c1, if_neg c2, if_neg c3, if_pos c4]
                  exact ⟨cj, s, cjs⟩
                · rw [if_neg c4] at hwf hcb hcw hu hz hF
                  rw [if_neg c4, if_neg c4] at hY
                  obtain ⟨b1, b2, b3, b4, b5⟩ := hcb
                  refine ifc 2 (by omega) hwf.2.2.2.1 hwf.2.2.2.2 b1 b2 b3.1 b4 b5.1 b5.2.2 hcw.1 hcw.2 hu hz hF (fun σ' r f cj s cjs M' hM' => hY σ' r f ?_ M' hM')
                  rw [CJS, if_neg (by omega), if_pos rfl, if_neg c0, if_neg c1, if_neg c2, if_neg c3, if_neg c4]
                  exact ⟨cj, s, cjs⟩
      · have m2 : m = 2 := by omega
        subst m2
        rw [WFS, if_neg (by omega), if_neg (by omega)] at hwf
        rw [CB, if_neg (by omega), if_neg (by omega)] at hcb
        rw [CW, if_neg (by omega), if_neg (by omega)] at hcw
        have es : szS T (.branch p a b) 2 = szS T a 0 + szS T b 0 + 1 := by rw [szS, if_neg (by omega), if_neg (by omega)]
        have ej : js T g (.branch p a b) 2 (decide (0 < hid)) = (match js T g a 0 (decide (0 < hid)) with | .error z => Except.error z | .ok _ => js T g b 0 (decide (0 < hid))) := by rw [js, if_neg (by omega), if_neg (by omega)] <;> rfl
        rw [es] at hu hz hY
        rw [ej] at hY hF
        rw [show i0 + (szS T a 0 + szS T b 0 + 1) = i0 + szS T a 0 + 1 + szS T b 0 by omega] at hu hz hY
        refine two 0 1 (by omega) hwf.1 hwf.2 hcb.2.1 hcw.1 hu hcb.2.2.2.2.2 hcw.2 (Or.inr ⟨rfl, hcb.2.2.1⟩) hz hF (fun σ' r f q1 q2 M' hM' => hY σ' r f ?_ M' hM')
        rw [CJS, if_neg (by omega), if_neg (by omega)]
        exact ⟨q1, q2⟩
end Cjs2
