section Mone
theorem m_evx {T : TX} {N : Nat} {g : List DD} (hv : GV T N g) (hN : N ≤ 3001) {e : Tr} {lo hi i most : Nat} {τ : SX12} {S : SR} {post : Int32 → SX12 → Prop} (hc : hc e ≤ 164) (hm : ME T τ e lo hi i) (hmj : MJ T g τ e i) (hw : WF T N e) (hh : hi ≤ 9000) (hj : MJI T N g τ) (hr : RU T most τ S) (hs : ¬ τ.2.2.1.1.2.1 = 0)
    (hY : ∀ v τ', QR τ τ' → RU T most τ' S → ¬ τ'.2.2.1.1.2.1 = 0 → post v τ') : ∃ n, n ≤ 400 ∧ wg_ev n 0 τ [nI i] post := by
  refine ⟨164, by omega, m_ev hv hN e 164 lo hi i τ post hc hm hmj hw hh hj (fun v τ' r1 r2 => ?_)⟩
  obtain ⟨a1, a2, a3, a4, a5, a6, a7, a8⟩ := id hr
  have q := r1.qr
  obtain ⟨z1, z2⟩ := r2.1 hs
  obtain ⟨o, en, ep, rfl, _⟩ := r1
  have z1 : en = τ.2.2.1.1.2.1 := z1
  have z2 : ep = τ.2.2.1.1.2.2 := z2
  subst z1
  subst z2
  refine hY v _ q ⟨a1, a2, a3, a4, a5, a6, a7, ?_⟩ hs
  cases hsn : S.2.2.2 with
  | none => rw [hsn] at a8; exact a8
  | some z => rw [hsn] at a8; exact a8
/-- stopping -/
theorem m_stop {T : TX} {N : Nat} {τ : SX12} {S : SR} {c t most : Nat} {post : SX12 → Prop} (hL : LM τ T N) (hN : N ≤ 3001) (ht : t < N) (hr : RU T most τ S) (hs : S.2.2.2 = none) (hc : 0 < c ∧ c < 4) {cc : Int32} (hcc : cc = nI c)
    (h : ∀ τ', QR τ τ' → RU T most τ' (failS S c t) → ¬ τ'.2.2.1.1.2.1 = 0 → post τ') : wp_X12_stop τ cc (nI t) post := by
  have e0 := hr.none.mpr hs
  obtain ⟨a1, a2, a3, a4, a5, a6, a7, a8⟩ := id hr
  refine ⟨fun z => absurd e0 z, fun _ => ⟨in_k (by omega) (by omega), fun y ey => ?_⟩⟩
  have hpl : τ.1.1.1.2.2.1 t = nI (PL T t) := (hL t ht).2.1
  rw [nI_clamp (by omega), hpl] at ey
  rw [ey, hcc]
  refine h _ ⟨τ.2.1.2.1.2.2, τ.2.1.2.2.1, τ.2.1.2.2.2.1, τ.2.1.2.2.2.2, nI c, nI (PL T t), τ.2.2.1.2.2.1, rfl⟩ ⟨a1, a2, a3, a4, a5, a6, a7, rfl, hc, rfl⟩ ?_
  show ¬ nI c = 0
  intro z
  have := (nI_eq (b := 0) (by omega) (by omega)).mp z
  omega
theorem run_block {T : TX} {N : Nat} {g : List DD} {most n : Nat} (ih : SRUN T N g most n) {b : Tr} {k lo hi t t' bh z : Nat} {w : Bool} {ww : Int32} {τ : SX12} {S : SR} {po : Int32 → SX12 → Prop} (hn : tsz b < n) (hwf : WFS T N b 0) (hjs : js T g b 0 w = .ok ()) (hxs : XS T b 0 t t' bh) (hk : 2 * bh + 2 ≤ k) (hms : MS T τ b 0 lo hi (τ.1.1.2.2.2.2 z)) (hmj : MJS T g τ b 0 (τ.1.1.2.2.2.2 z)) (hh : hi ≤ 9000) (hz : z < 9000) (hj : MJI T N g τ) (hr : RU T most τ S) (hw : ww = bi w)
    (hp : ∀ τ', QR τ τ' → RU T most τ' (rs T g b 0 w S) → po 0 τ') : wg_ra k 0 τ [nI z, ww] po := by
  obtain ⟨k', rfl⟩ : ∃ k', k = k' + 1 := ⟨k - 1, by omega⟩
  rw [hw]
  show wp_X12_runAll (wg_ra k') τ (nI z) (bi w) (po 0)
  refine ⟨in_k hz (by omega), fun y ey => ⟨bl b + 1, ?_⟩⟩
  rw [nI_clamp (by omega)] at ey
  have ey : y = τ.1.1.2.2.2.2 z := ey
  rw [ey]
  exact ih b k' lo hi t t' bh (bl b + 1) w _ τ S (po 0) hn hwf hjs hxs (by omega) hms hmj hh hj hr (by omega) hp
theorem m_step0 {τ : SX12} {w x : Int32} {post : Int32 → SX12 → Prop} (h : ¬ τ.2.2.1.1.2.1 = 0) (hp : post 0 τ) : wp_X12_step τ w x post := ⟨fun c => absurd c h, fun _ => hp⟩
theorem RU.val {T : TX} {most : Nat} {τ : SX12} {S : SR} (hr : RU T most τ S) {y : Nat → Int32} {j : Nat} {v : Int32} (hy : y = upd τ.2.1.2.1.2.2 j v) : RU T most (τ.1, ((τ.2.1.1, ((τ.2.1.2.1.1, (τ.2.1.2.1.2.1, y)), τ.2.1.2.2)), τ.2.2)) (upd S.1 j v, S.2) := by
  obtain ⟨a1, a2, a3, a4, a5, a6, a7, a8⟩ := hr
  refine ⟨?_, a2, a3, a4, a5, a6, a7, ?_⟩
  · show y = upd S.1 j v
    rw [hy, a1]
  · show endR T _ S.2.2.2
    cases hs : S.2.2.2 with
    | none => rw [hs] at a8; exact a8
    | some z => rw [hs] at a8; exact a8
theorem QR.val {τ : SX12} (y : Nat → Int32) : QR τ (τ.1, ((τ.2.1.1, ((τ.2.1.2.1.1, (τ.2.1.2.1.2.1, y)), τ.2.1.2.2)), τ.2.2)) := ⟨y, τ.2.1.2.2.1, τ.2.1.2.2.2.1, τ.2.1.2.2.2.2, τ.2.2.1.1.2.1, τ.2.2.1.1.2.2, τ.2.2.1.2.2.1, rfl⟩
/-- the loop of a while -/
theorem run_while {T : TX} {N : Nat} {g : List DD} (hv : GV T N g) (hN : N ≤ 3001) {most n : Nat} (hmost : most ≤ 2000) (ih : SRUN T N g most n) {x b : Tr} {k i lo hi la ha y lb hb z t t' tp bh : Nat} {τ : SX12} {po : SX12 → Prop} (hn : tsz b < n) (hi9 : i < 9000) (hat : τ.1.1.2.2.2.1 i = nI tp) (htp : tp < N) (hwx : WF T N x) (hwf : WFS T N b 0) (hjs : js T g b 0 false = .ok ()) (hcx : hc x ≤ 164) (hxs : XS T b 0 t t' bh) (hk : 2 * bh + 2 ≤ k) (hme : ME T τ x la ha y) (hha : ha ≤ 9000) (hmj : MJ T g τ x y) (hy9 : y < 9000) (hny : τ.1.2.1.1.1 y = nI z) (hz9 : z < 9000) (hms : MS T τ b 0 lb hb (τ.1.1.2.2.2.2 z)) (hhb : hb ≤ 9000) (hmjb : MJS T g τ b 0 (τ.1.1.2.2.2.2 z)) (hj : MJI T N g τ) :
    ∀ (M : Nat) (S : SR) (τ1 : SX12), QR τ τ1 → RU T most τ1 S → S.2.1 < M → (∀ τ', QR τ τ' → RU T most τ' (wloop T g false tp x (rs T g b 0 false) M S) → po τ') → wp_X12_runOne_255 (wg_ra k) po M τ1 (nI i) (bi false) (nI y) := by
  intro M
  induction M with
  | zero => intro S τ1 _ _ h; omega
  | succ M ihM =>
    intro S τ1 q1 r1 hM hp
    show wb_X12_runOne_255 (wg_ra k) po (fun a => wp_X12_runOne_255 (wg_ra k) po M a.1 a.2.1 a.2.2.1 a.2.2.2) τ1 (nI i) (bi false) (nI y)
    refine ⟨in_k hi9 (by omega), ?_⟩
    have eat : τ1.1.1.2.2.2.1 i = nI tp := by rw [q1.sh.1]; exact hat
    rw [nI_clamp (by omega), eat]
    by_cases e0 : τ1.2.2.1.1.2.1 = 0
    · have hs := r1.none.mp e0
      rw [wloop, hs] at hp
      dsimp only at hp
      refine m_step (S := S) (q1.mji hj).2.1 hN htp r1 hmost hs (fun τ2 q2 r2 e2 => ⟨fun c => absurd c (by decide), fun _ => ?_⟩) (fun τ2 q2 r2 e2 => ⟨fun _ => ?_, fun c => absurd rfl c⟩)
      · rw [e2] at hp
        dsimp only at hp
        have q12 := q1.tr q2
        have hst : (stepS false tp S).2.1 = S.2.1 - 1 ∧ ¬ S.2.1 = 0 := by
          unfold stepS at e2 ⊢
          rw [if_neg (by decide)] at e2 ⊢
          by_cases c : S.2.1 = 0
          · rw [if_pos c] at e2
            cases e2
          · rw [if_neg c]
            exact ⟨rfl, c⟩
        refine m_evr hv hN hcx (q12.me hme) (q12.mj hha hme hmj) hwx hha (q12.mji hj) r2 e2 (fun v t3 τ3 he q3 r3 z3 => ?_) (fun v τ3 he q3 r3 z3 => ?_)
        · rw [he] at hp
          have done := hp τ3 (q12.tr q3) r3
          exact ⟨fun _ => done, fun _ => ⟨fun _ => done, fun c => absurd c z3⟩⟩
        · rw [he] at hp
          dsimp only at hp
          refine ⟨fun c => ?_, fun c => ⟨fun c2 => absurd z3 c2, fun _ => ⟨in_k hy9 (by omega), ?_⟩⟩⟩
          · rw [if_pos c] at hp
            exact hp τ3 (q12.tr q3) r3
          · rw [if_neg c] at hp
            have q13 := q12.tr q3
            have eny : τ3.1.2.1.1.1 y = nI z := by rw [q13.sh.1]; exact hny
            have efz : τ3.1.1.2.2.2.2 z = τ.1.1.2.2.2.2 z := by
              show τ3.1.1.2.2.2.2 z = _
              rw [q13.sh.1]
            rw [nI_clamp (by omega), eny]
            refine run_block ih (w := false) hn hwf hjs hxs hk (by rw [efz]; exact q13.ms hhb hms) (by rw [efz]; exact q13.mjs hhb hms hmjb) hhb hz9 (q13.mji hj) r3 rfl (fun τ4 q4 r4 => ?_)
            have := rs_st (T := T) (g := g) b 0 false (stepS false tp S)
            exact ihM _ τ4 (q13.tr q4) r4 (by omega) hp
      · have hz : ∃ z, (stepS false tp S).2.2.2 = some z := by
          cases h : (stepS false tp S).2.2.2 with
          | none => exact absurd h e2
          | some z => exact ⟨z, rfl⟩
        obtain ⟨z, hz⟩ := hz
        rw [hz] at hp
        exact hp τ2 (q1.tr q2) r2
    · have hs : ¬ S.2.2.2 = none := fun z => e0 (r1.none.mpr z)
      obtain ⟨z, hz⟩ : ∃ z, S.2.2.2 = some z := by
        cases h : S.2.2.2 with
        | none => exact absurd h hs
        | some z => exact ⟨z, rfl⟩
      rw [wloop, hz] at hp
      exact m_step0 e0 ⟨fun _ => hp τ1 q1 r1, fun c => absurd rfl c⟩
/-- an if, from its outcome -/
theorem run_if {k i y z : Nat} {w s : Bool} {s2 v : Int32} {τ : SX12} {po : SX12 → Prop} (hi9 : i < 9000) (hy9 : y < 9000) (hz9 : z < 9000) (hny : τ.1.2.1.1.1 y = nI z) (hnz : τ.1.2.1.1.1 z = s2) (hsc : τ.1.2.1.1.2.1 i = bi s)
    (h0 : ¬ τ.2.2.1.1.2.1 = 0 → po τ) (h1 : τ.2.2.1.1.2.1 = 0 → v = 0 → s2 = -1 → po τ) (h2 : τ.2.2.1.1.2.1 = 0 → v = 0 → ¬ s2 = -1 → wg_ra k 0 τ [s2, bi (w || s)] (fun _ τ' => po τ')) (h3 : τ.2.2.1.1.2.1 = 0 → ¬ v = 0 → wg_ra k 0 τ [nI z, bi (w || s)] (fun _ τ' => po τ')) :
    (v = 0 → wp_X12_runOne_311 (wg_ra k) po τ (nI i) (bi w) (nI y) (0 : Int32)) ∧ (¬ v = 0 → wp_X12_runOne_311 (wg_ra k) po τ (nI i) (bi w) (nI y) (1 : Int32)) := by
  have hny' : τ.1.2.1.1.1 y = nI z := hny
  have hnz' : τ.1.2.1.1.1 z = s2 := hnz
  have hsc' : τ.1.2.1.1.2.1 i = bi s := hsc
  have p338 : ∀ sx : Int32, (τ.2.2.1.1.2.1 = 0 → sx = -1 → po τ) → (τ.2.2.1.1.2.1 = 0 → ¬ sx = -1 → wg_ra k 0 τ [sx, bi (w || s)] (fun _ τ' => po τ')) → wp_X12_runOne_338 (wg_ra k) po τ (nI i) (bi w) sx := by
    intro sx g1 g2
    refine ⟨h0, fun e0 => ⟨g1 e0, fun c => ?_⟩⟩
    have key := g2 e0 c
    cases w with
    | true => exact ⟨fun _ => key, fun c => absurd c (by decide)⟩
    | false =>
      refine ⟨fun c => absurd rfl c, fun _ => ⟨in_k hi9 (by omega), ?_⟩⟩
      rw [nI_clamp (by omega), hsc']
      cases s with
      | true => exact ⟨fun c => absurd c (by decide), fun _ => key⟩
      | false => exact ⟨fun _ => key, fun c => absurd rfl c⟩
  refine ⟨fun hv => ⟨fun _ => ⟨in_k hy9 (by omega), ?_⟩, fun c => absurd rfl c⟩, fun hv => ⟨fun c => absurd c (by decide), fun _ => ⟨in_k hy9 (by omega), ?_⟩⟩⟩
  · rw [nI_clamp (by omega), hny', nI_clamp (show z < 2 ^ 31 by omega), hnz']
    exact ⟨in_k hz9 (by omega), p338 s2 (fun e => h1 e hv) (fun e => h2 e hv)⟩
  · rw [nI_clamp (by omega), hny']
    exact p338 (nI z) (fun _ c => absurd c (nI_nem1 (by omega))) (fun e _ => h3 e hv)
theorem run_one {T : TX} {N : Nat} {g : List DD} (hv : GV T N g) (hN : N ≤ 3001) {most n : Nat} (hmost : most ≤ 2000) (ih : SRUN T N g most n) (e : Tr) (hn : tsz e ≤ n) : SONE T N g most e := by
  intro k lo hi t t' bh w x τ S S0 po hwf hjs hxs hk hms hmj hh hj hr hs hS hs0 hp
  cases e with
  | leaf v => exact absurd (show (1 : Nat) = 0 from hwf) (by omega)
  | branch p a b =>
    rw [tsz] at hn
    have ta := tsz_pos a
    have tb := tsz_pos b
    have hS1 := hS p a b rfl
    have e0 := hr.none.mpr hs
    have hgo := rs_go (T := T) (g := g) (p := p) (x := a) (y := b) (w := w) hs0 hS1 hs
    rw [hgo] at hp
    rw [WFS, if_neg (by omega), if_pos rfl] at hwf
    rw [XS, if_neg (by omega), if_pos rfl] at hxs
    rw [MS, if_neg (by omega), if_pos rfl] at hms
    rw [MJS, if_neg (by omega), if_pos rfl] at hmj
    obtain ⟨w0, hwf⟩ := hwf
    obtain ⟨xs0, hxs⟩ := hxs
    obtain ⟨i, la, ha, y, x1, x2, x3, x4, x5, hms⟩ := hms
    have hyb : la ≤ y ∧ y < ha := by
      split at hms
      · obtain ⟨_, v, lb, hb, z0, _, _, _, _, _, _, _, y8, _⟩ := hms
        exact y8.bd
      · exact hms.2.1.bd
    have hiy : i < 9000 := by omega
    rw [x1, nI_clamp (by omega)] at hmj
    rw [x1]
    show wp_X12_runOne (wg_ra k) τ (nI i) (bi w) (po 0)
    refine ⟨in_k hiy (by omega), fun y1 ey1 => ⟨in_k hiy (by omega), ?_⟩⟩
    rw [nI_clamp (by omega)] at ey1 ⊢
    have hlen := hv.len
    have hw2 := hv.2
    obtain ⟨a1, a2, a3, a4, a5, a6, a7, a8⟩ := id hr
    by_cases p1 : p % 8 = 1
    · rw [if_pos p1] at hms
      rw [if_neg (by omega), if_pos p1] at hwf hxs hmj hp
      obtain ⟨kd, v, lb, hb, z, m1, m2, m3, m4, m5, m6, m7, m8, m9, m10, m11⟩ := hms
      obtain ⟨u1, u2, u3, u4, u5⟩ := hwf
      obtain ⟨tm, xa, xb⟩ := hxs
      have kd' : τ.1.1.2.2.1 i = 301 := kd
      have m5' : τ.1.1.2.2.2.2 i = nI v := m5
      have m7' : τ.1.2.1.1.1 v = nI y := m7
      have bz1 := m10.bd
      have ec1 : c1 τ i = v := by unfold c1; rw [m5, nI_clamp (by omega)]
      have ec2 : c2 τ i = y := by unfold c2; rw [ec1, m7, nI_clamp (by omega)]
      rw [ec2, m9, nI_clamp (show z < 2 ^ 31 by omega)] at hmj
      obtain ⟨⟨kk, hk1, hmk⟩, hja, hjb⟩ := hmj
      have hkl := fdI_lt g _ kk hk1
      have n6 := wds_take (T := T) hkl
      have n6 : fw T g kk + dsz T (gx g kk) ≤ wds T g := n6
      have n7 := hv.1 _ (gx_mem hkl)
      have enm : nmk T g (p / 8) = kk := by unfold nmk; rw [hk1]; rfl
      rw [enm] at hp
      rw [m5'] at ey1
      rw [kd', ey1]
      have p142e : ∀ (x5 : Int32) (τ1 : SX12) (S1 : SR), QR τ τ1 → RU T most τ1 S1 → ¬ τ1.2.2.1.1.2.1 = 0 → (∀ τ', QR τ τ' → RU T most τ' S1 → po 0 τ') → wp_X12_runOne_142 (wg_ra k) (po 0) τ1 (nI i) (nI v) x5 := by
        intro x5 τ1 S1 q1 r1 z1 hq
        refine ⟨in_k (by omega) (by omega), ?_⟩
        have e1 : τ1.1.2.1.1.1 v = nI y := by rw [q1.sh.1]; exact m7
        have e2 : τ1.1.2.1.1.1 y = nI z := by rw [q1.sh.1]; exact m9
        rw [nI_clamp (by omega), e1, nI_clamp (show y < 2 ^ 31 by omega), e2]
        exact ⟨in_k (by omega) (by omega), m_evx hv hN xb.2.2 (q1.me m10) (q1.mj (by omega) m10 hjb) u5 (by omega) (q1.mji hj) r1 z1 (fun v2 τ2 q2 r2 z2 => ⟨fun _ => hq τ2 (q1.tr q2) r2, fun c => absurd c z2⟩)⟩
      have p142 : ∀ (x5 : Int32) (τ1 : SX12), QR τ τ1 → RU T most τ1 S → x5.toBitVec.toNat < dsz T (gx g kk) → (∀ τ', QR τ τ' → RU T most τ' (match ev T g S.1 b with
          | .error z => failS S 1 z
          | .ok v => (upd S.1 (fw T g kk + x5.toBitVec.toNat) v, S.2)) → po 0 τ') → wp_X12_runOne_142 (wg_ra k) (po 0) τ1 (nI i) (nI v) x5 := by
        intro x5 τ1 q1 r1 hx hq
        refine ⟨in_k (by omega) (by omega), ?_⟩
        have e1 : τ1.1.2.1.1.1 v = nI y := by rw [q1.sh.1]; exact m7
        have e2 : τ1.1.2.1.1.1 y = nI z := by rw [q1.sh.1]; exact m9
        rw [nI_clamp (by omega), e1, nI_clamp (show y < 2 ^ 31 by omega), e2]
        refine ⟨in_k (by omega) (by omega), m_evr hv hN xb.2.2 (q1.me m10) (q1.mj (by omega) m10 hjb) u5 (by omega) (q1.mji hj) r1 hs (fun v2 t2 τ2 he q2 r2 z2 => ?_) (fun v2 τ2 he q2 r2 z2 => ⟨fun c => absurd z2 c, fun _ => ?_⟩)⟩
        · rw [he] at hq
          exact ⟨fun _ => hq τ2 (q1.tr q2) r2, fun c => absurd c z2⟩
        · rw [he] at hq
          have q12 := q1.tr q2
          have eM : τ2.1.2.1.1.2.2 i = nI kk := by rw [q12.sh.1]; exact hmk
          obtain ⟨_, _, w3, _, _⟩ := (q12.mji hj).2.2.2.2.1 kk hkl
          have w3' : τ2.1.2.2.1.1 kk = nI (fw T g kk) := w3
          have e5 : nI (fw T g kk) + x5 = nI (fw T g kk + x5.toBitVec.toNat) := by
            rw [← nI_add, ← of_tn]
          rw [nI_clamp (by omega), eM, nI_clamp (show kk < 2 ^ 31 by omega), w3', e5]
          refine ⟨in_k (by omega) (by omega), in_k (by omega) (by omega), in_k (by omega) (by omega), fun y3 e3 => ?_⟩
          rw [nI_clamp (by omega)] at e3
          exact hq _ (q12.tr (QR.val y3)) (r2.val e3)
      have p131 : ∀ (x5 : Int32) (τ1 : SX12), QR τ τ1 → RU T most τ1 S → (∀ τ', QR τ τ' → RU T most τ' (failS S 1 (p / 8 + 1)) → po 0 τ') → wp_X12_runOne_131 (wg_ra k) (po 0) τ1 (nI i) (nI v) x5 := by
        intro x5 τ1 q1 r1 hq
        refine ⟨in_k (by omega) (by omega), ?_⟩
        have eA : τ1.1.1.2.2.2.1 v = nI (p / 8 + 1) := by rw [q1.sh.1]; exact m6
        rw [nI_clamp (by omega), eA]
        exact m_stop (c := 1) (S := S) (q1.mji hj).2.1 hN (by omega) r1 hs (by omega) rfl (fun τ2 q2 r2 z2 => p142e x5 τ2 _ (q1.tr q2) r2 z2 hq)
      refine ⟨fun c => absurd c (by decide), fun _ => ⟨fun c => absurd c (by decide), fun _ => ⟨fun c => absurd c (by decide), fun _ => ⟨fun _ => ⟨in_k (by omega) (by omega), ?_⟩, fun c => absurd rfl c⟩⟩⟩⟩
      rw [nI_clamp (by omega), m7']
      refine m_evr hv hN xa.2.2 m8 hja u4 (by omega) hj hr hs (fun v2 t2 τ2 he q2 r2 z2 => ?_) (fun v2 τ2 he q2 r2 z2 => ⟨fun c => absurd z2 c, fun _ => ?_⟩)
      · rw [he] at hp
        exact ⟨fun _ => p142e v2 τ2 _ q2 r2 z2 hp, fun c => absurd c z2⟩
      · rw [he] at hp
        dsimp only at hp
        have hbv := v2.toBitVec.isLt
        have hlt0 : v2 < 0 ↔ 2147483648 ≤ v2.toBitVec.toNat := by
          rw [Int32.lt_iff_toInt_lt]
          have e0 : (0 : Int32).toInt = 0 := rfl
          rw [e0]
          rcases i32_toInt v2 with ⟨a1, a2⟩ | ⟨a1, a2, a3⟩ <;> omega
        have eM : τ2.1.2.1.1.2.2 i = nI kk := by rw [q2.sh.1]; exact hmk
        obtain ⟨_, w2, _, _, _⟩ := (q2.mji hj).2.2.2.2.1 kk hkl
        have w2' : τ2.1.2.1.2.2.2 kk = nI (dsz T (gx g kk)) := w2
        have bad : ¬ v2.toBitVec.toNat < dsz T (gx g kk) → wp_X12_runOne_131 (wg_ra k) (po 0) τ2 (nI i) (nI v) v2 := by
          intro c
          rw [if_neg c] at hp
          exact p131 v2 τ2 q2 r2 hp
        refine ⟨fun c => bad (by have := hlt0.mp c; omega), fun c => ⟨in_k (by omega) (by omega), ?_⟩⟩
        rw [eM, nI_clamp (show kk < 2 ^ 31 by omega), w2']
        have hlt : v2 < nI (dsz T (gx g kk)) ↔ v2.toBitVec.toNat < dsz T (gx g kk) := by
          have z2 : v2.toBitVec.toNat < 2147483648 := by
            by_cases y : v2.toBitVec.toNat < 2147483648
            · exact y
            · exact absurd (hlt0.mpr (by omega)) c
          have e6 : v2 = nI v2.toBitVec.toNat := of_tn v2
          have := nI_ltI (a := v2.toBitVec.toNat) (b := dsz T (gx g kk)) (by omega) (by omega)
          rw [← e6] at this
          exact this
        refine ⟨in_k (by omega) (by omega), fun c2 => ?_, fun c2 => bad (fun c3 => c2 (hlt.mpr c3))⟩
        have c3 := hlt.mp c2
        rw [if_pos c3] at hp
        exact p142 v2 τ2 q2 r2 c3 hp
    · rw [if_neg p1] at hms
      obtain ⟨f1, f2, hms⟩ := hms
      have f1' : τ.1.1.2.2.2.2 i = nI y := f1
      rw [f1'] at ey1
      rw [ey1]
      have ec1 : c1 τ i = y := by unfold c1; rw [f1, nI_clamp (by omega)]
      by_cases p0 : p % 8 = 0
      · rw [if_pos p0] at hwf hxs hmj hp hms
        have kd' : τ.1.1.2.2.1 i = 300 := hms.1
        rw [ec1] at hmj
        obtain ⟨⟨kk, hk1, hmk⟩, hja⟩ := hmj
        have hkl := fdI_lt g _ kk hk1
        have n6 := wds_take (T := T) hkl
        have n6 : fw T g kk + dsz T (gx g kk) ≤ wds T g := n6
        have n7 := hv.1 _ (gx_mem hkl)
        have enm : nmk T g (p / 8) = kk := by unfold nmk; rw [hk1]; rfl
        rw [enm] at hp
        rw [kd']
        refine ⟨fun c => absurd c (by decide), fun _ => ⟨fun c => absurd c (by decide), fun _ => ⟨fun _ => ?_, fun c => absurd rfl c⟩⟩⟩
        refine m_evr hv hN hxs.2.2 f2 hja hwf.2 (by omega) hj hr hs (fun v2 t2 τ2 he q2 r2 z2 => ?_) (fun v2 τ2 he q2 r2 z2 => ⟨fun c => absurd z2 c, fun _ => ?_⟩)
        · rw [he] at hp
          exact ⟨fun _ => hp τ2 q2 r2, fun c => absurd c z2⟩
        · rw [he] at hp
          dsimp only at hp
          have eM : τ2.1.2.1.1.2.2 i = nI kk := by rw [q2.sh.1]; exact hmk
          obtain ⟨_, _, w3, _, _⟩ := (q2.mji hj).2.2.2.2.1 kk hkl
          have w3' : τ2.1.2.2.1.1 kk = nI (fw T g kk) := w3
          rw [eM, nI_clamp (show kk < 2 ^ 31 by omega), w3']
          refine ⟨in_k (by omega) (by omega), in_k (by omega) (by omega), in_k (by omega) (by omega), fun y3 e3 => ?_⟩
          rw [nI_clamp (by omega)] at e3
          exact hp _ (q2.tr (QR.val y3)) (r2.val e3)
      · by_cases p2 : p % 8 = 2
        · rw [if_neg p0, if_neg p1, if_pos p2] at hwf hxs hmj hp
          rw [if_neg p0, if_pos p2] at hms
          have kd' : τ.1.1.2.2.1 i = 6 := hms.1
          rw [ec1] at hmj
          rw [kd']
          refine ⟨fun _ => ?_, fun c => absurd rfl c⟩
          refine m_evr hv hN hxs.2.2 f2 hmj hwf.2 (by omega) hj hr hs (fun v2 t2 τ2 he q2 r2 z2 => ?_) (fun v2 τ2 he q2 r2 z2 => ⟨fun c => absurd z2 c, fun _ => ?_⟩)
          · rw [he] at hp
            exact ⟨fun _ => ⟨fun _ => hp τ2 q2 r2, fun c => absurd c z2⟩, fun c => absurd c z2⟩
          · rw [he] at hp
            dsimp only at hp
            obtain ⟨b1, b2, b3, b4, b5, b6, b7, b8⟩ := id r2
            have b5' : τ2.2.1.2.2.2.1 = nI S.2.2.1.length := b5
            have hq : τ2.2.1.2.2.2.1 = (100 : Int32) ↔ S.2.2.1.length = 100 := by
              rw [b5']
              exact nI_eq (b := 100) (by omega) (by omega)
            refine ⟨fun c => ⟨fun c2 => absurd z2 c2, fun _ => ?_⟩, fun c => ⟨in_k (by omega) (by omega), ?_⟩⟩
            · have c2 : ¬ S.2.2.1.length = 100 := fun z => c (hq.mpr z)
              rw [if_neg c2] at hp
              rw [b5']
              refine ⟨in_k (by omega) (by omega), fun y6 e6 y7 e7 => ?_⟩
              rw [nI_clamp (by omega)] at e6
              have e7 : y7 = nI (S.2.2.1.length + 1) := by
                rw [e7]
                exact nI_add _ 1
              refine hp _ (q2.tr ⟨τ2.2.1.2.1.2.2, y6, y7, τ2.2.1.2.2.2.2, τ2.2.2.1.1.2.1, τ2.2.2.1.1.2.2, τ2.2.2.1.2.2.1, rfl⟩) ⟨b1, b2, b3, b4, ?_, ?_, ?_, ?_⟩
              · show y7 = nI (S.2.2.1 ++ [v2]).length
                rw [e7, List.length_append]
                rfl
              · show (S.2.2.1 ++ [v2]).length ≤ 100
                rw [List.length_append]
                show S.2.2.1.length + 1 ≤ 100
                omega
              · intro j hj
                have hj : j < (S.2.2.1 ++ [v2]).length := hj
                rw [List.length_append] at hj
                have hj : j < S.2.2.1.length + 1 := hj
                show y6 j = ((S.2.2.1 ++ [v2])[j]?).getD 0
                rw [e6]
                by_cases ej : j = S.2.2.1.length
                · rw [ej, pk_us, List.getElem?_append_right (Nat.le_refl _), Nat.sub_self]
                  rfl
                · rw [pk_un ej, List.getElem?_append_left (by omega)]
                  exact b7 j (by omega)
              · rw [hs] at b8
                exact b8
            · have c2 := hq.mp c
              rw [if_pos c2] at hp
              have eA : τ2.1.1.2.2.2.1 i = nI (p / 8) := by rw [q2.sh.1]; exact x5
              rw [eA]
              exact m_stop (c := 3) (S := S) (q2.mji hj).2.1 hN (by omega) r2 hs (by omega) rfl (fun τ3 q3 r3 z3 => ⟨fun _ => hp τ3 (q2.tr q3) r3, fun c => absurd c z3⟩)
        · by_cases p3 : p % 8 = 3
          · rw [if_neg p0, if_neg p1, if_neg p2, if_pos p3] at hwf hxs hmj hp
            rw [if_neg p0, if_neg p2, if_pos p3] at hms
            obtain ⟨kd, z, lb, hb, g1, g2, g3, g4, g5, g6, g7⟩ := hms
            obtain ⟨ew, _, jsb⟩ := js_while p3 hjs
            rw [ew] at jsb hp ⊢
            obtain ⟨t1, xa, xh, xb⟩ := hxs
            have kd' : τ.1.1.2.2.1 i = 9 := kd
            have ec2 : c2 τ i = z := by unfold c2; rw [ec1, g5, nI_clamp (by omega)]
            rw [ec1, ec2] at hmj
            rw [kd']
            refine ⟨fun c => absurd c (by decide), fun _ => ⟨fun _ => ⟨S.2.1 + 1, ?_⟩, fun c => absurd rfl c⟩⟩
            exact run_while (lo := lo) (hi := hi) hv hN hmost ih (by omega) hiy x5 (by omega) hwf.2.1 hwf.2.2 jsb xa.2.2 xb (by omega) f2 (by omega) hmj.1 (by omega) g5 (by omega) g6 (by omega) hmj.2 hj (S.2.1 + 1) S τ (QR.rf τ) hr (by omega) hp
          · rw [if_neg p0, if_neg p1, if_neg p2, if_neg p3] at hwf hxs hmj hp
            rw [if_neg p0, if_neg p2, if_neg p3] at hms
            by_cases p4 : p % 8 = 4
            · rw [if_pos p4] at hwf hxs hmj hms
              obtain ⟨kd, z, lb, hb, g1, g2, g3, g4, g5, g6, g7⟩ := hms
              obtain ⟨sx, js1, jsb⟩ := js_if p4 hjs
              rw [je_esc a sx js1] at jsb
              obtain ⟨t1, xa, xh, xb⟩ := hxs
              have kd' : τ.1.1.2.2.1 i = 7 := kd
              have ec2 : c2 τ i = z := by unfold c2; rw [ec1, g5, nI_clamp (by omega)]
              rw [ec1, ec2] at hmj
              obtain ⟨hja, hsc, hjb⟩ := hmj
              rw [kd']
              refine ⟨fun c => absurd c (by decide), fun _ => ⟨fun c => absurd c (by decide), fun _ => ⟨fun c => absurd c (by decide), fun _ => ⟨fun c => absurd c (by decide), fun _ => ?_⟩⟩⟩⟩
              refine m_evr hv hN xa.2.2 f2 hja hwf.2.1 (by omega) hj hr hs (fun v2 t2 τ2 he q2 r2 z2 => ?_) (fun v2 τ2 he q2 r2 z2 => ?_)
              · rw [he] at hp
                exact run_if (z := z) (s := esc T g a) (s2 := -1) hiy (by omega) (by omega) (by show τ2.1.2.1.1.1 y = _; rw [q2.sh.1]; exact g5) (by show τ2.1.2.1.1.1 z = _; rw [q2.sh.1]; exact g7) (by show τ2.1.2.1.1.2.1 i = _; rw [q2.sh.1]; exact hsc) (fun _ => hp τ2 q2 r2) (fun c => absurd c z2) (fun c => absurd c z2) (fun c => absurd c z2)
              · rw [he] at hp
                dsimp only at hp
                rw [if_pos p4] at hp
                have efz : τ2.1.1.2.2.2.2 z = τ.1.1.2.2.2.2 z := by
                  show τ2.1.1.2.2.2.2 z = _
                  rw [q2.sh.1]
                refine run_if (z := z) (s := esc T g a) (s2 := -1) hiy (by omega) (by omega) (by show τ2.1.2.1.1.1 y = _; rw [q2.sh.1]; exact g5) (by show τ2.1.2.1.1.1 z = _; rw [q2.sh.1]; exact g7) (by show τ2.1.2.1.1.2.1 i = _; rw [q2.sh.1]; exact hsc) (fun c => absurd z2 c) (fun _ c _ => ?_) (fun _ _ c => absurd rfl c) (fun _ c => ?_)
                · rw [if_pos c] at hp
                  exact hp τ2 q2 r2
                · rw [if_neg c] at hp
                  exact run_block ih (w := (w || esc T g a)) (by omega) hwf.2.2 jsb xb (by omega) (by rw [efz]; exact q2.ms (by omega) g6) (by rw [efz]; exact q2.mjs (by omega) g6 hjb) (by omega) (by omega) (q2.mji hj) r2 rfl (fun τ3 q3 r3 => hp τ3 (q2.tr q3) r3)
            · rw [if_neg p4] at hwf hxs hmj hms
              obtain ⟨kd, lb, g1, g6⟩ := hms
              obtain ⟨sx, js1, jsb⟩ := js_ife hwf.1 hjs
              rw [je_esc a sx js1] at jsb
              obtain ⟨t1, xa, xh, xb⟩ := hxs
              obtain ⟨_, wb1, wb2, wb3⟩ := hwf
              have kd' : τ.1.1.2.2.1 i = 7 := kd
              rw [ec1] at hmj
              obtain ⟨hja, hsc, hjb⟩ := hmj
              cases b with
              | leaf q => exact absurd (show (2 : Nat) = 0 from wb3) (by omega)
              | branch pb b1 b2 =>
                rw [tsz] at hn
                have tb1 := tsz_pos b1
                have tb2 := tsz_pos b2
                rw [WFS, if_neg (by omega), if_neg (by omega)] at wb3
                rw [XS, if_neg (by omega), if_neg (by omega)] at xb
                obtain ⟨tt, xb1, xb2⟩ := xb
                obtain ⟨jb1, jb2⟩ := js_2 jsb
                rw [MS, if_neg (by omega), if_neg (by omega)] at g6
                obtain ⟨z, l1, h1, z', l2, h2, k1, k2, k3, k4, k5, k6, k7, k8, k9, k10, k11, k12⟩ := g6
                rw [MJS, if_neg (by omega), if_neg (by omega), k1, nI_clamp (by omega), k10, nI_clamp (by omega)] at hjb
                rw [kd']
                refine ⟨fun c => absurd c (by decide), fun _ => ⟨fun c => absurd c (by decide), fun _ => ⟨fun c => absurd c (by decide), fun _ => ⟨fun c => absurd c (by decide), fun _ => ?_⟩⟩⟩⟩
                refine m_evr hv hN xa.2.2 f2 hja wb2 (by omega) hj hr hs (fun v2 t2 τ2 he q2 r2 z2 => ?_) (fun v2 τ2 he q2 r2 z2 => ?_)
                · rw [he] at hp
                  exact run_if (z := z) (s := esc T g a) (s2 := nI z') hiy (by omega) (by omega) (by show τ2.1.2.1.1.1 y = _; rw [q2.sh.1]; exact k1) (by show τ2.1.2.1.1.1 z = _; rw [q2.sh.1]; exact k10) (by show τ2.1.2.1.1.2.1 i = _; rw [q2.sh.1]; exact hsc) (fun _ => hp τ2 q2 r2) (fun c => absurd c z2) (fun c => absurd c z2) (fun c => absurd c z2)
                · rw [he] at hp
                  dsimp only at hp
                  rw [if_neg p4] at hp
                  have efz : τ2.1.1.2.2.2.2 z = τ.1.1.2.2.2.2 z := by
                    show τ2.1.1.2.2.2.2 z = _
                    rw [q2.sh.1]
                  have efz' : τ2.1.1.2.2.2.2 z' = τ.1.1.2.2.2.2 z' := by
                    show τ2.1.1.2.2.2.2 z' = _
                    rw [q2.sh.1]
                  have er3 : ∀ S', rs T g (.branch pb b1 b2) 3 (w || esc T g a) S' = rs T g b2 0 (w || esc T g a) S' := fun S' => by
                    rw [rs, if_neg (by omega), if_neg (by omega), if_neg (by omega)]
                  have er2 : ∀ S', rs T g (.branch pb b1 b2) 2 (w || esc T g a) S' = rs T g b1 0 (w || esc T g a) S' := fun S' => by
                    rw [rs, if_neg (by omega), if_neg (by omega), if_pos rfl]
                  refine run_if (z := z) (s := esc T g a) (s2 := nI z') hiy (by omega) (by omega) (by show τ2.1.2.1.1.1 y = _; rw [q2.sh.1]; exact k1) (by show τ2.1.2.1.1.1 z = _; rw [q2.sh.1]; exact k10) (by show τ2.1.2.1.1.2.1 i = _; rw [q2.sh.1]; exact hsc) (fun c => absurd z2 c) (fun _ _ c => absurd c (nI_nem1 (by omega))) (fun _ c _ => ?_) (fun _ c => ?_)
                  · rw [if_pos c, er3] at hp
                    exact run_block ih (w := (w || esc T g a)) (by omega) wb3.2 jb2 xb2 (by omega) (by rw [efz']; exact q2.ms (by omega) k11) (by rw [efz']; exact q2.mjs (by omega) k11 hjb.2) (by omega) (by omega) (q2.mji hj) r2 rfl (fun τ3 q3 r3 => hp τ3 (q2.tr q3) r3)
                  · rw [if_neg c, er2] at hp
                    exact run_block ih (w := (w || esc T g a)) (by omega) wb3.1 jb1 xb1 (by omega) (by rw [efz]; exact q2.ms (by omega) k9) (by rw [efz]; exact q2.mjs (by omega) k9 hjb.1) (by omega) (by omega) (q2.mji hj) r2 rfl (fun τ3 q3 r3 => hp τ3 (q2.tr q3) r3)
theorem run_all {T : TX} {N : Nat} {g : List DD} (hv : GV T N g) (hN : N ≤ 3001) {most : Nat} (hmost : most ≤ 2000) : ∀ n, SRUN T N g most n := by
  intro n
  induction n with
  | zero => intro e k lo hi t t' bh M w x τ S post hn; omega
  | succ n ih => exact run_cons hN hmost ih (fun e he => run_one hv hN hmost ih e (by omega))
end Mone
