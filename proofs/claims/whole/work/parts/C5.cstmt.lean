section CStmt
variable {T : TX} {N : Nat} {g : List DD} {z : WSX0} {u L : Nat}
def tsz : Tr → Nat
  | .leaf _ => 1
  | .branch _ a b => tsz a + tsz b + 1
theorem tsz_pos : ∀ e : Tr, 0 < tsz e := by
  intro e
  cases e with
  | leaf t => exact Nat.zero_lt_one
  | branch p a b => rw [tsz]; omega
def SG (T : TX) (g : List DD) (u : Nat) (e : Tr) (m s q h a : Nat) (M ti ba M' ti' ba' : Nat → Int32) (b : Nat) : Prop := CSX T g M' ba' e m s (decide (0 < q)) h a b ∧ (∀ j, j < a → M' j = M j) ∧ (∀ j, ¬ (s ≤ j ∧ j < s + szS T e m) → ti' j = ti j) ∧ (∀ j, ¬ (s ≤ j ∧ j < s + szS T e m) → ba' j = ba j) ∧ b ≤ a + wS' T e m ∧ BI u ba' b
/-- a word is put -/
theorem k_put1 (hz : KZ T g z u L) (hv : GV T N g) {m ti ba : Nat → Int32} {a h q s k : Nat} {po : WSX0 → Prop} (hs : s < u) (hk : z.1.2.1.1.2 s = 13) (hvk : z.1.2.1.2.2.1 s = nI k) (hkl : k < g.length) (hq : q < 1000) (ha : a + (if 0 < q then 3 else 1) ≤ 4096)
    (hp : ∀ m' b, (if decide (0 < q) = true then m' a = wL 7 0 (nI (4 * fw T g k)) ∧ m' (a + 1) = wJ 1 (nI (4 * 519) - nI (4 * (a + 1))) ∧ m' (a + 2) = wS 6 0 (4 * fw T g k) ∧ b = a + 3 else m' a = wS 6 0 (4 * fw T g k) ∧ b = a + 1) → (∀ j, j < a → m' j = m j) → po (KS z m' ti ba b h q)) : wp_X0_writePut (KS z m ti ba a h q) (nI s) po := by
  have hg : g.length ≤ 200 := by have := hv.len; have := hv.2; omega
  have n6 := wds_take (T := T) hkl
  have n6 : fw T g k + dsz T (gx g k) ≤ wds T g := n6
  have n7 := (hv.1 _ (gx_mem hkl)).2.1
  have n8 := hv.2
  unfold wp_X0_writePut
  refine c_nkind hz.nw hs ?_
  have hk' : (KS z m ti ba a h q).1.2.1.1.2 s = 13 := hk
  rw [hk']
  refine ⟨fun _ => c_nvalue hz.nw hs ?_, fun c => absurd c (by decide)⟩
  have hv' : (KS z m ti ba a h q).1.2.1.2.2.1 s = nI k := hvk
  rw [hv']
  refine c_wordPlace hz hg hkl ?_
  show (nI q ≤ 0 → _) ∧ (¬ nI q ≤ 0 → _)
  refine ⟨fun c => ?_, fun c => ?_⟩
  · have h0 : ¬ 0 < q := fun x => nI_nle x (by omega) c
    rw [if_neg h0] at ha
    refine w_sto (fr := 6) (by omega) (base := 0) (by omega) (by omega) (c_emit (by omega) (hp _ _ ?_ (fun j hj => pk_un (by omega))))
    rw [if_neg (by rw [decide_eq_false h0]; decide)]
    exact ⟨pk_us, rfl⟩
  · have h0 : 0 < q := by
      by_cases x : 0 < q
      · exact x
      · rw [show q = 0 by omega] at c
        exact absurd (by decide) c
    rw [if_pos h0] at ha
    have ek : ∀ m' b, (KS z m' ti ba b h q).1.1.1.2.2 = nI (4 * 519) := fun _ _ => hz.2.2.2.2.1
    refine w_load (to := 7) (by omega) (fr := 0) (by omega) (c_emit (by omega) ?_)
    rw [ek]
    refine w_jump (c_emit (by omega) (w_sto (fr := 6) (by omega) (base := 0) (by omega) (by omega) (c_emit (by omega) (hp _ _ ?_ (fun j hj => ?_)))))
    · rw [if_pos (decide_eq_true h0)]
      exact ⟨(pk_un (by omega)).trans ((pk_un (by omega)).trans pk_us), (pk_un (by omega)).trans pk_us, pk_us, rfl⟩
    · exact (pk_un (by omega)).trans ((pk_un (by omega)).trans (pk_un (by omega)))
theorem k_open (hz : KZ T g z u L) {m ti ba : Nat → Int32} {a h q i : Nat} {po : WSX0 → Prop} (hi : i < u) (ha : a + 2 ≤ 4096)
    (hp : po (KS z (upd (upd m a (wB (nI 1) (nI 6) (nI 0) 8)) (a + 1) 0) (upd ti i (nI (4 * (a + 1)))) ba (a + 2) h q)) : wp_X0_writeOpenJump (KS z m ti ba a h q) (nI i) po := by
  unfold wp_X0_writeOpenJump
  refine w_br (c_emit (by omega) (k_keepTie hz hi (c_emit (by omega) hp)))
/-- the head of an if -/
def HG (T : TX) (g : List DD) (u : Nat) (x : Tr) (s q h a a1 c : Nat) (M ti ba M' ti' ba' : Nat → Int32) : Prop := STP M' ba' (decide (0 < q)) s a a1 ∧ CX T g M' ba' x (s + sz T x) 0 h a1 c ∧ (∀ j, j < a → M' j = M j) ∧ (∀ j, ¬ (s ≤ j ∧ j < s + sz T x + 2) → ti' j = ti j) ∧ (∀ j, ¬ (s ≤ j ∧ j < s + sz T x + 2) → ba' j = ba j) ∧ c ≤ a1 + wt T x ∧ BI u ba' c
theorem k_if (hz : KZ T g z u L) (hv : GV T N g) (hN : ∀ s, s + 1 < N → ¬ tfin T s) (hu3 : u ≤ 3000) {x : Tr} {s h a q M : Nat} {mem ti ba : Nat → Int32} {post : WSX0 → Prop} (hwf : WF T N x) (hr : rh x ≤ 112) (b1 : z.1.2.1.1.2 s = 17) (b2 : CS T z.1.2 x (s + sz T x)) (b3 : z.1.2.1.1.2 (s + sz T x + 1) = 18) (jx : CJ T g z.1.2 x (s + sz T x)) (js : z.1.2.2.2.1 (s + sz T x + 1) = bi (esc T g x)) (hu : s + sz T x + 2 ≤ u) (hh : h ≤ 40) (hq : q ≤ h) (ha : 512 ≤ a) (hb : a + 6 + wt T x ≤ 4090) (hB : BI u ba a) (hM : u - s < M)
    (hP : esc T g x = false → ∀ a1 c M' ti' ba', HG T g u x s q h a a1 c mem ti ba M' ti' ba' → M' c = wB (nI 1) (nI 6) (nI 0) 8 → ti' (s + sz T x + 1) = nI (4 * (c + 1)) → ∀ F, u - (s + sz T x + 2) < F → wp_X0_write_62 post F (KS z M' ti' ba' (c + 2) h q) (nI (s + sz T x + 2)))
    (hS : esc T g x = true → ∀ a1 c M' ti' ba', HG T g u x s q h a a1 c mem ti ba M' ti' ba' → M' c = wS 3 0 (1200 + 4 * h) ∧ M' (c + 1) = wI 3 6 6 (nI 1) ∧ M' (c + 2) = wI 0 6 6 (-1) ∧ M' (c + 3) = wR 0 7 3 3 6 → ∀ F, u - (s + sz T x + 2) < F → wp_X0_write_62 post F (KS z M' ti' ba' (c + 4) (h + 1) (q + 1)) (nI (s + sz T x + 2))) : wp_X0_write_62 post M (KS z mem ti ba a h q) (nI s) := by
  have px := sz_pos T x
  refine wn_go hz (by omega) (by omega) (wn_17 hz (by omega) b1 (k_step hz (by omega) ha (by omega) (by omega) hB (fun M1 ba1 a1 s1 s2 s3 s4 => ?_)))
  have l1 := s1.le
  have sk := k_skip hz (m := M1) (ti := ti) (ba := ba1) (a := a1) (h := h) (q := q) (post := post) x (s + sz T x) (M - 1) hwf b2 (by omega) (by omega)
  rw [show s + sz T x + 1 - sz T x = s + 1 by omega] at sk
  refine sk (fun F1 hF1 => ?_)
  refine wn_go hz (by omega) (by omega) (wn_18 hz (by omega) b3 ?_)
  rw [sub1 (by omega), show s + sz T x + 1 - 1 = s + sz T x by omega]
  refine k_whole hz hv hN hu3 hwf b2 jx (by omega) hr (by omega) (by omega) s4 (by omega) (fun M2 ti2 ba2 c g7 => ?_)
  obtain ⟨k1, k2, k3, k4, k5, k6⟩ := g7
  have l2 := CX.le _ _ _ _ _ _ k1
  have k5' : c ≤ a1 + wt T x := by omega
  unfold wp_X0_writeThen
  refine c_nsecret (b := esc T g x) hz.nw (by omega) js ?_
  have hg : ∀ M' ti', (∀ j, j < c → M' j = M2 j) → (∀ j, ¬ j = s + sz T x + 1 → ti' j = ti2 j) → HG T g u x s q h a a1 c mem ti ba M' ti' ba2 := by
    intro M' ti' f1 f2
    refine ⟨s1.fr (fun j j1 j2 => (f1 j (by omega)).trans (k2 j (by omega))) (k4 s (by omega)), CX.fr _ _ _ _ _ _ k1 (by omega) (fun j j1 j2 => f1 j (by omega)) (fun j j1 j2 => rfl), fun j hj => ?_, fun j hj => ?_, fun j hj => ?_, k5', k6⟩
    · rw [f1 j (by omega), k2 j (by omega), s2 j hj]
    · rw [f2 j (by omega), k3 j (by omega)]
    · rw [k4 j (by omega), s3 j (by omega)]
  cases he : esc T g x with
  | true =>
    refine ⟨fun _ y ey => ?_, fun cc => absurd cc (by decide)⟩
    have ey : y = nI (q + 1) := ey.trans (nI_1 q)
    rw [ey]
    refine c_hold (z := z) (q := q + 1) (rg := 3) (by omega) rfl (by omega) (by omega) ?_
    refine w_below (to := 6) (fr := 6) (x := nI 1) rfl rfl (by omega) (by omega) (c_emit (by omega) ?_)
    refine w_add (to := 6) (fr := 6) (x := -1) rfl rfl (by omega) (by omega) (c_emit (by omega) ?_)
    refine w_join (k := 38) (rd := 3) (rl := 3) (rr := 6) (by decide) (by decide) (by decide) (by omega) (by omega) (by omega) (c_emit (by omega) ?_)
    have := hS he a1 c _ ti2 ba2 (hg (upd (upd (upd (upd M2 c (wS 3 0 (1200 + 4 * h))) (c + 1) (wI 3 6 6 (nI 1))) (c + 1 + 1) (wI 0 6 6 (-1))) (c + 1 + 1 + 1) (wR (uF 38) (kF 38) 3 3 6)) ti2 (fun j hj => ?_) (fun _ _ => rfl)) ⟨?_, ?_, ?_, ?_⟩ (F1 - 1) (by omega)
    · exact this
    · exact (pk_un (by omega)).trans ((pk_un (by omega)).trans ((pk_un (by omega)).trans (pk_un (by omega))))
    · exact (pk_un (by omega)).trans ((pk_un (by omega)).trans ((pk_un (by omega)).trans pk_us))
    · exact (pk_un (by omega)).trans ((pk_un (by omega)).trans pk_us)
    · exact (pk_un (by omega)).trans pk_us
    · exact pk_us
  | false =>
    refine ⟨fun cc => absurd rfl cc, fun _ => ?_⟩
    refine k_open hz (by omega) (by omega) ?_
    exact hP he a1 c _ _ ba2 (hg _ _ (fun j hj => (pk_un (by omega)).trans (pk_un (by omega))) (fun j hj => pk_un hj)) ((pk_un (by omega)).trans pk_us) pk_us (F1 - 1) (by omega)
/-- the end of an if -/
theorem k_endP (hz : KZ T g z u L) {m ti ba : Nat → Int32} {a h q i th f : Nat} {po : WSX0 → Prop} (hi : i < u) (hk : z.1.2.1.1.2 i = 20) (hvk : z.1.2.1.2.2.1 i = nI th) (ht : th < u) (hs : z.1.2.2.2.1 th = bi false) (hf : f < 4096) (hx : (z.1.2.1.2.2.1 th = -1 ∧ ti th = nI (4 * f)) ∨ (∃ el, el < u ∧ z.1.2.1.2.2.1 th = nI el ∧ ti el = nI (4 * f))) (hu : u ≤ 3000)
    (hp : po (KS z (upd m f (wJ 0 (nI (4 * a) - nI (4 * f)))) ti ba a h q)) : wp_X0_writeNode (KS z m ti ba a h q) (nI i) po := by
  refine wn_20 hz hi hk (c_nvalue hz.nw hi ?_)
  have ev : (KS z m ti ba a h q).1.2.1.2.2.1 i = nI th := hvk
  rw [ev]
  unfold wp_X0_writeEndOfIf
  refine c_nsecret (b := false) hz.nw ht hs ⟨fun _ => c_nvalue hz.nw ht ?_, fun c => absurd rfl c⟩
  rcases hx with ⟨e1, e2⟩ | ⟨el, e0, e1, e2⟩
  · have ev : (KS z m ti ba a h q).1.2.1.2.2.1 th = -1 := e1
    rw [ev]
    refine ⟨fun c => absurd rfl c, fun _ => ?_⟩
    unfold wp_X0_writeEndOfIf_51
    refine k_ntie (m := m) (ti := ti) (ba := ba) (a := a) (h := h) (q := q) hz ht ?_
    rw [e2]
    exact c_closeJump hf hp
  · have ev : (KS z m ti ba a h q).1.2.1.2.2.1 th = nI el := e1
    rw [ev]
    refine ⟨fun _ => ?_, fun c => absurd c (nI_nem1 (by omega))⟩
    unfold wp_X0_writeEndOfIf_51
    refine k_ntie (m := m) (ti := ti) (ba := ba) (a := a) (h := h) (q := q) hz e0 ?_
    rw [e2]
    exact c_closeJump hf hp
theorem k_endS (hz : KZ T g z u L) {m ti ba : Nat → Int32} {a h q i th : Nat} {po : WSX0 → Prop} (hi : i < u) (hk : z.1.2.1.1.2 i = 20) (hvk : z.1.2.1.2.2.1 i = nI th) (ht : th < u) (hs : z.1.2.2.2.1 th = bi true) (ha : a < 4096)
    (hp : po (KS z (upd m a (wL 3 0 (nI (1200 + 4 * h)))) ti ba (a + 1) h q)) : wp_X0_writeNode (KS z m ti ba a (h + 1) (q + 1)) (nI i) po := by
  refine wn_20 hz hi hk (c_nvalue hz.nw hi ?_)
  have ev : (KS z m ti ba a (h + 1) (q + 1)).1.2.1.2.2.1 i = nI th := hvk
  rw [ev]
  unfold wp_X0_writeEndOfIf
  refine c_nsecret (b := true) hz.nw ht hs ⟨fun c => absurd c (by decide), fun _ => ?_⟩
  refine c_release (rg := 3) (by omega) rfl ha (by omega) (fun y ey => ?_)
  have ey : y = nI q := ey.trans (by show nI (q + 1) - 1 = nI q; rw [sub1 (by omega)]; rfl)
  rw [ey]
  exact hp
theorem k_elseP (hz : KZ T g z u L) {m ti ba : Nat → Int32} {a h q i th f : Nat} {po : WSX0 → Prop} (hi : i < u) (hk : z.1.2.1.1.2 i = 19) (hvk : z.1.2.1.2.2.1 i = nI th) (ht : th < u) (hne : ¬ th = i) (hs : z.1.2.2.2.1 th = bi false) (hf : f < 4096) (ha : a < 4096) (hx : ti th = nI (4 * f))
    (hp : po (KS z (upd (upd m a 0) f (wJ 0 (nI (4 * (a + 1)) - nI (4 * f)))) (upd ti i (nI (4 * a))) ba (a + 1) h q)) : wp_X0_writeNode (KS z m ti ba a h q) (nI i) po := by
  refine wn_19 hz hi hk (c_nvalue hz.nw hi ?_)
  have ev : (KS z m ti ba a h q).1.2.1.2.2.1 i = nI th := hvk
  rw [ev]
  unfold wp_X0_writeElse
  refine c_nsecret (b := false) hz.nw ht hs ⟨fun _ => ?_, fun c => absurd rfl c⟩
  refine k_keepTie (m := m) (ti := ti) (ba := ba) (a := a) (h := h) (q := q) hz hi (c_emit (z := z) (m := m) (ti := upd ti i (nI (4 * a))) (ba := ba) (h := h) (q := q) ha ?_)
  refine k_ntie hz ht ?_
  rw [pk_un hne, hx]
  exact c_closeJump hf hp
theorem k_elseS (hz : KZ T g z u L) {m ti ba : Nat → Int32} {a h q i th : Nat} {po : WSX0 → Prop} (hi : i < u) (hk : z.1.2.1.1.2 i = 19) (hvk : z.1.2.1.2.2.1 i = nI th) (ht : th < u) (hs : z.1.2.2.2.1 th = bi true) (ha : a + 2 ≤ 4096) (h0 : 0 < h)
    (hp : po (KS z (upd (upd m a (wL 5 0 (nI (1200 + 4 * (h - 1))))) (a + 1) (wR 0 4 3 3 5)) ti ba (a + 2) h q)) : wp_X0_writeNode (KS z m ti ba a h q) (nI i) po := by
  refine wn_19 hz hi hk (c_nvalue hz.nw hi ?_)
  have ev : (KS z m ti ba a h q).1.2.1.2.2.1 i = nI th := hvk
  rw [ev]
  unfold wp_X0_writeElse
  refine c_nsecret (b := true) hz.nw ht hs ⟨fun c => absurd c (by decide), fun _ => ?_⟩
  refine c_lookH (rg := 5) (by omega) rfl (by omega) h0 ?_
  exact w_join (k := 94) (rd := 3) (rl := 3) (rr := 5) (by decide) (by decide) (by decide) (by omega) (by omega) (by omega) (c_emit (by omega) hp)
theorem sub_p4 (a : Nat) : nI (4 * (a + 1)) - 4 = nI (4 * a) := by
  rw [← p4, Int32.add_sub_cancel]
theorem k_st (hz : KZ T g z u L) (hv : GV T N g) (hN : ∀ s, s + 1 < N → ¬ tfin T s) (hu3 : u ≤ 3000) : ∀ (n : Nat) (e : Tr) (m s h a q t t' bh M : Nat) (mem ti ba : Nat → Int32) (post : WSX0 → Prop), tsz e < n → m ≤ 1 → WFS T N e m → XS T e m t t' bh → CB T z.1.2 e m s → CJS T g z.1.2 e m s → s + szS T e m ≤ u → h + bh ≤ 40 → q ≤ h → js T g e m (decide (0 < q)) = .ok () → 512 ≤ a → a + wS' T e m ≤ 4090 → BI u ba a → u - s < M →
    (∀ M' ti' ba' b, SG T g u e m s q h a mem ti ba M' ti' ba' b → ∀ F, u - (s + szS T e m) < F → wp_X0_write_62 post F (KS z M' ti' ba' b h q) (nI (s + szS T e m))) → wp_X0_write_62 post M (KS z mem ti ba a h q) (nI s) := by
  have hg : g.length ≤ 200 := by have := hv.len; have := hv.2; omega
  intro n
  induction n with
  | zero => intro e m s h a q t t' bh M mem ti ba post hn; exact absurd hn (by omega)
  | succ n ih =>
    intro e m s h a q t t' bh M mem ti ba post hn hm hwf hxs hcb hcj hu hh hqh hjs ha hb hB hM hY
    cases e with
    | leaf x =>
      have := hY mem ti ba a ⟨by rw [CSX], fun _ _ => rfl, fun _ _ => rfl, fun _ _ => rfl, by omega, hB⟩ M hM
      exact this
    | branch p x y =>
      have px := sz_pos T x
      have py := sz_pos T y
      have tx := tsz_pos x
      have ty := tsz_pos y
      rw [tsz] at hn
      rw [WFS] at hwf
      rw [XS] at hxs
      rw [CB] at hcb
      rw [CJS] at hcj
      rw [wS'] at hb
      have eS : szS T (.branch p x y) m = if m = 0 then szS T x 1 + szS T y 0 else if m = 1 then (if p % 8 = 0 then sz T x + 2 else if p % 8 = 1 then sz T x + sz T y + 3 else if p % 8 = 2 then sz T x + 2 else if p % 8 = 3 then sz T x + szS T y 0 + 4 else if p % 8 = 4 then sz T x + szS T y 0 + 3 else sz T x + szS T y 2 + 3) else szS T x 0 + szS T y 0 + 1 := by rw [szS]
      have eW : wS' T (.branch p x y) m = if m = 0 then wS' T x 1 + wS' T y 0 else if m = 1 then (if p % 8 = 0 then 3 + wt T x else if p % 8 = 1 then 5 + wt T x + wt T y else if p % 8 = 2 then 3 + wt T x else if p % 8 = 3 then 6 + wt T x + wS' T y 0 else if p % 8 = 4 then 6 + wt T x + wS' T y 0 else 6 + wt T x + wS' T y 2) else wS' T x 0 + 3 + wS' T y 0 := by rw [wS']
      by_cases m0 : m = 0
      · rw [if_pos m0] at hwf hxs hcb hcj hb eS eW
        rw [m0] at hjs
        obtain ⟨t1, x1, x2⟩ := hxs
        obtain ⟨j1, j2⟩ := js_0 hjs
        rw [eS] at hu
        refine ih x 1 s h a q t t1 bh M mem ti ba post (by omega) (by omega) hwf.1 x1 hcb.1 hcj.1 (by omega) hh hqh j1 ha (by omega) hB hM (fun M1 ti1 ba1 b1 g1 F1 hF1 => ?_)
        obtain ⟨g1, g2, g3, g4, g5, g6⟩ := g1
        have l1 := CSX.le _ _ _ _ _ _ _ g1
        refine ih y 0 (s + szS T x 1) h b1 q t1 t' bh F1 M1 ti1 ba1 post (by omega) (by omega) hwf.2 x2 hcb.2 hcj.2 (by omega) hh hqh j2 (by omega) (by omega) g6 hF1 (fun M2 ti2 ba2 b2 g7 F2 hF2 => ?_)
        obtain ⟨k1, k2, k3, k4, k5, k6⟩ := g7
        have l2 := CSX.le _ _ _ _ _ _ _ k1
        have := hY M2 ti2 ba2 b2 ⟨?_, fun j hj => ?_, fun j hj => ?_, fun j hj => ?_, by omega, k6⟩ F2 (by omega)
        · rw [eS, show s + (szS T x 1 + szS T y 0) = s + szS T x 1 + szS T y 0 by omega] at this
          exact this
        · rw [CSX, if_pos m0]
          exact ⟨b1, CSX.fr _ 1 _ _ _ _ _ (by omega) g1 (fun j j1 j2 => k2 j (by omega)) (fun c => absurd c (by omega)) (fun j j1 j2 => k4 j (by have : szS T x (szM 1) = szS T x 1 := rfl; omega)), k1⟩
        · rw [k2 j (by omega), g2 j hj]
        · rw [eS] at hj
          rw [k3 j (by omega), g3 j (by omega)]
        · rw [eS] at hj
          rw [k4 j (by omega), g4 j (by omega)]
      · have m1 : m = 1 := by omega
        rw [if_neg m0, if_pos m1] at hwf hxs hcb hcj hb eS eW
        rw [m1] at hjs
        obtain ⟨h0, hxs⟩ := hxs
        obtain ⟨w0, hwf⟩ := hwf
        by_cases c0 : p % 8 = 0
        · rw [if_pos c0] at hwf hxs hcb hcj hb eS eW
          rw [eS] at hu
          obtain ⟨b1, b2, b3⟩ := hcb
          obtain ⟨⟨k, jk, jv⟩, jx⟩ := hcj
          have hkl := fdI_lt g _ k jk
          refine wn_go hz (by omega) (by omega) (wn_13 hz (by omega) b1.1 (k_step hz (by omega) ha (by omega) (by omega) hB (fun M1 ba1 a1 s1 s2 s3 s4 => ?_)))
          have l1 := s1.le
          have sk := k_skip hz (m := M1) (ti := ti) (ba := ba1) (a := a1) (h := h) (q := q) (post := post) x (s + sz T x) (M - 1) hwf.2 b2 (by omega) (by omega)
          rw [show s + sz T x + 1 - sz T x = s + 1 by omega] at sk
          refine sk (fun F1 hF1 => ?_)
          refine wn_go hz (by omega) (by omega) (wn_16 hz (by omega) b3.1 ?_)
          rw [sub1 (by omega), show s + sz T x + 1 - 1 = s + sz T x by omega]
          refine k_whole hz hv hN hu3 hwf.2 b2 jx (by omega) hxs.2.1 (by omega) (by omega) s4 (by omega) (fun M2 ti2 ba2 b g7 => ?_)
          obtain ⟨k1, k2, k3, k4, k5, k6⟩ := g7
          have l2 := CX.le _ _ _ _ _ _ k1
          have q1 : (if decide (0 < q) = true then a1 = a else a1 = a + 1) := by
            unfold STP at s1
            split
            · rename_i qq
              rw [if_pos qq] at s1
              exact s1
            · rename_i qq
              rw [if_neg qq] at s1
              exact s1.2.1
          refine c_nvalue hz.nw (by omega) ?_
          have ev : (KS z M2 ti2 ba2 b h q).1.2.1.2.2.1 (s + sz T x + 1) = nI s := b3.2.2
          rw [ev]
          refine k_put1 hz hv (s := s) (k := k) (by omega) b1.1 jv hkl (by omega) ?_ (fun M3 b' o1 o2 => ?_)
          · by_cases h0 : 0 < q
            · rw [if_pos h0]
              rw [if_pos (decide_eq_true h0)] at q1
              omega
            · rw [if_neg h0]
              omega
          · have hbb : b' ≤ a + (3 + wt T x) ∧ b ≤ b' := by
              by_cases h0 : 0 < q
              · rw [if_pos (decide_eq_true h0)] at q1 o1
                omega
              · rw [if_neg (by rw [decide_eq_false h0]; decide)] at q1 o1
                omega
            have := hY M3 ti2 ba2 b' ⟨?_, fun j hj => ?_, fun j hj => ?_, fun j hj => ?_, by rw [eW]; omega, k6.mono (by omega)⟩ (F1 - 1) (by omega)
            · rw [eS, show s + (sz T x + 2) = s + sz T x + 1 + 1 by omega] at this
              exact this
            · rw [CSX, if_neg m0, if_pos m1, if_pos c0, nmk, jk]
              refine ⟨a1, b, s1.fr (fun j j1 j2 => (o2 j (by omega)).trans (k2 j (by omega))) (k4 s (by omega)), CX.fr _ _ _ _ _ _ k1 (by omega) (fun j j1 j2 => o2 j (by omega)) (fun j j1 j2 => rfl), o1⟩
            · rw [o2 j (by omega), k2 j (by omega), s2 j hj]
            · rw [eS] at hj
              rw [k3 j (by omega)]
            · rw [eS] at hj
              rw [k4 j (by omega), s3 j (by omega)]
        · rw [if_neg c0] at hwf hxs hcb hcj hb eS eW
          by_cases c1 : p % 8 = 1
          · rw [if_pos c1] at hwf hxs hcb hcj hb eS eW
            rw [eS] at hu
            obtain ⟨t1, xs1, xs2⟩ := hxs
            obtain ⟨b1, b2, b3, b4, b5⟩ := hcb
            obtain ⟨⟨k, jk, jv⟩, jx, jy⟩ := hcj
            have hkl := fdI_lt g _ k jk
            refine wn_go hz (by omega) (by omega) (wn_14 hz (by omega) b1.1 (k_step hz (by omega) ha (by omega) (by omega) hB (fun M1 ba1 a1 s1 s2 s3 s4 => ?_)))
            have l1 := s1.le
            have sk := k_skip hz (m := M1) (ti := ti) (ba := ba1) (a := a1) (h := h) (q := q) (post := post) x (s + sz T x) (M - 1) hwf.2.2.2.1 b2 (by omega) (by omega)
            rw [show s + sz T x + 1 - sz T x = s + 1 by omega] at sk
            refine sk (fun F1 hF1 => ?_)
            refine wn_go hz (by omega) (by omega) (wn_15 hz (by omega) b3.1 ?_)
            rw [sub1 (by omega), show s + sz T x + 1 - 1 = s + sz T x by omega]
            refine k_whole hz hv hN hu3 hwf.2.2.2.1 b2 jx (by omega) xs1.2.1 (by omega) (by omega) s4 (by omega) (fun M2 ti2 ba2 b g7 => ?_)
            obtain ⟨k1, k2, k3, k4, k5, k6⟩ := g7
            have l2 := CX.le _ _ _ _ _ _ k1
            refine c_nvalue hz.nw (by omega) ?_
            have ev : (KS z M2 ti2 ba2 b h q).1.2.1.2.2.1 (s + sz T x + 1) = nI s := b3.2.2
            rw [ev]
            refine c_nvalue hz.nw (by omega) ?_
            have ev : (KS z M2 ti2 ba2 b h q).1.2.1.2.2.1 s = nI k := jv
            rw [ev]
            refine c_rowCall hz hg (c := 532 + 5 * nrw g) hz.2.2.2.2.2.2.2 hkl ?_
            refine c_callFor hz (t := 532 + 5 * nrw g + 5 * nrw (g.take k)) (by omega) (by omega) rfl ?_
            refine c_hold (rg := 6) (by omega) rfl (by omega) (by omega) ?_
            have sk := k_skip hz (m := upd (upd M2 b (wJ 1 (nI (4 * (532 + 5 * nrw g + 5 * nrw (g.take k))) - nI (4 * b)))) (b + 1) (wS 6 0 (1200 + 4 * h))) (ti := ti2) (ba := upd ba2 (s + sz T x + 1) (nI (4 * (b + 1)))) (a := b + 1 + 1) (h := h + 1) (q := q) (post := post) y (s + sz T x + 1 + sz T y) (F1 - 1) hwf.2.2.2.2 b4 (by omega) (by omega)
            rw [show s + sz T x + 1 + sz T y + 1 - sz T y = s + sz T x + 1 + 1 by omega] at sk
            refine sk (fun F2 hF2 => ?_)
            have b5k : z.1.2.1.1.2 (s + sz T x + 1 + sz T y + 1) = 16 := by rw [show s + sz T x + 1 + sz T y + 1 = s + sz T x + sz T y + 2 by omega]; exact b5.1
            refine wn_go hz (by omega) (by omega) (wn_16 hz (by omega) b5k ?_)
            rw [sub1 (by omega), show s + sz T x + 1 + sz T y + 1 - 1 = s + sz T x + 1 + sz T y by omega]
            refine k_whole hz hv hN hu3 hwf.2.2.2.2 b4 jy (by omega) xs2.2.1 (by omega) (by omega) ((k6.up (by omega) (by omega)).mono (by omega)) (by omega) (fun M3 ti3 ba3 d g8 => ?_)
            obtain ⟨o1, o2, o3, o4, o5, o6⟩ := g8
            have l3 := CX.le _ _ _ _ _ _ o1
            refine c_nvalue hz.nw (by omega) ?_
            have ev : (KS z M3 ti3 ba3 d (h + 1) q).1.2.1.2.2.1 (s + sz T x + 1 + sz T y + 1) = nI s := by
              rw [show s + sz T x + 1 + sz T y + 1 = s + sz T x + sz T y + 2 by omega]
              exact b5.2.2
            rw [ev]
            unfold wp_X0_writePut
            refine c_nkind hz.nw (by omega) ?_
            have hk' : (KS z M3 ti3 ba3 d (h + 1) q).1.2.1.1.2 s = 14 := b1.1
            rw [hk']
            refine ⟨fun c => absurd rfl c, fun _ => ?_⟩
            refine c_release (rg := 7) (by omega) rfl (by omega) (by omega) ?_
            refine w_sto (fr := 6) (base := 7) (d := 0) (by omega) (by omega) (by omega) (c_emit (by omega) ?_)
            rw [show h + 1 - 1 = h by omega]
            have fr3 : ∀ j, j < d → (upd (upd M3 d (wL 7 0 (nI (1200 + 4 * h)))) (d + 1) (wS 6 7 0)) j = M3 j := fun j hj => (pk_un (by omega)).trans (pk_un (by omega))
            have fr2 : ∀ j, j < b → (upd (upd M3 d (wL 7 0 (nI (1200 + 4 * h)))) (d + 1) (wS 6 7 0)) j = M2 j := fun j hj => (fr3 j (by omega)).trans ((o2 j (by omega)).trans ((pk_un (by omega)).trans (pk_un (by omega))))
            have := hY (upd (upd M3 d (wL 7 0 (nI (1200 + 4 * h)))) (d + 1) (wS 6 7 0)) ti3 ba3 (d + 1 + 1) ⟨?_, fun j hj => ?_, fun j hj => ?_, fun j hj => ?_, by rw [eW]; omega, o6.mono (by omega)⟩ (F2 - 1) (by omega)
            · rw [eS, show s + (sz T x + sz T y + 3) = s + sz T x + 1 + sz T y + 1 + 1 by omega] at this
              exact this
            · rw [CSX, if_neg m0, if_pos m1, if_neg c0, if_pos c1, nmk, jk]
              refine ⟨a1, b, d, s1.fr (fun j j1 j2 => (fr2 j (by omega)).trans (k2 j (by omega))) ?_, CX.fr _ _ _ _ _ _ k1 (by omega) (fun j j1 j2 => fr2 j (by omega)) (fun j j1 j2 => ?_), ?_, ?_, ?_, CX.fr _ _ _ _ _ _ o1 (by omega) (fun j j1 j2 => fr3 j (by omega)) (fun j j1 j2 => rfl), ?_, pk_us, rfl⟩
              · rw [o4 s (by omega), pk_un (by omega), k4 s (by omega)]
              · rw [o4 j (by omega), pk_un (by omega)]
              · rw [fr3 b (by omega), o2 b (by omega), pk_un (by omega)]
                exact pk_us
              · rw [o4 _ (by omega)]
                exact pk_us
              · rw [fr3 (b + 1) (by omega), o2 (b + 1) (by omega)]
                exact pk_us
              · rw [pk_un (by omega)]
                exact pk_us
            · rw [fr2 j (by omega), k2 j (by omega), s2 j hj]
            · rw [eS] at hj
              rw [o3 j (by omega), k3 j (by omega)]
            · rw [eS] at hj
              rw [o4 j (by omega), pk_un (by omega), k4 j (by omega), s3 j (by omega)]
          · rw [if_neg c1] at hwf hxs hcb hcj hb eS eW
            by_cases c2 : p % 8 = 2
            · rw [if_pos c2] at hwf hxs hcb hcj hb eS eW
              rw [eS] at hu
              obtain ⟨b1, b2, b3⟩ := hcb
              refine wn_go hz (by omega) (by omega) (wn_25 hz (by omega) b1.1 (k_step hz (by omega) ha (by omega) (by omega) hB (fun M1 ba1 a1 s1 s2 s3 s4 => ?_)))
              have l1 := s1.le
              have sk := k_skip hz (m := M1) (ti := ti) (ba := ba1) (a := a1) (h := h) (q := q) (post := post) x (s + sz T x) (M - 1) hwf.2 b2 (by omega) (by omega)
              rw [show s + sz T x + 1 - sz T x = s + 1 by omega] at sk
              refine sk (fun F1 hF1 => ?_)
              refine wn_go hz (by omega) (by omega) (wn_26 hz (by omega) b3.1 ?_)
              rw [sub1 (by omega), show s + sz T x + 1 - 1 = s + sz T x by omega]
              refine k_whole hz hv hN hu3 hwf.2 b2 hcj (by omega) hxs.2.1 (by omega) (by omega) s4 (by omega) (fun M2 ti2 ba2 b g7 => ?_)
              obtain ⟨k1, k2, k3, k4, k5, k6⟩ := g7
              have l2 := CX.le _ _ _ _ _ _ k1
              refine c_callFor hz (t := 523) (by omega) (by omega) hz.2.2.2.2.2.1 ?_
              have := hY (upd M2 b (wJ 1 (nI (4 * 523) - nI (4 * b)))) ti2 (upd ba2 (s + sz T x + 1) (nI (4 * (b + 1)))) (b + 1) ⟨?_, fun j hj => ?_, fun j hj => ?_, fun j hj => ?_, by rw [eW]; omega, k6.up (by omega) (by omega)⟩ (F1 - 1) (by omega)
              · rw [eS, show s + (sz T x + 2) = s + sz T x + 1 + 1 by omega] at this
                exact this
              · rw [CSX, if_neg m0, if_pos m1, if_neg c0, if_neg c1, if_pos c2]
                refine ⟨a1, b, s1.fr (fun j j1 j2 => (pk_un (by omega)).trans (k2 j (by omega))) ?_, CX.fr _ _ _ _ _ _ k1 (by omega) (fun j j1 j2 => pk_un (by omega)) (fun j j1 j2 => pk_un (by omega)), pk_us, rfl, pk_us⟩
                rw [pk_un (by omega), k4 s (by omega)]
              · rw [pk_un (by omega), k2 j (by omega), s2 j hj]
              · rw [eS] at hj
                rw [k3 j (by omega)]
              · rw [eS] at hj
                rw [pk_un (by omega), k4 j (by omega), s3 j (by omega)]
            · rw [if_neg c2] at hwf hxs hcb hcj hb eS eW
              by_cases c3 : p % 8 = 3
              · rw [if_pos c3] at hwf hxs hcb hcj hb eS eW
                rw [eS] at hu
                obtain ⟨t1, xs1, xs0, xs2⟩ := hxs
                obtain ⟨b1, b2, b3, b4, b5, b6⟩ := hcb
                obtain ⟨jx, jy⟩ := hcj
                obtain ⟨jw, je1, js1⟩ := js_while c3 hjs
                refine wn_go hz (by omega) (by omega) (wn_21 hz (by omega) b1.1 (k_step hz (by omega) ha (by omega) (by omega) hB (fun M1 ba1 a1 s1 s2 s3 s4 => ?_)))
                have l1 := s1.le
                refine wn_go hz (by omega) (by omega) (wn_22 hz (by omega) b2.1 (k_step hz (by omega) (by omega) (by omega) (by omega) s4 (fun M2 ba2 a2 r1 r2 r3 r4 => ?_)))
                have l2 := r1.le
                have r1b := r1
                unfold STP at r1b
                rw [jw, if_neg (by decide)] at r1b
                have sk := k_skip hz (m := M2) (ti := ti) (ba := ba2) (a := a2) (h := h) (q := q) (post := post) x (s + 1 + sz T x) (M - 1 - 1) hwf.2.1 b3 (by omega) (by omega)
                rw [show s + 1 + sz T x + 1 - sz T x = s + 1 + 1 by omega] at sk
                refine sk (fun F1 hF1 => ?_)
                have b4k : z.1.2.1.1.2 (s + 1 + sz T x + 1) = 23 := by rw [show s + 1 + sz T x + 1 = s + sz T x + 2 by omega]; exact b4.1
                refine wn_go hz (by omega) (by omega) (wn_23 hz (by omega) b4k ?_)
                rw [sub1 (by omega), show s + 1 + sz T x + 1 - 1 = s + 1 + sz T x by omega]
                refine k_whole hz hv hN hu3 hwf.2.1 b3 jx (by omega) xs1.2.1 (by omega) (by omega) r4 (by omega) (fun M3 ti3 ba3 c g7 => ?_)
                obtain ⟨k1, k2, k3, k4, k5, k6⟩ := g7
                have l3 := CX.le _ _ _ _ _ _ k1
                refine k_open hz (by omega) (by omega) ?_
                rw [show s + 1 + sz T x + 1 + 1 = s + sz T x + 3 by omega]
                refine ih y 0 (s + sz T x + 3) h (c + 2) q (t1 + 2) (t' - 1) (bh - 1) (F1 - 1) _ _ ba3 post (by omega) (by omega) hwf.2.2 xs2 b5 jy (by omega) (by omega) hqh js1 (by omega) (by omega) (k6.mono (by omega)) (by omega) (fun M4 ti4 ba4 d g8 F2 hF2 => ?_)
                obtain ⟨o1, o2, o3, o4, o5, o6⟩ := g8
                have l4 := CSX.le _ _ _ _ _ _ _ o1
                refine wn_go hz (by omega) (by omega) (wn_24 hz (by omega) b6.1 (c_nvalue hz.nw (by omega) ?_))
                have ev : (KS z M4 ti4 ba4 d h q).1.2.1.2.2.1 (s + sz T x + 3 + szS T y 0) = nI (s + sz T x + 2) := b6.2.2
                rw [ev]
                unfold wp_X0_writeEndOfWhile
                refine c_nvalue hz.nw (by omega) ?_
                have ev : (KS z M4 ti4 ba4 d h q).1.2.1.2.2.1 (s + sz T x + 2) = nI (s + 1) := b4.2.2
                rw [ev]
                refine k_nback hz (by omega) ?_
                have eb : ba4 (s + 1) = nI (4 * a2) := by rw [o4 _ (by omega), k4 _ (by omega), r1b.2.2]
                rw [eb]
                intro y5 e5
                have e5 : y5 = nI (4 * a1) := by
                  rw [e5, r1b.2.1]
                  exact sub_p4 a1
                rw [e5]
                refine w_jump (c_emit (by omega) ?_)
                refine k_ntie hz (by omega) ?_
                have et : ti4 (s + sz T x + 2) = nI (4 * (c + 1)) := by
                  rw [o3 _ (by omega), show s + sz T x + 2 = s + 1 + sz T x + 1 by omega]
                  exact pk_us
                rw [et]
                refine c_closeJump (by omega) ?_
                have fr4 : ∀ j, j < d → ¬ j = c + 1 → (upd (upd M4 d (wJ 0 (nI (4 * a1) - nI (4 * d)))) (c + 1) (wJ 0 (nI (4 * (d + 1)) - nI (4 * (c + 1))))) j = M4 j := fun j hj hj2 => (pk_un hj2).trans (pk_un (by omega))
                have fr3 : ∀ j, j < c → (upd (upd M4 d (wJ 0 (nI (4 * a1) - nI (4 * d)))) (c + 1) (wJ 0 (nI (4 * (d + 1)) - nI (4 * (c + 1))))) j = M3 j := fun j hj => (fr4 j (by omega) (by omega)).trans ((o2 j (by omega)).trans ((pk_un (by omega)).trans (pk_un (by omega))))
                have := hY (upd (upd M4 d (wJ 0 (nI (4 * a1) - nI (4 * d)))) (c + 1) (wJ 0 (nI (4 * (d + 1)) - nI (4 * (c + 1))))) ti4 ba4 (d + 1) ⟨?_, fun j hj => ?_, fun j hj => ?_, fun j hj => ?_, by rw [eW]; omega, o6.mono (by omega)⟩ (F2 - 1) (by omega)
                · rw [eS, show s + (sz T x + szS T y 0 + 4) = s + sz T x + 3 + szS T y 0 + 1 by omega] at this
                  exact this
                · rw [CSX, if_neg m0, if_pos m1, if_neg c0, if_neg c1, if_neg c2, if_pos c3]
                  refine ⟨a1, a2, c, d, s1.fr (fun j j1 j2 => ?_) ?_, r1.fr (fun j j1 j2 => ?_) ?_, CX.fr _ _ _ _ _ _ k1 (by omega) (fun j j1 j2 => fr3 j (by omega)) (fun j j1 j2 => o4 j (by omega)), ?_, pk_us, CSX.fr _ 0 _ _ _ _ _ (by omega) o1 (fun j j1 j2 => fr4 j (by omega) (by rw [if_neg (by omega)] at j1; omega)) (fun c => absurd c (by omega)) (fun j j1 j2 => rfl), ?_, rfl⟩
                  · rw [fr3 j (by omega), k2 j (by omega), r2 j (by omega)]
                  · rw [o4 s (by omega), k4 s (by omega), r3 s (by omega)]
                  · rw [fr3 j (by omega), k2 j (by omega)]
                  · rw [o4 _ (by omega), k4 _ (by omega)]
                  · rw [fr4 c (by omega) (by omega), o2 c (by omega), pk_un (by omega)]
                    exact pk_us
                  · rw [pk_un (by omega)]
                    exact pk_us
                · rw [fr3 j (by omega), k2 j (by omega), r2 j (by omega), s2 j hj]
                · rw [eS] at hj
                  rw [o3 j (by omega), pk_un (by omega), k3 j (by omega)]
                · rw [eS] at hj
                  rw [o4 j (by omega), k4 j (by omega), r3 j (by omega), s3 j (by omega)]
              · rw [if_neg c3] at hwf hxs hcb hcj hb eS eW
                by_cases c4 : p % 8 = 4
                · rw [if_pos c4] at hwf hxs hcb hcj hb eS eW
                  rw [eS] at hu
                  obtain ⟨t1, xs1, xs0, xs2⟩ := hxs
                  obtain ⟨b1, b2, b3, b4, b5⟩ := hcb
                  obtain ⟨jx, jsc, jy⟩ := hcj
                  obtain ⟨sx, je1, js1⟩ := js_if c4 hjs
                  rw [je_esc x sx je1] at js1
                  refine k_if hz hv hN hu3 hwf.2.1 xs1.2.1 b1.1 b2 b3.1 jx jsc (by omega) (by omega) hqh ha (by omega) hB hM (fun he a1 c M1 ti1 ba1 hg1 w1 w2 F1 hF1 => ?_) (fun he a1 c M1 ti1 ba1 hg1 w1 F1 hF1 => ?_)
                  · obtain ⟨g1, g2, g3, g4, g5, g6, g7⟩ := hg1
                    have l1 := g1.le
                    have l2 := CX.le _ _ _ _ _ _ g2
                    rw [he, Bool.or_false] at js1
                    refine ih y 0 (s + sz T x + 2) h (c + 2) q (t1 + 2) (t' - 1) (bh - 1) F1 M1 ti1 ba1 post (by omega) (by omega) hwf.2.2 xs2 b4 jy (by omega) (by omega) hqh js1 (by omega) (by omega) (g7.mono (by omega)) hF1 (fun M2 ti2 ba2 b g8 F2 hF2 => ?_)
                    obtain ⟨o1, o2, o3, o4, o5, o6⟩ := g8
                    have l3 := CSX.le _ _ _ _ _ _ _ o1
                    refine wn_go hz (by omega) (by omega) (k_endP hz (th := s + sz T x + 1) (f := c + 1) (by omega) b5.1 b5.2.2 (by omega) (by rw [jsc, he]) (by omega) (Or.inl ⟨b3.2.2, by rw [o3 _ (by omega), w2]⟩) hu3 ?_)
                    have fr2 : ∀ j, ¬ j = c + 1 → (upd M2 (c + 1) (wJ 0 (nI (4 * b) - nI (4 * (c + 1))))) j = M2 j := fun j hj => pk_un hj
                    have := hY (upd M2 (c + 1) (wJ 0 (nI (4 * b) - nI (4 * (c + 1))))) ti2 ba2 b ⟨?_, fun j hj => ?_, fun j hj => ?_, fun j hj => ?_, by rw [eW]; omega, o6⟩ (F2 - 1) (by omega)
                    · rw [eS, show s + (sz T x + szS T y 0 + 3) = s + sz T x + 2 + szS T y 0 + 1 by omega] at this
                      exact this
                    · rw [CSX, if_neg m0, if_pos m1, if_neg c0, if_neg c1, if_neg c2, if_neg c3]
                      refine ⟨a1, c, g1.fr (fun j j1 j2 => (fr2 j (by omega)).trans (o2 j (by omega))) (o4 s (by omega)), CX.fr _ _ _ _ _ _ g2 (by omega) (fun j j1 j2 => (fr2 j (by omega)).trans (o2 j (by omega))) (fun j j1 j2 => o4 j (by omega)), ?_⟩
                      rw [if_neg (by rw [he]; decide), if_pos c4]
                      refine ⟨?_, fun _ => pk_us, CSX.fr _ 0 _ _ _ _ _ (by omega) o1 (fun j j1 j2 => fr2 j (by rw [if_neg (by omega)] at j1; omega)) (fun c => absurd c (by omega)) (fun j j1 j2 => rfl)⟩
                      rw [fr2 c (by omega), o2 c (by omega)]
                      exact w1
                    · rw [fr2 j (by omega), o2 j (by omega), g3 j hj]
                    · rw [eS] at hj
                      rw [o3 j (by omega), g4 j (by omega)]
                    · rw [eS] at hj
                      rw [o4 j (by omega), g5 j (by omega)]
                  · obtain ⟨g1, g2, g3, g4, g5, g6, g7⟩ := hg1
                    have l1 := g1.le
                    have l2 := CX.le _ _ _ _ _ _ g2
                    rw [he, Bool.or_true] at js1
                    have dq : decide (0 < q + 1) = true := decide_eq_true (by omega)
                    refine ih y 0 (s + sz T x + 2) (h + 1) (c + 4) (q + 1) (t1 + 2) (t' - 1) (bh - 1) F1 M1 ti1 ba1 post (by omega) (by omega) hwf.2.2 xs2 b4 jy (by omega) (by omega) (by omega) (by rw [dq]; exact js1) (by omega) (by omega) (g7.mono (by omega)) hF1 (fun M2 ti2 ba2 d g8 F2 hF2 => ?_)
                    obtain ⟨o1, o2, o3, o4, o5, o6⟩ := g8
                    have l3 := CSX.le _ _ _ _ _ _ _ o1
                    rw [dq] at o1
                    refine wn_go hz (by omega) (by omega) (k_endS hz (th := s + sz T x + 1) (by omega) b5.1 b5.2.2 (by omega) (by rw [jsc, he]) (by omega) ?_)
                    have fr2 : ∀ j, j < d → (upd M2 d (wL 3 0 (nI (1200 + 4 * h)))) j = M2 j := fun j hj => pk_un (by omega)
                    have := hY (upd M2 d (wL 3 0 (nI (1200 + 4 * h)))) ti2 ba2 (d + 1) ⟨?_, fun j hj => ?_, fun j hj => ?_, fun j hj => ?_, by rw [eW]; omega, o6.mono (by omega)⟩ (F2 - 1) (by omega)
                    · rw [eS, show s + (sz T x + szS T y 0 + 3) = s + sz T x + 2 + szS T y 0 + 1 by omega] at this
                      exact this
                    · rw [CSX, if_neg m0, if_pos m1, if_neg c0, if_neg c1, if_neg c2, if_neg c3]
                      refine ⟨a1, c, g1.fr (fun j j1 j2 => (fr2 j (by omega)).trans (o2 j (by omega))) (o4 s (by omega)), CX.fr _ _ _ _ _ _ g2 (by omega) (fun j j1 j2 => (fr2 j (by omega)).trans (o2 j (by omega))) (fun j j1 j2 => o4 j (by omega)), ?_⟩
                      rw [if_pos he, if_pos c4, fr2 c (by omega), o2 c (by omega), fr2 (c + 1) (by omega), o2 (c + 1) (by omega), fr2 (c + 2) (by omega), o2 (c + 2) (by omega), fr2 (c + 3) (by omega), o2 (c + 3) (by omega)]
                      exact ⟨w1.1, w1.2.1, w1.2.2.1, w1.2.2.2, d, CSX.fr _ 0 _ _ _ _ _ (by omega) o1 (fun j j1 j2 => fr2 j (by omega)) (fun c => absurd c (by omega)) (fun j j1 j2 => rfl), pk_us, rfl⟩
                    · rw [fr2 j (by omega), o2 j (by omega), g3 j hj]
                    · rw [eS] at hj
                      rw [o3 j (by omega), g4 j (by omega)]
                    · rw [eS] at hj
                      rw [o4 j (by omega), g5 j (by omega)]
                · rw [if_neg c4] at hwf hxs hcb hcj hb eS eW
                  rw [eS] at hu
                  obtain ⟨t1, xs1, xs0, xs2⟩ := hxs
                  obtain ⟨b1, b2, b3, b4, b5⟩ := hcb
                  obtain ⟨jx, jsc, jy⟩ := hcj
                  obtain ⟨c5, wk, wx, wy⟩ := hwf
                  obtain ⟨sx, je1, js1⟩ := js_ife c5 hjs
                  rw [je_esc x sx je1] at js1
                  cases y with
                  | leaf v => exact absurd (show (2 : Nat) = 0 from wy) (by omega)
                  | branch p2 y1 y2 =>
                    rw [WFS, if_neg (by omega), if_neg (by omega)] at wy
                    rw [XS, if_neg (by omega), if_neg (by omega)] at xs2
                    rw [CB, if_neg (by omega), if_neg (by omega)] at b4
                    rw [CJS, if_neg (by omega), if_neg (by omega)] at jy
                    obtain ⟨t2, xa, xb⟩ := xs2
                    obtain ⟨d0, d1, d2, d3, d4, d5⟩ := b4
                    obtain ⟨js2, js3⟩ := js_2 js1
                    rw [tsz] at hn
                    have eS2 : szS T (.branch p2 y1 y2) 2 = szS T y1 0 + szS T y2 0 + 1 := by rw [szS, if_neg (by omega), if_neg (by omega)]
                    have eW2 : wS' T (.branch p2 y1 y2) 2 = wS' T y1 0 + 3 + wS' T y2 0 := by rw [wS', if_neg (by omega), if_neg (by omega)]
                    rw [eS2] at eS hu b5
                    rw [eW2] at eW hb
                    rw [show s + sz T x + 2 - 1 = s + sz T x + 1 by omega] at d3 d4
                    refine k_if hz hv hN hu3 wx xs1.2.1 b1.1 b2 b3.1 jx jsc (by omega) (by omega) hqh ha (by omega) hB hM (fun he a1 c M1 ti1 ba1 hg1 w1 w2 F1 hF1 => ?_) (fun he a1 c M1 ti1 ba1 hg1 w1 F1 hF1 => ?_)
                    · obtain ⟨g1, g2, g3, g4, g5, g6, g7⟩ := hg1
                      have l1 := g1.le
                      have l2 := CX.le _ _ _ _ _ _ g2
                      rw [he, Bool.or_false] at js2 js3
                      refine ih y1 0 (s + sz T x + 2) h (c + 2) q (t1 + 2) t2 (bh - 1) F1 M1 ti1 ba1 post (by omega) (by omega) wy.1 xa d1 jy.1 (by omega) (by omega) hqh js2 (by omega) (by omega) (g7.mono (by omega)) hF1 (fun M2 ti2 ba2 d g8 F2 hF2 => ?_)
                      obtain ⟨o1, o2, o3, o4, o5, o6⟩ := g8
                      have l3 := CSX.le _ _ _ _ _ _ _ o1
                      refine wn_go hz (by omega) (by omega) (k_elseP hz (th := s + sz T x + 1) (f := c + 1) (by omega) d2 d3 (by omega) (by omega) (by rw [jsc, he]) (by omega) (by omega) (by rw [o3 _ (by omega), w2]) ?_)
                      refine ih y2 0 (s + sz T x + 2 + szS T y1 0 + 1) h (d + 1) q (t2 + 3) (t' - 1) (bh - 1) (F2 - 1) _ _ ba2 post (by omega) (by omega) wy.2 xb d5 jy.2 (by omega) (by omega) hqh js3 (by omega) (by omega) (o6.mono (by omega)) (by omega) (fun M3 ti3 ba3 b g9 F3 hF3 => ?_)
                      obtain ⟨v1, v2, v3, v4, v5, v6⟩ := g9
                      have l4 := CSX.le _ _ _ _ _ _ _ v1
                      have ek : z.1.2.1.1.2 (s + sz T x + 2 + szS T y1 0 + 1 + szS T y2 0) = 20 := by
                        rw [show s + sz T x + 2 + szS T y1 0 + 1 + szS T y2 0 = s + sz T x + 2 + (szS T y1 0 + szS T y2 0 + 1) by omega]
                        exact b5.1
                      have evv : z.1.2.1.2.2.1 (s + sz T x + 2 + szS T y1 0 + 1 + szS T y2 0) = nI (s + sz T x + 1) := by
                        rw [show s + sz T x + 2 + szS T y1 0 + 1 + szS T y2 0 = s + sz T x + 2 + (szS T y1 0 + szS T y2 0 + 1) by omega]
                        exact b5.2.2
                      refine wn_go hz (by omega) (by omega) (k_endP hz (th := s + sz T x + 1) (f := d) (by omega) ek evv (by omega) (by rw [jsc, he]) (by omega) (Or.inr ⟨s + sz T x + 2 + szS T y1 0, by omega, d4, by rw [v3 _ (by omega)]; exact pk_us⟩) hu3 ?_)
                      have fr3 : ∀ j, ¬ j = d → (upd M3 d (wJ 0 (nI (4 * b) - nI (4 * d)))) j = M3 j := fun j hj => pk_un hj
                      have fr2 : ∀ j, j < d → ¬ j = c + 1 → (upd M3 d (wJ 0 (nI (4 * b) - nI (4 * d)))) j = M2 j := fun j hj hj2 => (fr3 j (by omega)).trans ((v2 j (by omega)).trans ((pk_un hj2).trans (pk_un (by omega))))
                      have := hY (upd M3 d (wJ 0 (nI (4 * b) - nI (4 * d)))) ti3 ba3 b ⟨?_, fun j hj => ?_, fun j hj => ?_, fun j hj => ?_, by rw [eW]; omega, v6⟩ (F3 - 1) (by omega)
                      · rw [eS, show s + (sz T x + (szS T y1 0 + szS T y2 0 + 1) + 3) = s + sz T x + 2 + szS T y1 0 + 1 + szS T y2 0 + 1 by omega] at this
                        exact this
                      · rw [CSX, if_neg m0, if_pos m1, if_neg c0, if_neg c1, if_neg c2, if_neg c3]
                        refine ⟨a1, c, g1.fr (fun j j1 j2 => (fr2 j (by omega) (by omega)).trans (o2 j (by omega))) ?_, CX.fr _ _ _ _ _ _ g2 (by omega) (fun j j1 j2 => (fr2 j (by omega) (by omega)).trans (o2 j (by omega))) (fun j j1 j2 => ?_), ?_⟩
                        · rw [v4 s (by omega), o4 s (by omega)]
                        · rw [v4 j (by omega), o4 j (by omega)]
                        · rw [if_neg (by rw [he]; decide), if_neg c4]
                          refine ⟨?_, fun cc => absurd cc c4, ?_⟩
                          · rw [fr2 c (by omega) (by omega), o2 c (by omega)]
                            exact w1
                          · rw [CSX, if_neg (by omega), if_neg (by omega), if_pos rfl]
                            refine ⟨d, ?_, CSX.fr _ 0 _ _ _ _ _ (by omega) o1 (fun j j1 j2 => fr2 j (by omega) (by rw [if_neg (by omega)] at j1; omega)) (fun c => absurd c (by omega)) (fun j j1 j2 => v4 j (by have : szS T y1 (szM 0) = szS T y1 0 := rfl; omega)), pk_us, CSX.fr _ 0 _ _ _ _ _ (by omega) v1 (fun j j1 j2 => fr3 j (by rw [if_neg (by omega)] at j1; omega)) (fun c => absurd c (by omega)) (fun j j1 j2 => rfl)⟩
                            rw [show c + 2 - 1 = c + 1 by omega, fr3 _ (by omega), v2 _ (by omega)]
                            exact pk_us
                      · rw [fr2 j (by omega) (by omega), o2 j (by omega), g3 j hj]
                      · rw [eS] at hj
                        rw [v3 j (by omega), pk_un (by omega), o3 j (by omega), g4 j (by omega)]
                      · rw [eS] at hj
                        rw [v4 j (by omega), o4 j (by omega), g5 j (by omega)]
                    · obtain ⟨g1, g2, g3, g4, g5, g6, g7⟩ := hg1
                      have l1 := g1.le
                      have l2 := CX.le _ _ _ _ _ _ g2
                      rw [he, Bool.or_true] at js2 js3
                      have dq : decide (0 < q + 1) = true := decide_eq_true (by omega)
                      refine ih y1 0 (s + sz T x + 2) (h + 1) (c + 4) (q + 1) (t1 + 2) t2 (bh - 1) F1 M1 ti1 ba1 post (by omega) (by omega) wy.1 xa d1 jy.1 (by omega) (by omega) (by omega) (by rw [dq]; exact js2) (by omega) (by omega) (g7.mono (by omega)) hF1 (fun M2 ti2 ba2 d g8 F2 hF2 => ?_)
                      obtain ⟨o1, o2, o3, o4, o5, o6⟩ := g8
                      have l3 := CSX.le _ _ _ _ _ _ _ o1
                      rw [dq] at o1
                      refine wn_go hz (by omega) (by omega) (k_elseS hz (th := s + sz T x + 1) (by omega) d2 d3 (by omega) (by rw [jsc, he]) (by omega) (by omega) ?_)
                      refine ih y2 0 (s + sz T x + 2 + szS T y1 0 + 1) (h + 1) (d + 2) (q + 1) (t2 + 3) (t' - 1) (bh - 1) (F2 - 1) _ _ ba2 post (by omega) (by omega) wy.2 xb d5 jy.2 (by omega) (by omega) (by omega) (by rw [dq]; exact js3) (by omega) (by omega) (o6.mono (by omega)) (by omega) (fun M3 ti3 ba3 b g9 F3 hF3 => ?_)
                      obtain ⟨v1, v2, v3, v4, v5, v6⟩ := g9
                      have l4 := CSX.le _ _ _ _ _ _ _ v1
                      rw [dq] at v1
                      have ek : z.1.2.1.1.2 (s + sz T x + 2 + szS T y1 0 + 1 + szS T y2 0) = 20 := by
                        rw [show s + sz T x + 2 + szS T y1 0 + 1 + szS T y2 0 = s + sz T x + 2 + (szS T y1 0 + szS T y2 0 + 1) by omega]
                        exact b5.1
                      have evv : z.1.2.1.2.2.1 (s + sz T x + 2 + szS T y1 0 + 1 + szS T y2 0) = nI (s + sz T x + 1) := by
                        rw [show s + sz T x + 2 + szS T y1 0 + 1 + szS T y2 0 = s + sz T x + 2 + (szS T y1 0 + szS T y2 0 + 1) by omega]
                        exact b5.2.2
                      refine wn_go hz (by omega) (by omega) (k_endS hz (th := s + sz T x + 1) (by omega) ek evv (by omega) (by rw [jsc, he]) (by omega) ?_)
                      have fr3 : ∀ j, j < b → (upd M3 b (wL 3 0 (nI (1200 + 4 * h)))) j = M3 j := fun j hj => pk_un (by omega)
                      have fr2 : ∀ j, j < d → (upd M3 b (wL 3 0 (nI (1200 + 4 * h)))) j = M2 j := fun j hj => (fr3 j (by omega)).trans ((v2 j (by omega)).trans ((pk_un (by omega)).trans (pk_un (by omega))))
                      have := hY (upd M3 b (wL 3 0 (nI (1200 + 4 * h)))) ti3 ba3 (b + 1) ⟨?_, fun j hj => ?_, fun j hj => ?_, fun j hj => ?_, by rw [eW]; omega, v6.mono (by omega)⟩ (F3 - 1) (by omega)
                      · rw [eS, show s + (sz T x + (szS T y1 0 + szS T y2 0 + 1) + 3) = s + sz T x + 2 + szS T y1 0 + 1 + szS T y2 0 + 1 by omega] at this
                        exact this
                      · rw [CSX, if_neg m0, if_pos m1, if_neg c0, if_neg c1, if_neg c2, if_neg c3]
                        refine ⟨a1, c, g1.fr (fun j j1 j2 => (fr2 j (by omega)).trans (o2 j (by omega))) ?_, CX.fr _ _ _ _ _ _ g2 (by omega) (fun j j1 j2 => (fr2 j (by omega)).trans (o2 j (by omega))) (fun j j1 j2 => ?_), ?_⟩
                        · rw [v4 s (by omega), o4 s (by omega)]
                        · rw [v4 j (by omega), o4 j (by omega)]
                        · rw [if_pos he, if_neg c4, fr2 c (by omega), o2 c (by omega), fr2 (c + 1) (by omega), o2 (c + 1) (by omega), fr2 (c + 2) (by omega), o2 (c + 2) (by omega), fr2 (c + 3) (by omega), o2 (c + 3) (by omega)]
                          refine ⟨w1.1, w1.2.1, w1.2.2.1, w1.2.2.2, b, ?_, pk_us, rfl⟩
                          rw [CSX, if_neg (by omega), if_neg (by omega), if_neg (by omega)]
                          refine ⟨d, CSX.fr _ 0 _ _ _ _ _ (by omega) o1 (fun j j1 j2 => fr2 j (by omega)) (fun c => absurd c (by omega)) (fun j j1 j2 => v4 j (by have : szS T y1 (szM 0) = szS T y1 0 := rfl; omega)), ?_, ?_, CSX.fr _ 0 _ _ _ _ _ (by omega) v1 (fun j j1 j2 => fr3 j (by omega)) (fun c => absurd c (by omega)) (fun j j1 j2 => rfl)⟩
                          · rw [fr3 d (by omega), v2 d (by omega), pk_un (by omega)]
                            exact pk_us
                          · rw [fr3 (d + 1) (by omega), v2 (d + 1) (by omega)]
                            exact pk_us
                      · rw [fr2 j (by omega), o2 j (by omega), g3 j hj]
                      · rw [eS] at hj
                        rw [v3 j (by omega), o3 j (by omega), g4 j (by omega)]
                      · rw [eS] at hj
                        rw [v4 j (by omega), o4 j (by omega), g5 j (by omega)]
end CStmt
