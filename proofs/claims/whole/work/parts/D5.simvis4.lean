section SimV4
variable {ι : Type}
theorem vis_if {T : TX} {N u n : Nat} {g : List DD} {M B : Nat → Int32} {σ4 : SX4} (i0 : ι) (hv : GV T N g) (hK : KOK T g M) (hu3 : u ≤ 3000) (ih : SVIS ι i0 T N u g M B σ4 n) {p s a b st nn t t' bh : Nat} {x y : Tr} {m r : ι → Nat → Int32} {Sf : ι → SR} (hp45 : p % 8 = 4 ∨ p % 8 = 5) (hty : tsz y < n) (hwx : WF T N x) (hwy : WFS T N y (if p % 8 = 4 then 0 else 2)) (hrx : rh x ≤ 112) (hxy : XS T y (if p % 8 = 4 then 0 else 2) t t' bh) (hbh : bh ≤ 31) (b1 : nk σ4 s 17 (PL T (p / 8))) (b2 : CS T σ4 x (s + sz T x)) (b4 : CB T σ4 y (if p % 8 = 4 then 0 else 2) (s + sz T x + 2)) (hj : ∃ sx, je T g false x = .ok sx ∧ js T g y (if p % 8 = 4 then 0 else 2) (false || sx) = .ok ())
    (hcx : ∃ a1 c, STP M B false s a a1 ∧ CX T g M B x (s + sz T x) 0 0 a1 c ∧ (if esc T g x = true then M c = wS 3 0 (1200 + 4 * 0) ∧ M (c + 1) = wI 3 6 6 (nI 1) ∧ M (c + 2) = wI 0 6 6 (-1) ∧ M (c + 3) = wR 0 7 3 3 6 ∧ ∃ d, CSX T g M B y (if p % 8 = 4 then 0 else 3) (s + sz T x + 2) true (0 + 1) (c + 4) d ∧ M d = wL 3 0 (nI (1200 + 4 * 0)) ∧ b = d + 1
        else M c = wB (nI 1) (nI 6) (nI 0) 8 ∧ (p % 8 = 4 → M (c + 1) = wJ 0 (nI (4 * b) - nI (4 * (c + 1)))) ∧ CSX T g M B y (if p % 8 = 4 then 0 else 2) (s + sz T x + 2) false 0 (c + 2) b)) (hu : s + (sz T x + szS T y (if p % 8 = 4 then 0 else 2) + 3) ≤ u)
    (hl : LW T g Sf st nn) (hst : st ≤ 2000) (hn : nn ≤ 100) (hm : MRw M Sf m r) (h3 : ∀ i, r i 3 = -1) (ha : 532 + 10 * nrw g ≤ a) (hb : b ≤ 4090) : FX (6 * (b - a) + 21600 * (st - (rs T g (.branch p x y) 1 false (Sf i0)).2.1)) m r a (VQ T g u σ4.1.2.1 B M b (fun i => rs T g (.branch p x y) 1 false (Sf i))) := by
  obtain ⟨sx, k1, k2⟩ := hj
  rw [Bool.false_or] at k2
  have hsx := je_esc x sx k1
  obtain ⟨a1, c, g1, g2, g3⟩ := hcx
  have l1 := g1.le
  have l2 := CX.le _ _ _ _ _ _ g2
  have px := sz_pos T x
  have l3 : c + 1 ≤ b := by
    split at g3
    · obtain ⟨_, _, _, _, d, q5, _, q7⟩ := g3
      have := CSX.le _ _ _ _ _ _ _ q5
      omega
    · have := CSX.le _ _ _ _ _ _ _ g3.2.2
      omega
  have a1e : a1 = a + 1 := by unfold STP at g1; rw [if_neg (by decide)] at g1; exact g1.2.1
  have rsle := rs_st (T := T) (g := g) (.branch p x y) 1 false (Sf i0)
  rw [hl.2.1 i0] at rsle
  by_cases e0 : st = 0
  · refine FX.le (vis_stepF (u := u) (nb := 0) hK.1 g1 b1.2 (by omega) hl hst hn hm h3 (by omega) (by omega) (fun e r' q1 q0 q2 q3 => ?_) (fun e => absurd e (by omega))) (by omega)
    exact VQ.end (b := b) q2 q1 q0 q3 (fun i => rs_stop (hl.2.2.2 i) (q1 i))
  · refine FX.le (vis_stepF (u := u) (nb := 6 * (c - a1) + (6 * (b - c) + 1 + 21600 * (st - 1 - (rs T g (.branch p x y) 1 false (Sf i0)).2.1))) hK.1 g1 b1.2 (by omega) hl hst hn hm h3 (by omega) (by omega) (fun e r' q1 q0 q2 q3 => absurd e e0) (fun e r' q1 q2 q3 q4 => ?_)) (by omega)
    have go : ∀ i, rs T g (.branch p x y) 1 false (Sf i) = (match ev T g (stepS false (p / 8) (Sf i)).1 x with
      | .error z => failS (stepS false (p / 8) (Sf i)) 1 z
      | .ok v => if p % 8 = 4 then (if v = 0 then stepS false (p / 8) (Sf i) else rs T g y 0 sx (stepS false (p / 8) (Sf i))) else rs T g y (if v = 0 then 3 else 2) sx (stepS false (p / 8) (Sf i))) := by
      intro i
      rw [rs_go (hl.2.2.2 i) rfl (q1.2.2.2 i), if_neg (by omega), if_neg (by omega), if_neg (by omega), if_neg (by omega), Bool.false_or, ← hsx]
      rfl
    have S1t : ∀ i, stepS false (p / 8) (Sf i) = ((stepS false (p / 8) (Sf i)).1, (stepS false (p / 8) (Sf i)).2.1, (stepS false (p / 8) (Sf i)).2.2.1, none) := by
      intro i
      have : (stepS false (p / 8) (Sf i)).2.2.2 = none := q1.2.2.2 i
      rw [← this]
    have s1e : (stepS false (p / 8) (Sf i0)).2.1 = st - 1 := q1.2.1 i0
    refine vis_ex hv hK hu3 hwx k1 g2 b2 (by omega) hrx (by omega) q1 q2 hn (by omega) (by omega) (fun tt m' r'' p' z1 z2 z4 z3 => ?_) (fun v m' r'' z1 z2 z3 z4 z5 => ?_)
    · exact VQ.end (b := b) z2 (fun i => rfl) z4 z3 (fun i => by rw [go i, z1 i])
    · obtain ⟨o1, o2, o3, o4, o5, o6⟩ := id z3
      by_cases he : esc T g x = true
      · rw [if_pos he] at g3
        have es : sx = true := hsx.trans he
        subst es
        refine FX.le (FX.mono (sim_sif (n := n) (mk := fun _ => -1) hv (sim_hid i0 hv hK hu3 n) hty hp45 hwy hxy b4 k2 g3 (by omega) (by omega) q1.1 o1 o2 o4 (fun i => by rw [z5 i, q4 i]) (fun _ => Or.inr rfl) z2 (by omega) hb) (fun m3 r3 p3 hQ => ?_)) (by omega)
        obtain ⟨y1, y2, y3, y4⟩ := hQ
        have mk1 : ∀ i k, k < 200 → m3 i k = hIf T g p y (v i) (stepS false (p / 8) (Sf i)).1 k := by
          intro i k hk
          rw [y3 i k hk]
          show mkE (-1) _ _ k = _
          rw [mkE_1 (by decide)]
        have hw1 : ∀ mm, mm = (if p % 8 = 4 then 0 else 2) → WFS T N y mm ∧ js T g y mm true = .ok () := fun mm e => by rw [e]; exact ⟨hwy, k2⟩
        have hh : ∀ i, rs T g (.branch p x y) 1 false (Sf i) = (hIf T g p y (v i) (stepS false (p / 8) (Sf i)).1, (stepS false (p / 8) (Sf i)).2.1, (stepS false (p / 8) (Sf i)).2.2.1, none) ∧ ∀ w, pw T g w → hIf T g p y (v i) (stepS false (p / 8) (Sf i)).1 w = (stepS false (p / 8) (Sf i)).1 w := by
          intro i
          rw [go i, z1 i]
          dsimp only
          unfold hIf
          by_cases c4 : p % 8 = 4
          · rw [if_pos c4, if_pos c4]
            rw [if_pos c4] at hw1
            by_cases v0 : v i = 0
            · rw [if_pos v0, if_pos v0]
              exact ⟨S1t i, fun _ _ => rfl⟩
            · rw [if_neg v0, if_neg v0]
              obtain ⟨h1, h2⟩ := rs_hid hv y 0 (by omega) (hw1 0 rfl).1 (hw1 0 rfl).2 (stepS false (p / 8) (Sf i)).1
              refine ⟨?_, h2⟩
              have := h1 (stepS false (p / 8) (Sf i)).2.1 (stepS false (p / 8) (Sf i)).2.2.1
              rw [← S1t i] at this
              exact this
          · rw [if_neg c4, if_neg c4]
            rw [if_neg c4] at hw1
            obtain ⟨h1, h2⟩ := rs_hid hv y (if v i = 0 then 3 else 2) (by split <;> omega) (by rw [show szM (if v i = 0 then 3 else 2) = 2 by split <;> rfl]; exact (hw1 2 rfl).1) (by rw [show szM (if v i = 0 then 3 else 2) = 2 by split <;> rfl]; exact (hw1 2 rfl).2) (stepS false (p / 8) (Sf i)).1
            refine ⟨?_, h2⟩
            have := h1 (stepS false (p / 8) (Sf i)).2.1 (stepS false (p / 8) (Sf i)).2.2.1
            rw [← S1t i] at this
            exact this
        have eS : (fun i => rs T g (.branch p x y) 1 false (Sf i)) = (fun i => (hIf T g p y (v i) (stepS false (p / 8) (Sf i)).1, (stepS false (p / 8) (Sf i)).2.1, (stepS false (p / 8) (Sf i)).2.2.1, none)) := funext (fun i => (hh i).1)
        rw [eS]
        refine ⟨⟨fun i j j1 j2 => (y2 i j (by omega)).trans (o1 i j j1 j2), mk1, fun i k hk => ?_, fun i => (y4 i 0 (by omega)).trans (o4 i), fun i => (y4 i 2 (by omega)).trans (o5 i), fun i => (y4 i 4 (by omega)).trans (o6 i)⟩, Or.inl ⟨st - 1, nn, ⟨?_, q1.2.1, q1.2.2.1, fun _ => rfl⟩, by omega, hn, fun i => ?_, y1⟩⟩
        · have hk : k < (stepS false (p / 8) (Sf i)).2.2.1.length := hk
          have hk2 : (stepS false (p / 8) (Sf i)).2.2.1.length = nn := q1.2.2.1 i
          exact (y2 i _ (by omega)).trans (o3 i k hk)
        · intro w hw i j
          show hIf _ _ _ _ _ _ w = hIf _ _ _ _ _ _ w
          rw [(hh i).2 w hw, (hh j).2 w hw]
          exact q1.1 w hw i j
        · rw [y4 i 3 (by omega), z5 i, q4 i]
      · rw [if_neg he] at g3
        have es : sx = false := by
          rw [hsx]
          cases hq : esc T g x with
          | true => exact absurd hq he
          | false => rfl
        subst es
        obtain ⟨w1, w2, w3⟩ := g3
        have l4 := CSX.le _ _ _ _ _ _ _ w3
        obtain ⟨vz, hvz⟩ := ev_com hv q1.1 k1 z1
        have r3m : ∀ i, r'' i 3 = -1 := fun i => by rw [z5 i, q4 i]
        refine FX.seq (a := 1) (b := 6 * (b - c) + 21600 * (st - 1 - (rs T g (.branch p x y) 1 false (Sf i0)).2.1)) (sim_way (v := vz) (Q := fun mm rr pp => mm = m' ∧ rr = r'' ∧ pp = if vz = 0 then c + 1 else c + 2) w1 o1 (by omega) (by omega) o4 (fun i => by rw [z2 i, hvz i]) ⟨rfl, rfl, rfl⟩) (fun mm rr pp hQ => ?_) (by omega)
        obtain ⟨f1, f2, f3⟩ := hQ
        rw [f1, f2, f3]
        have go2 : ∀ i, rs T g (.branch p x y) 1 false (Sf i) = if p % 8 = 4 then (if vz = 0 then stepS false (p / 8) (Sf i) else rs T g y 0 false (stepS false (p / 8) (Sf i))) else rs T g y (if vz = 0 then 3 else 2) false (stepS false (p / 8) (Sf i)) := by
          intro i
          rw [go i, z1 i]
          dsimp only
          rw [hvz i]
        by_cases c4 : p % 8 = 4
        · rw [if_pos c4] at w3 hwy hxy b4 k2 hu
          by_cases v0 : vz = 0
          · rw [if_pos v0]
            refine FX.le (a := 1) (sim_jmp (a := b) (w2 c4) o1 (by omega) (by omega) (by omega) (by omega) ?_) (by omega)
            have eS : (fun i => rs T g (.branch p x y) 1 false (Sf i)) = (fun i => stepS false (p / 8) (Sf i)) := by
              funext i
              rw [go2 i, if_pos c4, if_pos v0]
            rw [eS]
            exact ⟨z3, Or.inl ⟨st - 1, nn, q1, by omega, hn, r3m, rfl⟩⟩
          · rw [if_neg v0]
            have go3 : ∀ i, rs T g (.branch p x y) 1 false (Sf i) = rs T g y 0 false (stepS false (p / 8) (Sf i)) := by
              intro i
              rw [go2 i, if_pos c4, if_neg v0]
            have eS : (fun i => rs T g (.branch p x y) 1 false (Sf i)) = (fun i => rs T g y 0 false (stepS false (p / 8) (Sf i))) := funext go3
            rw [eS, go3 i0]
            exact FX.le (ih y 0 (s + sz T x + 2) (c + 2) b t t' bh m' r'' (fun i => stepS false (p / 8) (Sf i)) (st - 1) nn hty (by omega) hwy hxy hbh b4 k2 w3 (by omega) q1 (by omega) hn z3 r3m (by omega) hb) (by omega)
        · rw [if_neg c4] at w3 hwy hxy b4 k2 hu
          cases y with
          | leaf vv => exact absurd (show (2 : Nat) = 0 from hwy) (by omega)
          | branch pz y1 y2 =>
            rw [tsz] at hty
            rw [WFS, if_neg (by omega), if_neg (by omega)] at hwy
            rw [XS, if_neg (by omega), if_neg (by omega)] at hxy
            rw [CB, if_neg (by omega), if_neg (by omega)] at b4
            rw [CSX, if_neg (by omega), if_neg (by omega), if_pos rfl] at w3
            have eS2 : szS T (.branch pz y1 y2) 2 = szS T y1 0 + szS T y2 0 + 1 := by rw [szS, if_neg (by omega), if_neg (by omega)]
            rw [eS2] at hu
            obtain ⟨t2, xa, xb⟩ := hxy
            obtain ⟨d0, d1, d2, d3, d4, d5⟩ := b4
            obtain ⟨js2, js3⟩ := js_2 k2
            obtain ⟨dd, x0, x1, x2, x3⟩ := w3
            rw [show c + 2 - 1 = c + 1 by omega] at x0
            have l5 := CSX.le _ _ _ _ _ _ _ x1
            have l6 := CSX.le _ _ _ _ _ _ _ x3
            by_cases v0 : vz = 0
            · rw [if_pos v0]
              have go3 : ∀ i, rs T g (.branch p x (.branch pz y1 y2)) 1 false (Sf i) = rs T g y2 0 false (stepS false (p / 8) (Sf i)) := by
                intro i
                rw [go2 i, if_neg c4, if_pos v0, rs, if_neg (by omega), if_neg (by omega), if_neg (by omega)]
              have eS : (fun i => rs T g (.branch p x (.branch pz y1 y2)) 1 false (Sf i)) = (fun i => rs T g y2 0 false (stepS false (p / 8) (Sf i))) := funext go3
              rw [eS, go3 i0]
              refine FX.seq (a := 1) (b := 6 * (b - (dd + 1)) + 21600 * (st - 1 - (rs T g y2 0 false (stepS false (p / 8) (Sf i0))).2.1)) (sim_jmp (a := dd + 1) (Q := fun mm rr pp => mm = m' ∧ rr = r'' ∧ pp = dd + 1) x0 o1 (by omega) (by omega) (by omega) (by omega) ⟨rfl, rfl, rfl⟩) (fun mm rr pp hQ => ?_) ?_
              · obtain ⟨f1, f2, f3⟩ := hQ
                rw [f1, f2, f3]
                exact ih y2 0 (s + sz T x + 2 + szS T y1 0 + 1) (dd + 1) b (t2 + 3) t' bh m' r'' (fun i => stepS false (p / 8) (Sf i)) (st - 1) nn (by omega) (by omega) hwy.2 xb hbh d5 js3 x3 (by omega) q1 (by omega) hn z3 r3m (by omega) hb
              · omega
            · rw [if_neg v0]
              have go3 : ∀ i, rs T g (.branch p x (.branch pz y1 y2)) 1 false (Sf i) = rs T g y1 0 false (stepS false (p / 8) (Sf i)) := by
                intro i
                rw [go2 i, if_neg c4, if_neg v0, rs, if_neg (by omega), if_neg (by omega), if_pos rfl]
              have eS : (fun i => rs T g (.branch p x (.branch pz y1 y2)) 1 false (Sf i)) = (fun i => rs T g y1 0 false (stepS false (p / 8) (Sf i))) := funext go3
              rw [eS, go3 i0]
              refine FX.seq (b := 1) (ih y1 0 (s + sz T x + 2) (c + 2) dd t t2 bh m' r'' (fun i => stepS false (p / 8) (Sf i)) (st - 1) nn (by omega) (by omega) hwy.1 xa hbh d1 js2 x1 (by omega) q1 (by omega) hn z3 r3m (by omega) (by omega)) (fun m5 r5 p5 hQ => ?_) (by omega)
              obtain ⟨mw, ok | en⟩ := hQ
              · obtain ⟨st2, n2', lw2, hst2, hn2', r53, ep⟩ := ok
                rw [ep]
                exact sim_jmp (a := b) x2 mw.1 (by omega) (by omega) (by omega) (by omega) ⟨mw, Or.inl ⟨st2, n2', lw2, hst2, hn2', r53, rfl⟩⟩
              · exact FX.le (a := 0) (FX.nil ⟨mw, Or.inr en⟩) (Nat.zero_le _)
/-- the machine does what statements say -/
theorem sim_vis {T : TX} {N u : Nat} {g : List DD} {M B : Nat → Int32} {σ4 : SX4} (i0 : ι) (hv : GV T N g) (hK : KOK T g M) (hu3 : u ≤ 3000) : ∀ n, SVIS ι i0 T N u g M B σ4 n := by
  intro n
  induction n with
  | zero => intro e md s a b t t' bh m r Sf st nn hn; exact absurd hn (by omega)
  | succ n ih =>
    intro e md s a b t t' bh m r Sf st nn hn hmd hwf hxs hbh hcb hj hcx hu hl hst hnn hm h3 ha hb
    cases e with
    | leaf x =>
      rw [CSX] at hcx
      exact FX.le (a := 0) (FX.nil ⟨hm, Or.inl ⟨st, nn, hl, hst, hnn, h3, hcx⟩⟩) (Nat.zero_le _)
    | branch p x y =>
      have px := sz_pos T x
      have tx := tsz_pos x
      have ty := tsz_pos y
      rw [tsz] at hn
      by_cases m0 : md = 0
      · subst m0
        rw [WFS, if_pos rfl] at hwf
        rw [XS, if_pos rfl] at hxs
        rw [CB, if_pos rfl] at hcb
        rw [CSX, if_pos rfl] at hcx
        have eS : szS T (.branch p x y) 0 = szS T x 1 + szS T y 0 := by rw [szS, if_pos rfl]
        rw [eS] at hu
        obtain ⟨t1, x1, x2⟩ := hxs
        obtain ⟨j1, j2⟩ := js_0 hj
        obtain ⟨c, g1, g2⟩ := hcx
        have l1 := CSX.le _ _ _ _ _ _ _ g1
        have l2 := CSX.le _ _ _ _ _ _ _ g2
        have go : ∀ i, rs T g (.branch p x y) 0 false (Sf i) = rs T g y 0 false (rs T g x 1 false (Sf i)) := by
          intro i
          rw [rs, if_pos rfl]
        have eSf : (fun i => rs T g (.branch p x y) 0 false (Sf i)) = (fun i => rs T g y 0 false (rs T g x 1 false (Sf i))) := funext go
        rw [eSf, go i0]
        have s1 := rs_st (T := T) (g := g) x 1 false (Sf i0)
        rw [hl.2.1 i0] at s1
        have s2 := rs_st (T := T) (g := g) y 0 false (rs T g x 1 false (Sf i0))
        refine FX.seq (b := 6 * (b - c) + 21600 * ((rs T g x 1 false (Sf i0)).2.1 - (rs T g y 0 false (rs T g x 1 false (Sf i0))).2.1)) (ih x 1 s a c t t1 bh m r Sf st nn (by omega) (by omega) hwf.1 x1 hbh hcb.1 j1 g1 (by omega) hl hst hnn hm h3 ha (by omega)) (fun m1 r1 p1 hQ => ?_) (by omega)
        obtain ⟨mw, ok | en⟩ := hQ
        · obtain ⟨st2, n2', lw2, hst2, hn2', r53, ep⟩ := ok
          rw [ep]
          have est : st2 = (rs T g x 1 false (Sf i0)).2.1 := (lw2.2.1 i0).symm
          have := ih y 0 (s + szS T x 1) c b t1 t' bh m1 r1 (fun i => rs T g x 1 false (Sf i)) st2 n2' (by omega) (by omega) hwf.2 x2 hbh hcb.2 j2 g2 (by omega) lw2 hst2 hn2' mw r53 (by omega) hb
          rw [est] at this
          exact this
        · obtain ⟨cc, tt, e1, e2, e3⟩ := en
          exact FX.le (a := 0) (FX.nil (VQ.end (b := b) mw e1 e2 e3 (fun i => rs_end y 0 false _ (e1 i)))) (Nat.zero_le _)
      · have m1 : md = 1 := by omega
        subst m1
        have hj0 := hj
        rw [WFS, if_neg m0, if_pos rfl] at hwf
        rw [XS, if_neg m0, if_pos rfl] at hxs
        rw [CB, if_neg m0, if_pos rfl] at hcb
        rw [CSX, if_neg m0, if_pos rfl] at hcx
        have eS : szS T (.branch p x y) 1 = if p % 8 = 0 then sz T x + 2 else if p % 8 = 1 then sz T x + sz T y + 3 else if p % 8 = 2 then sz T x + 2 else if p % 8 = 3 then sz T x + szS T y 0 + 4 else if p % 8 = 4 then sz T x + szS T y 0 + 3 else sz T x + szS T y 2 + 3 := by rw [szS, if_neg m0, if_pos rfl]
        obtain ⟨_, hwf⟩ := hwf
        obtain ⟨_, hxs⟩ := hxs
        by_cases c0 : p % 8 = 0
        · rw [if_pos c0] at hwf hxs hcb hcx eS
          rw [eS] at hu
          refine FX.le (vis_put (n := n) (t := t) (nb := 0) hv hK hu3 c0 hwf hxs ⟨hcb.1, hcb.2.1⟩ hj ?_ hu hl hst hnn hm h3 ha hb) (by omega)
          obtain ⟨a1, c, g1, g2, g3⟩ := hcx
          rw [if_neg (by decide)] at g3
          exact ⟨a1, c, g1, g2, g3.1, g3.2⟩
        · rw [if_neg c0] at hwf hxs hcb hcx eS
          by_cases c1 : p % 8 = 1
          · rw [if_pos c1] at hwf hxs hcb hcx eS
            rw [eS] at hu
            obtain ⟨t1, xs1, xs2⟩ := hxs
            exact FX.le (vis_putin (n := n) hv hK hu3 c1 hwf.2.2.2.1 hwf.2.2.2.2 xs1.2.1 xs2.2.1 ⟨hcb.1, hcb.2.1, hcb.2.2.1.2.1, hcb.2.2.2.1⟩ hj hcx hu hl hst hnn hm h3 ha hb) (by omega)
          · rw [if_neg c1] at hwf hxs hcb hcx eS
            by_cases c2 : p % 8 = 2
            · rw [if_pos c2] at hwf hxs hcb hcx eS
              rw [eS] at hu
              exact FX.le (vis_out (n := n) (t' := t') hv hK hu3 c2 hwf.2 hxs.2.1 hcb hj hcx hu hl hst hnn hm h3 ha hb) (by omega)
            · rw [if_neg c2] at hwf hxs hcb hcx eS
              by_cases c3 : p % 8 = 3
              · rw [if_pos c3] at hwf hxs hcb hcx eS
                rw [eS] at hu
                obtain ⟨t1, xs1, xs0, xs2⟩ := hxs
                obtain ⟨b1, b2, b3, b4, b5, b6⟩ := hcb
                exact vis_while i0 hv hK hu3 ih c3 (by omega) hwf.2.1 hwf.2.2 xs1.2.1 xs2 (by omega) b1 b2 b3 b5 hj hcx hu hl hst hnn hm h3 ha hb
              · rw [if_neg c3] at hwf hxs hcb hcx eS
                have eS' : szS T (.branch p x y) 1 = sz T x + szS T y (if p % 8 = 4 then 0 else 2) + 3 := by
                  rw [eS]
                  split <;> rfl
                rw [eS'] at hu
                by_cases c4 : p % 8 = 4
                · rw [if_pos c4] at hwf hxs hcb
                  obtain ⟨t1, xs1, xs0, xs2⟩ := hxs
                  obtain ⟨b1, b2, b3, b4, b5⟩ := hcb
                  exact vis_if i0 hv hK hu3 ih (Or.inl c4) (by omega) hwf.2.1 (by rw [if_pos c4]; exact hwf.2.2) xs1.2.1 (by rw [if_pos c4]; exact xs2) (by omega) b1 b2 (by rw [if_pos c4]; exact b4) (by rw [if_pos c4]; exact js_if c4 hj) hcx hu hl hst hnn hm h3 ha hb
                · rw [if_neg c4] at hwf hxs hcb
                  obtain ⟨t1, xs1, xs0, xs2⟩ := hxs
                  obtain ⟨b1, b2, b3, b4, b5⟩ := hcb
                  exact vis_if i0 hv hK hu3 ih (Or.inr hwf.1) (by omega) hwf.2.2.1 (by rw [if_neg c4]; exact hwf.2.2.2) xs1.2.1 (by rw [if_neg c4]; exact xs2) (by omega) b1 b2 (by rw [if_neg c4]; exact b4) (by rw [if_neg c4]; exact js_ife hwf.1 hj) hcx hu hl hst hnn hm h3 ha hb
end SimV4
