section SimV2
variable {ι : Type}
theorem vis_stepF {T : TX} {g : List DD} {u : Nat} {pl B M : Nat → Int32} {Sf : ι → SR} {m r : ι → Nat → Int32} {a a1 s t st n nb : Nat} {Q : (ι → Nat → Int32) → (ι → Nat → Int32) → Nat → Prop} (hK : KStep M) (hs : STP M B false s a a1) (hpl : pl s = nI (PL T t)) (hsu : s < u) (hl : LW T g Sf st n) (hst : st ≤ 2000) (hn : n ≤ 100) (hm : MRw M Sf m r) (h3 : ∀ i, r i 3 = -1) (ha : 530 ≤ a) (ha2 : a < 4095)
    (h0 : st = 0 → ∀ r', (∀ i, (stepS false t (Sf i)).2.2.2 = some (2, t)) → (∀ i, (stepS false t (Sf i)).2.2.1.length ≤ 100) → MRw M (fun i => stepS false t (Sf i)) m r' → ENQ T u pl B M 2 t r' 518 → Q m r' 518)
    (h1 : 0 < st → ∀ r', LW T g (fun i => stepS false t (Sf i)) (st - 1) n → MRw M (fun i => stepS false t (Sf i)) m r' → (∀ i, (stepS false t (Sf i)).1 = (Sf i).1) → (∀ i, r' i 3 = -1) → FX nb m r' a1 Q) : FX (4 + nb) m r a Q := by
  have len : ∀ i, (stepS false t (Sf i)).2.2.1.length ≤ 100 := by
    intro i
    have : (stepS false t (Sf i)).2.2.1 = (Sf i).2.2.1 := by
      unfold stepS
      rw [if_neg (by decide)]
      split <;> rfl
    rw [this, hl.2.2.1 i]
    exact hn
  refine FX.seq (a := 4) (b := nb) (P := fun m' r' p' => (∃ Z : Prop, Z ∧ (Z → Q m' r' p')) ∨ (0 < st ∧ m' = m ∧ p' = a1 ∧ LW T g (fun i => stepS false t (Sf i)) (st - 1) n ∧ MRw M (fun i => stepS false t (Sf i)) m r' ∧ (∀ i, (stepS false t (Sf i)).1 = (Sf i).1) ∧ (∀ i, r' i 3 = -1))) (vis_step hK hs hpl hsu hl hst hn hm h3 ha ha2 (fun e r' k1 k2 k3 => Or.inl ⟨True, trivial, fun _ => h0 e r' k1 len k2 k3⟩) (fun e r' k1 k2 k3 k4 => Or.inr ⟨e, rfl, rfl, k1, k2, k3, k4⟩)) (fun m' r' p' hQ => ?_) (Nat.le_refl _)
  rcases hQ with ⟨Z, hZ, hq⟩ | ⟨e, e1, e2, k1, k2, k3, k4⟩
  · exact FX.le (a := 0) (FX.nil (hq hZ)) (Nat.zero_le _)
  · rw [e1, e2]
    exact h1 e r' k1 k2 k3 k4
theorem PE_up {T : TX} {N : Nat} {g : List DD} (hv : GV T N g) {E : ι → Nat → Int32} (hPE : PE T g E) {k j : Nat} {v : ι → Int32} (hk : k < g.length) (hj : j < dsz T (gx g k)) (h : dsec T (gx g k) = true ∨ ∃ x, ∀ i, v i = x) : PE T g (fun i => upd (E i) (fw T g k + j) (v i)) := by
  intro w hw i i'
  show upd (E i) _ _ w = upd (E i') _ _ w
  by_cases e : w = fw T g k + j
  · rcases h with h | ⟨x, h⟩
    · exact absurd e (pw_ne hk h hj hw)
    · rw [e, pk_us, pk_us, h i, h i']
  · rw [pk_un e, pk_un e]
    exact hPE w hw i i'
def SVIS (ι : Type) (i0 : ι) (T : TX) (N u : Nat) (g : List DD) (M B : Nat → Int32) (σ4 : SX4) (n : Nat) : Prop := ∀ (e : Tr) (md s a b t t' bh : Nat) (m r : ι → Nat → Int32) (Sf : ι → SR) (st nn : Nat), tsz e < n → md ≤ 1 → WFS T N e md → XS T e md t t' bh → bh ≤ 31 → CB T σ4 e md s → js T g e md false = .ok () → CSX T g M B e md s false 0 a b → s + szS T e md ≤ u → LW T g Sf st nn → st ≤ 2000 → nn ≤ 100 → MRw M Sf m r → (∀ i, r i 3 = -1) → 532 + 10 * nrw g ≤ a → b ≤ 4090 →
    FX (6 * (b - a) + 21600 * (st - (rs T g e md false (Sf i0)).2.1)) m r a (VQ T g u σ4.1.2.1 B M b (fun i => rs T g e md false (Sf i)))
/-- a word is put -/
theorem vis_put {T : TX} {N u n : Nat} {g : List DD} {M B : Nat → Int32} {σ4 : SX4} (hv : GV T N g) (hK : KOK T g M) (hu3 : u ≤ 3000) {p s a b t t' st nn nb : Nat} {x y : Tr} {m r : ι → Nat → Int32} {Sf : ι → SR} (c0 : p % 8 = 0) (hwf : TK T (p / 8) = 2 ∧ WF T N x) (hxs : XE T x (p / 8 + 2) (t' - 1) hX) (hcb : nk σ4 s 13 (PL T (p / 8)) ∧ CS T σ4 x (s + sz T x)) (hj : js T g (.branch p x y) 1 false = .ok ()) (hcx : ∃ a1 c, STP M B false s a a1 ∧ CX T g M B x (s + sz T x) 0 0 a1 c ∧ M c = wS 6 0 (4 * fw T g (nmk T g (p / 8))) ∧ b = c + 1) (hu : s + (sz T x + 2) ≤ u)
    (hl : LW T g Sf st nn) (hst : st ≤ 2000) (hn : nn ≤ 100) (hm : MRw M Sf m r) (h3 : ∀ i, r i 3 = -1) (ha : 532 + 10 * nrw g ≤ a) (hb : b ≤ 4090) : FX (6 * (b - a)) m r a (VQ T g u σ4.1.2.1 B M b (fun i => rs T g (.branch p x y) 1 false (Sf i))) := by
  obtain ⟨a1, c, g1, g2, w1, eb⟩ := hcx
  have l1 := g1.le
  have l2 := CX.le _ _ _ _ _ _ g2
  have px := sz_pos T x
  obtain ⟨k, sx, k1, k2, k3⟩ := js_put c0 hj
  obtain ⟨t1, t2, t3⟩ := jt_ok k1
  have en : nmk T g (p / 8) = k := by rw [nmk, t1]; rfl
  rw [en] at w1
  have hkl := fdI_lt g _ k t1
  have n6 := wds_take (T := T) hkl
  have n6 : fw T g k + dsz T (gx g k) ≤ wds T g := n6
  have n7 := (hv.1 _ (gx_mem hkl)).2.1
  have n8 := hv.2
  have a1e : a1 = a + 1 := by unfold STP at g1; rw [if_neg (by decide)] at g1; exact g1.2.1
  refine FX.le (vis_stepF (u := u) (nb := 6 * (c - a1) + 1) hK.1 g1 hcb.1.2 (by omega) hl hst hn hm h3 (by omega) (by omega) (fun e r' q1 q0 q2 q3 => ?_) (fun e r' q1 q2 q3 q4 => ?_)) (by omega)
  · exact VQ.end (b := b) q2 q1 q0 q3 (fun i => rs_stop (hl.2.2.2 i) (q1 i))
  · have go : ∀ i, rs T g (.branch p x y) 1 false (Sf i) = (match ev T g (stepS false (p / 8) (Sf i)).1 x with
      | .error z => failS (stepS false (p / 8) (Sf i)) 1 z
      | .ok v => (upd (stepS false (p / 8) (Sf i)).1 (fw T g k) v, (stepS false (p / 8) (Sf i)).2)) := by
      intro i
      rw [rs_go (hl.2.2.2 i) rfl (q1.2.2.2 i), if_pos c0, en]
      rfl
    refine vis_ex hv hK hu3 hwf.2 k2 g2 hcb.2 (by omega) hxs.2.1 (by omega) q1 q2 hn (by omega) (by omega) (fun tt m' r'' p' z1 z2 z4 z3 => ?_) (fun v m' r'' z1 z2 z3 z4 z5 => ?_)
    · exact VQ.end (b := b) z2 (fun i => rfl) z4 z3 (fun i => by rw [go i, z1 i])
    · refine fx_sto (fr := 6) (base := 0) (d := 4 * fw T g k) (q := fw T g k) (by omega) (fun i => (z3.1 i c (by omega) (by omega)).trans w1) (by omega) (by omega) (by omega) (by omega) (fun i => by rw [z3.2.2.2.1 i]; exact Int32.zero_add _) ?_
      have eS : (fun i => rs T g (.branch p x y) 1 false (Sf i)) = (fun i => (upd (stepS false (p / 8) (Sf i)).1 (fw T g k) (v i), (stepS false (p / 8) (Sf i)).2)) := by
        funext i
        rw [go i, z1 i]
      rw [eS]
      obtain ⟨o1, o2, o3, o4, o5, o6⟩ := z3
      obtain ⟨p1, p2, p3, p4⟩ := q1
      refine ⟨⟨fun i j j1 j2 => (pk_un (by omega)).trans (o1 i j j1 j2), fun i kk hk => ?_, fun i kk hk => ?_, o4, o5, o6⟩, Or.inl ⟨st - 1, nn, ⟨?_, p2, p3, p4⟩, by omega, hn, fun i => by rw [z5 i, q4 i], eb.symm⟩⟩
      · show upd (m' i) (fw T g k) (r'' i 6) kk = upd (stepS false (p / 8) (Sf i)).1 (fw T g k) (v i) kk
        by_cases ek : kk = fw T g k
        · rw [ek, pk_us, pk_us, z2 i]
        · rw [pk_un ek, pk_un ek]
          exact o2 i kk hk
      · exact (pk_un (by omega)).trans (o3 i kk hk)
      · have := PE_up (j := 0) (v := v) hv p1 hkl (by omega) ?_
        · exact this
        · cases hd : dsec T (gx g k) with
          | true => exact Or.inl rfl
          | false =>
            refine Or.inr (ev_com hv p1 (w := false) (e := x) ?_ z1)
            cases sx with
            | false => exact k2
            | true =>
              have := k3 rfl
              rw [hd] at this
              cases this
theorem vis_out {T : TX} {N u n : Nat} {g : List DD} {M B : Nat → Int32} {σ4 : SX4} (hv : GV T N g) (hK : KOK T g M) (hu3 : u ≤ 3000) {p s a b t' st nn : Nat} {x y : Tr} {m r : ι → Nat → Int32} {Sf : ι → SR} (c2 : p % 8 = 2) (hwf : WF T N x) (hxs : rh x ≤ 112) (hcb : nk σ4 s 25 (PL T (p / 8)) ∧ CS T σ4 x (s + sz T x) ∧ nk σ4 (s + sz T x + 1) 26 (PL T (p / 8))) (hj : js T g (.branch p x y) 1 false = .ok ()) (hcx : ∃ a1 c, STP M B false s a a1 ∧ CX T g M B x (s + sz T x) 0 0 a1 c ∧ M c = wJ 1 (nI (4 * 523) - nI (4 * c)) ∧ b = c + 1 ∧ B (s + sz T x + 1) = nI (4 * b)) (hu : s + (sz T x + 2) ≤ u)
    (hl : LW T g Sf st nn) (hst : st ≤ 2000) (hn : nn ≤ 100) (hm : MRw M Sf m r) (h3 : ∀ i, r i 3 = -1) (ha : 532 + 10 * nrw g ≤ a) (hb : b ≤ 4090) : FX (6 * (b - a)) m r a (VQ T g u σ4.1.2.1 B M b (fun i => rs T g (.branch p x y) 1 false (Sf i))) := by
  obtain ⟨a1, c, g1, g2, w1, eb, w2⟩ := hcx
  have l1 := g1.le
  have l2 := CX.le _ _ _ _ _ _ g2
  have px := sz_pos T x
  obtain ⟨_, k2⟩ := js_out c2 hj
  have a1e : a1 = a + 1 := by unfold STP at g1; rw [if_neg (by decide)] at g1; exact g1.2.1
  refine FX.le (vis_stepF (u := u) (nb := 6 * (c - a1) + 6) hK.1 g1 hcb.1.2 (by omega) hl hst hn hm h3 (by omega) (by omega) (fun e r' q1 q0 q2 q3 => ?_) (fun e r' q1 q2 q3 q4 => ?_)) (by omega)
  · exact VQ.end (b := b) q2 q1 q0 q3 (fun i => rs_stop (hl.2.2.2 i) (q1 i))
  · have go : ∀ i, rs T g (.branch p x y) 1 false (Sf i) = (match ev T g (stepS false (p / 8) (Sf i)).1 x with
      | .error z => failS (stepS false (p / 8) (Sf i)) 1 z
      | .ok v => if (stepS false (p / 8) (Sf i)).2.2.1.length = 100 then failS (stepS false (p / 8) (Sf i)) 3 (p / 8) else ((stepS false (p / 8) (Sf i)).1, (stepS false (p / 8) (Sf i)).2.1, (stepS false (p / 8) (Sf i)).2.2.1 ++ [v], none)) := by
      intro i
      rw [rs_go (hl.2.2.2 i) rfl (q1.2.2.2 i), if_neg (by omega), if_neg (by omega), if_pos c2]
      rfl
    obtain ⟨p1, p2, p3, p4⟩ := id q1
    refine vis_ex hv hK hu3 hwf k2 g2 hcb.2.1 (by omega) hxs (by omega) q1 q2 hn (by omega) (by omega) (fun tt m' r'' p' z1 z2 z4 z3 => ?_) (fun v m' r'' z1 z2 z3 z4 z5 => ?_)
    · exact VQ.end (b := b) z2 (fun i => rfl) z4 z3 (fun i => by rw [go i, z1 i])
    · obtain ⟨o1, o2, o3, o4, o5, o6⟩ := id z3
      refine sim_tell (n := nn) hK.2.2.1 o1 (by omega) (by omega) w1 o4 (fun i => by rw [o6 i, p3 i]) hn (fun e r3 y1 y2 y3 => ?_) (fun e r3 y1 y2 => ?_)
      · have mf : MRw M (fun i => failS (stepS false (p / 8) (Sf i)) 3 (p / 8)) m' r3 := by
          refine ⟨o1, o2, o3, fun i => ?_, fun i => ?_, fun i => ?_⟩
          · rw [y3 i 0 (by omega) (by omega)]; exact o4 i
          · rw [y3 i 2 (by omega) (by omega)]; exact o5 i
          · rw [y3 i 4 (by omega) (by omega)]; exact o6 i
        refine VQ.end (b := b) mf (fun i => rfl) (fun i => ?_) ⟨hK.2.2.1.2.2.2.2.2.2, by omega, by omega, y1, s + sz T x + 1, b, by omega, hcb.2.2.2, w2, by omega, by omega, fun i => by rw [y2 i, eb]⟩ (fun i => ?_)
        · show (stepS false (p / 8) (Sf i)).2.2.1.length ≤ 100
          have : (stepS false (p / 8) (Sf i)).2.2.1.length = nn := p3 i
          omega
        · rw [go i, z1 i]
          dsimp only
          rw [if_pos (by rw [p3 i, e])]
      · have eS : (fun i => rs T g (.branch p x y) 1 false (Sf i)) = (fun i => ((stepS false (p / 8) (Sf i)).1, (stepS false (p / 8) (Sf i)).2.1, (stepS false (p / 8) (Sf i)).2.2.1 ++ [v i], none)) := by
          funext i
          rw [go i, z1 i]
          dsimp only
          rw [if_neg (by rw [p3 i]; omega)]
        rw [eS]
        have ln : ∀ i, ((stepS false (p / 8) (Sf i)).2.2.1 ++ [v i]).length = nn + 1 := fun i => by rw [List.length_append, p3 i]; rfl
        refine ⟨⟨fun i j j1 j2 => (pk_un (by omega)).trans (o1 i j j1 j2), fun i kk hk => (pk_un (by omega)).trans (o2 i kk hk), fun i kk hk => ?_, fun i => ?_, fun i => ?_, fun i => ?_⟩, Or.inl ⟨st - 1, nn + 1, ⟨p1, p2, ln, fun i => rfl⟩, by omega, by omega, fun i => ?_, eb.symm⟩⟩
        · have hk : kk < ((stepS false (p / 8) (Sf i)).2.2.1 ++ [v i]).length := hk
          rw [ln i] at hk
          show upd (m' i) (200 + nn) (r'' i 6) (200 + kk) = (((stepS false (p / 8) (Sf i)).2.2.1 ++ [v i])[kk]?).getD 0
          have p3i : (stepS false (p / 8) (Sf i)).2.2.1.length = nn := p3 i
          by_cases ek : kk = nn
          · rw [ek, pk_us, z2 i, List.getElem?_append_right (by omega), p3i, Nat.sub_self]
            rfl
          · rw [pk_un (by omega), List.getElem?_append_left (by omega)]
            exact o3 i kk (by show kk < (stepS false (p / 8) (Sf i)).2.2.1.length; omega)
        · rw [y2 i 0 (by omega) (by omega) (by omega)]; exact o4 i
        · rw [y2 i 2 (by omega) (by omega) (by omega)]; exact o5 i
        · show r3 i 4 = nI (4 * ((stepS false (p / 8) (Sf i)).2.2.1 ++ [v i]).length)
          rw [ln i, y1 i]
        · rw [y2 i 3 (by omega) (by omega) (by omega), z5 i, q4 i]
theorem vis_putin {T : TX} {N u n : Nat} {g : List DD} {M B : Nat → Int32} {σ4 : SX4} (hv : GV T N g) (hK : KOK T g M) (hu3 : u ≤ 3000) {p s a b st nn : Nat} {x y : Tr} {m r : ι → Nat → Int32} {Sf : ι → SR} (c1 : p % 8 = 1) (hwx : WF T N x) (hwy : WF T N y) (hrx : rh x ≤ 112) (hry : rh y ≤ 112) (hcb : nk σ4 s 14 (PL T (p / 8)) ∧ CS T σ4 x (s + sz T x) ∧ σ4.1.2.1 (s + sz T x + 1) = nI (PL T (p / 8 + 1)) ∧ CS T σ4 y (s + sz T x + 1 + sz T y)) (hj : js T g (.branch p x y) 1 false = .ok ())
    (hcx : ∃ a1 c d, STP M B false s a a1 ∧ CX T g M B x (s + sz T x) 0 0 a1 c ∧ M c = wJ 1 (nI (4 * (532 + 5 * nrw g + 5 * nrw (g.take (nmk T g (p / 8))))) - nI (4 * c)) ∧ B (s + sz T x + 1) = nI (4 * (c + 1)) ∧ M (c + 1) = wS 6 0 (1200 + 4 * 0) ∧ CX T g M B y (s + sz T x + 1 + sz T y) 0 (0 + 1) (c + 2) d ∧ M d = wL 7 0 (nI (1200 + 4 * 0)) ∧ M (d + 1) = wS 6 7 0 ∧ b = d + 2) (hu : s + (sz T x + sz T y + 3) ≤ u)
    (hl : LW T g Sf st nn) (hst : st ≤ 2000) (hn : nn ≤ 100) (hm : MRw M Sf m r) (h3 : ∀ i, r i 3 = -1) (ha : 532 + 10 * nrw g ≤ a) (hb : b ≤ 4090) : FX (6 * (b - a)) m r a (VQ T g u σ4.1.2.1 B M b (fun i => rs T g (.branch p x y) 1 false (Sf i))) := by
  obtain ⟨a1, c, d, g1, g2, w1, w2, w3, g3, w4, w5, eb⟩ := hcx
  have l1 := g1.le
  have l2 := CX.le _ _ _ _ _ _ g2
  have l3 := CX.le _ _ _ _ _ _ g3
  have px := sz_pos T x
  have py := sz_pos T y
  obtain ⟨k, sx, k1, k2, k3, k4⟩ := js_putin c1 hj
  obtain ⟨t1, t2, t3⟩ := jt_ok k1
  have en : nmk T g (p / 8) = k := by rw [nmk, t1]; rfl
  rw [en] at w1
  have hkl := fdI_lt g _ k t1
  have n6 := wds_take (T := T) hkl
  have n6 : fw T g k + dsz T (gx g k) ≤ wds T g := n6
  have n8 := hv.2
  have n9 := nrw_le g
  have n10 := hv.len
  have a1e : a1 = a + 1 := by unfold STP at g1; rw [if_neg (by decide)] at g1; exact g1.2.1
  refine FX.le (vis_stepF (u := u) (nb := 6 * (c - a1) + (6 + (1 + (6 * (d - (c + 2)) + 2)))) hK.1 g1 hcb.1.2 (by omega) hl hst hn hm h3 (by omega) (by omega) (fun e r' q1 q0 q2 q3 => ?_) (fun e r' q1 q2 q3 q4 => ?_)) (by omega)
  · exact VQ.end (b := b) q2 q1 q0 q3 (fun i => rs_stop (hl.2.2.2 i) (q1 i))
  · have go : ∀ i, rs T g (.branch p x y) 1 false (Sf i) = (match ev T g (stepS false (p / 8) (Sf i)).1 x with
      | .error z => failS (stepS false (p / 8) (Sf i)) 1 z
      | .ok ii => if ii.toBitVec.toNat < dsz T (gx g k) then (match ev T g (stepS false (p / 8) (Sf i)).1 y with
        | .error z => failS (stepS false (p / 8) (Sf i)) 1 z
        | .ok v => (upd (stepS false (p / 8) (Sf i)).1 (fw T g k + ii.toBitVec.toNat) v, (stepS false (p / 8) (Sf i)).2))
        else failS (stepS false (p / 8) (Sf i)) 1 (p / 8 + 1)) := by
      intro i
      rw [rs_go (hl.2.2.2 i) rfl (q1.2.2.2 i), if_neg (by omega), if_pos c1, en]
      rfl
    obtain ⟨p1, p2, p3, p4⟩ := id q1
    refine vis_ex hv hK hu3 hwx k2 g2 hcb.2.1 (by omega) hrx (by omega) q1 q2 hn (by omega) (by omega) (fun tt m' r'' p' z1 z2 z4 z3 => ?_) (fun v m' r'' z1 z2 z3 z4 z5 => ?_)
    · exact VQ.end (b := b) z2 (fun i => rfl) z4 z3 (fun i => by rw [go i, z1 i])
    · obtain ⟨vz, hvz⟩ := ev_com hv p1 k2 z1
      have h32 : vz.toBitVec.toNat < 2 ^ 32 := vz.toBitVec.isLt
      obtain ⟨o1, o2, o3, o4, o5, o6⟩ := id z3
      refine FX.seq (a := 6) (b := 1 + (6 * (d - (c + 2)) + 2)) (P := fun m3 r3 p3' => (VQ T g u σ4.1.2.1 B M b (fun i => rs T g (.branch p x y) 1 false (Sf i)) m3 r3 p3') ∨ (vz.toBitVec.toNat < dsz T (gx g k) ∧ m3 = m' ∧ p3' = c + 1 ∧ (∀ i, r3 i 6 = nI (4 * (fw T g k + vz.toBitVec.toNat))) ∧ ∀ i j, ¬ j = 1 → ¬ j = 5 → ¬ j = 6 → r3 i j = r'' i j)) (sim_place hv hK hkl t2 o1 (x := vz.toBitVec.toNat) (by omega) (by omega) w1 o4 (fun i => by rw [← of_tn, z2 i, hvz i]) h32 (fun hx r3 y1 y2 y3 => Or.inl ?_) (fun hx r3 y1 y2 => Or.inr ⟨hx, rfl, rfl, y1, y2⟩)) (fun m3 r3 p3' hQ => ?_) (Nat.le_refl _)
      · have mf : MRw M (fun i => failS (stepS false (p / 8) (Sf i)) 1 (p / 8 + 1)) m' r3 := by
          refine ⟨o1, o2, o3, fun i => ?_, fun i => ?_, fun i => ?_⟩
          · rw [y3 i 0 (by omega) (by omega)]; exact o4 i
          · rw [y3 i 2 (by omega) (by omega)]; exact o5 i
          · rw [y3 i 4 (by omega) (by omega)]; exact o6 i
        refine VQ.end (b := b) mf (fun i => rfl) (fun i => ?_) ⟨hK.2.2.2.1.2, by omega, by omega, y1, s + sz T x + 1, c + 1, by omega, hcb.2.2.1, w2, by omega, by omega, y2⟩ (fun i => ?_)
        · show (stepS false (p / 8) (Sf i)).2.2.1.length ≤ 100
          have : (stepS false (p / 8) (Sf i)).2.2.1.length = nn := p3 i
          omega
        · rw [go i, z1 i]
          dsimp only
          rw [hvz i, if_neg hx]
      · rcases hQ with hQ | ⟨hx, e1, e2, y1, y2⟩
        · exact FX.le (a := 0) (FX.nil hQ) (Nat.zero_le _)
        · rw [e1, e2]
          have r30 : ∀ i, r3 i 0 = 0 := fun i => (y2 i 0 (by omega) (by omega) (by omega)).trans (o4 i)
          refine FX.cons (n := 6 * (d - (c + 2)) + 2) (fx_sto (fr := 6) (base := 0) (d := 1200) (q := 300) (by omega) (fun i => (o1 i _ (by omega) (by omega)).trans w3) (by omega) (by omega) (by omega) (by omega) (fun i => ?_) ⟨rfl, rfl, rfl⟩) ?_ (by omega)
          · rw [r30 i]
            exact Int32.zero_add _
          have mr4 : MRw M (fun i => stepS false (p / 8) (Sf i)) (fun i => upd (m' i) 300 (r3 i 6)) r3 := by
            refine ⟨fun i j j1 j2 => (pk_un (by omega)).trans (o1 i j j1 j2), fun i kk hk => (pk_un (by omega)).trans (o2 i kk hk), fun i kk hk => (pk_un ?_).trans (o3 i kk hk), r30, fun i => (y2 i 2 (by omega) (by omega) (by omega)).trans (o5 i), fun i => (y2 i 4 (by omega) (by omega) (by omega)).trans (o6 i)⟩
            have p3i : (stepS false (p / 8) (Sf i)).2.2.1.length = nn := p3 i
            have hk : kk < (stepS false (p / 8) (Sf i)).2.2.1.length := hk
            omega
          refine vis_ex (h := 1) hv hK hu3 hwy k3 g3 hcb.2.2.2 (by omega) hry (by omega) q1 mr4 hn (by omega) (by omega) (fun tt m5 r5 p5 x1 x2 x4 x3 => ?_) (fun v2 m5 r5 x1 x2 x3 x4 x5 => ?_)
          · refine VQ.end (b := b) x2 (fun i => rfl) x4 x3 (fun i => ?_)
            rw [go i, z1 i]
            dsimp only
            rw [hvz i, if_pos hx, x1 i]
          · have hm300 : ∀ i, m5 i 300 = nI (4 * (fw T g k + vz.toBitVec.toNat)) := fun i => (x4 i 300 (by omega)).trans (pk_us.trans (y1 i))
            refine FX.cons (n := 1) (fx_load (to := 7) (fr := 0) (q := 300) (by omega) (fun i => (x3.1 i d (by omega) (by omega)).trans w4) (by omega) (by omega) (by decide) (by decide) (by omega) (fun i => by rw [x3.2.2.2.1 i]; exact Int32.zero_add _) ⟨rfl, rfl, rfl⟩) ?_ (by omega)
            refine fx_sto (fr := 6) (base := 7) (d := 0) (q := fw T g k + vz.toBitVec.toNat) (by omega) (fun i => (x3.1 i _ (by omega) (by omega)).trans w5) (by omega) (by omega) (by omega) (by omega) (fun i => ?_) ?_
            · show wr (r5 i) 7 (m5 i 300) 7 + nI 0 = _
              rw [wr_s (by omega), hm300 i, nI_add]
              rfl
            · have eS : (fun i => rs T g (.branch p x y) 1 false (Sf i)) = (fun i => (upd (stepS false (p / 8) (Sf i)).1 (fw T g k + vz.toBitVec.toNat) (v2 i), (stepS false (p / 8) (Sf i)).2)) := by
                funext i
                rw [go i, z1 i]
                dsimp only
                rw [hvz i, if_pos hx, x1 i]
              rw [eS]
              obtain ⟨s1, s2, s3, s4, s5, s6⟩ := x3
              have r6e : ∀ i, wr (r5 i) 7 (m5 i 300) 6 = v2 i := fun i => by rw [wr_n (by omega), x2 i]
              refine ⟨⟨fun i j j1 j2 => (pk_un (by omega)).trans (s1 i j j1 j2), fun i kk hk => ?_, fun i kk hk => ?_, fun i => (wr_n (by omega)).trans (s4 i), fun i => (wr_n (by omega)).trans (s5 i), fun i => (wr_n (by omega)).trans (s6 i)⟩, Or.inl ⟨st - 1, nn, ⟨?_, p2, p3, p4⟩, by omega, hn, fun i => ?_, eb.symm⟩⟩
              · show upd (m5 i) (fw T g k + vz.toBitVec.toNat) (wr (r5 i) 7 (m5 i 300) 6) kk = upd (stepS false (p / 8) (Sf i)).1 (fw T g k + vz.toBitVec.toNat) (v2 i) kk
                rw [r6e i]
                by_cases ek : kk = fw T g k + vz.toBitVec.toNat
                · rw [ek, pk_us, pk_us]
                · rw [pk_un ek, pk_un ek]
                  exact s2 i kk hk
              · exact (pk_un (by omega)).trans (s3 i kk hk)
              · refine PE_up hv p1 hkl hx ?_
                cases hd : dsec T (gx g k) with
                | true => exact Or.inl rfl
                | false =>
                  refine Or.inr (ev_com hv p1 (w := false) (e := y) ?_ x1)
                  cases sx with
                  | false => exact k3
                  | true =>
                    have := k4 rfl
                    rw [hd] at this
                    cases this
              · show wr (r5 i) 7 _ 3 = -1
                rw [wr_n (by omega), x5 i, y2 i 3 (by omega) (by omega) (by omega), z5 i, q4 i]
end SimV2
