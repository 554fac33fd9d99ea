section SimX
variable {ι : Type}
theorem ndP_le (a b : Nat) : a ≤ ndP a b ∧ b ≤ ndP a b ∧ (a < b → a + 1 ≤ ndP a b) ∧ (¬ a < b → b + 1 ≤ ndP a b) := by
  unfold ndP
  split <;> omega
theorem ev_ncl {T : TX} {g : List DD} {E : Nat → Int32} : ∀ (e : Tr), cl T e = false → ∃ v, ev T g E e = .ok v := by
  intro e
  induction e with
  | leaf t =>
    intro _
    rw [ev]
    split
    · exact ⟨_, rfl⟩
    · exact ⟨_, rfl⟩
  | branch p a b iha ihb =>
    intro h
    rw [cl] at h
    rw [ev]
    by_cases q : p % 2 = 1
    · rw [if_pos q] at h ⊢
      have h1 : cl T a = false := by
        cases ha : cl T a with
        | false => rfl
        | true => rw [ha] at h; cases h
      have h2 : cl T b = false := by
        cases hb : cl T b with
        | false => rfl
        | true => rw [hb, h1] at h; cases h
      obtain ⟨x, hx⟩ := iha h1
      obtain ⟨y, hy⟩ := ihb h2
      rw [hx]
      dsimp only
      rw [hy]
      exact ⟨_, rfl⟩
    · rw [if_neg q] at h ⊢
      by_cases q2 : TK T (p / 2) = 2
      · rw [if_pos q2] at h
        cases h
      · rw [if_neg q2] at h ⊢
        obtain ⟨x, hx⟩ := iha h
        rw [hx]
        exact ⟨_, rfl⟩
/-- a run that has ended -/
def ENQ (T : TX) (u : Nat) (pl B M : Nat → Int32) (c t : Nat) (r : ι → Nat → Int32) (p : Nat) : Prop := M p = 115 ∧ 512 ≤ p ∧ p < 4096 ∧ (∀ i, r i 5 = nI c) ∧ ∃ j q, j < u ∧ pl j = nI (PL T t) ∧ B j = nI (4 * q) ∧ 512 < q ∧ q < 4096 ∧ ∀ i, r i 1 = nI (4 * q)
def FRX (f h : Nat) (m r m' r' : ι → Nat → Int32) : Prop := (∀ i j, (j < 300 + h ∨ 512 ≤ j) → m' i j = m i j) ∧ (∀ i j, (j = 0 ∨ j = 2 ∨ j = 3 ∨ j = 4 ∨ (6 ≤ j ∧ j < 6 + f)) → r' i j = r i j)
theorem FRX.tr {f h f1 h1 f2 h2 : Nat} {m r m1 r1 m2 r2 : ι → Nat → Int32} (a : FRX f1 h1 m r m1 r1) (b : FRX f2 h2 m1 r1 m2 r2) (e1 : f ≤ f1) (e2 : f ≤ f2) (e3 : h ≤ h1) (e4 : h ≤ h2) : FRX f h m r m2 r2 := ⟨fun i j hj => (b.1 i j (by omega)).trans (a.1 i j (by omega)), fun i j hj => (b.2 i j (by omega)).trans (a.2 i j (by omega))⟩
def XQ (T : TX) (g : List DD) (u : Nat) (pl B M : Nat → Int32) (E : ι → Nat → Int32) (e : Tr) (f h b : Nat) (m r m' r' : ι → Nat → Int32) (p : Nat) : Prop := FRX f h m r m' r' ∧ ((∃ v : ι → Int32, (∀ i, ev T g (E i) e = .ok (v i)) ∧ (∀ i, r' i (6 + f) = v i) ∧ p = b) ∨ (∃ t, (∀ i, ev T g (E i) e = .error t) ∧ ENQ T u pl B M 1 t r' p))
theorem common {v : ι → Int32} (h : ∀ i j, v i = v j) : ∃ x, ∀ i, v i = x := by
  by_cases hne : ∃ i : ι, True
  · obtain ⟨i0, _⟩ := hne
    exact ⟨v i0, fun i => h i i0⟩
  · exact ⟨0, fun i => absurd ⟨i, trivial⟩ hne⟩
theorem ev_uniq {T : TX} {g : List DD} {E : Nat → Int32} {e : Tr} {x y : Int32} (h : ev T g E e = .ok x) (k : ev T g E e = .ok y) : x = y := by
  rw [h] at k
  cases k
  rfl
theorem ev_com {T : TX} {N : Nat} {g : List DD} (hv : GV T N g) {E : ι → Nat → Int32} (hE : PE T g E) {w : Bool} {e : Tr} (h : je T g w e = .ok false) {v : ι → Int32} (hV : ∀ i, ev T g (E i) e = .ok (v i)) : ∃ x, ∀ i, v i = x := by
  rcases ev_ni hv hE w e false h with ⟨_, t, ht⟩ | ⟨v2, h1, h2⟩
  · refine common (fun i j => ?_)
    have := ht i
    rw [hV i] at this
    cases this
  · refine common (fun i j => ?_)
    rw [ev_uniq (hV i) (h1 i), ev_uniq (hV j) (h1 j)]
    exact h2 rfl i j
theorem sim_ex {T : TX} {N u : Nat} {g : List DD} {w : Bool} {M B : Nat → Int32} {σ4 : SX4} {E : ι → Nat → Int32} (hv : GV T N g) (hE : PE T g E) (hK : KOK T g M) : ∀ (e : Tr) (s : Bool) (i f h a b : Nat) (m r : ι → Nat → Int32), WF T N e → je T g w e = .ok s → CX T g M B e i f h a b → CS T σ4 e i → i < u →
    (∀ i j, 512 ≤ j → j < 4096 → m i j = M j) → (∀ i k, k < 200 → m i k = E i k) → (∀ i, r i 0 = 0) → 532 + 10 * nrw g ≤ a → b ≤ 4095 → (cl T e = true → f = 0) → (cl T e = false → f + nd T e ≤ 12) → nd T e ≤ 11 → h + rh e ≤ 211 →
    FX (6 * (b - a)) m r a (fun m' r' p => XQ T g u σ4.1.2.1 B M E e f h b m r m' r' p) := by
  intro e
  induction e with
  | leaf t =>
    intro s i f h a b m r hwf hje hcx hcs hi hM hW hz ha hb hf1 hf2 hnd hh
    have hl := CX.le _ _ _ _ _ _ hcx
    have hf : f ≤ 11 := by have := hf2 rfl; have : nd T (.leaf t) = 1 := rfl; omega
    rw [CX] at hcx
    by_cases q : TK T t = 3
    · rw [if_pos q] at hcx
      refine sim_num hcx hM (by omega) (by omega) (by omega) (by omega) hz (fun r' g1 g2 => ?_)
      refine ⟨⟨fun i j _ => rfl, fun i j hj => g2 i j (by omega)⟩, Or.inl ⟨fun _ => nI (NB T t), fun i => by rw [ev, if_pos q], g1, rfl⟩⟩
    · rw [if_neg q] at hcx
      rcases je_leaf hje with ⟨c, _⟩ | ⟨_, k, hk, hr, _⟩
      · exact absurd c q
      have en : nmk T g t = k := by rw [nmk, hk]; rfl
      have hkl := fdI_lt g _ k hk
      have n6 := wds_take (T := T) hkl
      have n6 : fw T g k + dsz T (gx g k) ≤ wds T g := n6
      have n7 := (hv.1 _ (gx_mem hkl)).2.1
      have n8 := hv.2
      rw [en] at hcx
      refine FX.le (a := 1) (fx_load (to := 6 + f) (fr := 0) (q := fw T g k) (by omega) (fun i => (hM i a (by omega) (by omega)).trans hcx.1) (by omega) (by omega) ?_ ?_ (by omega) (fun i => ?_) ?_) (by omega)
      · rcases i32_toInt (nI (4 * fw T g k)) with ⟨a1, a2⟩ | ⟨a1, a2, a3⟩ <;> rw [pk_tn (by omega)] at * <;> omega
      · rcases i32_toInt (nI (4 * fw T g k)) with ⟨a1, a2⟩ | ⟨a1, a2, a3⟩ <;> rw [pk_tn (by omega)] at * <;> omega
      · rw [hz i]
        exact Int32.zero_add _
      · refine ⟨⟨fun i j _ => rfl, fun i j hj => wr_n (by omega)⟩, Or.inl ⟨fun i => E i (fw T g k), fun i => by rw [ev, if_neg q, en], fun i => ?_, hcx.2.symm⟩⟩
        show wr _ _ _ _ = _
        rw [wr_s (by omega), hW i _ (by omega)]
  | branch p x y ihx ihy =>
    intro s i f h a b m r hwf hje hcx hcs hi hM hW hz ha hb hf1 hf2 hnd hh
    have hl := CX.le _ _ _ _ _ _ hcx
    have px := sz_pos T x
    have py := sz_pos T y
    have ndx := nd_pos T x
    have ndy := nd_pos T y
    obtain ⟨⟨hd1, hd2, hd3, hd4⟩, hcs⟩ := hcs
    rw [CX] at hcx
    by_cases q : p % 2 = 1
    · rw [if_pos q] at hcx hcs
      rw [WF, if_pos q] at hwf
      rw [nd, if_pos q] at hnd hf2
      rw [cl, if_pos q] at hf1 hf2
      rw [rh, if_pos q] at hh
      rw [sz, if_pos q] at hd4
      have np := ndP_le (nd T x) (nd T y)
      have hx1 : rh x ≤ max (rh x) (rh y + 1) := Nat.le_max_left _ _
      have hy1 : rh y + 1 ≤ max (rh x) (rh y + 1) := Nat.le_max_right _ _
      obtain ⟨s1, s2, j1, j2, j3, j4⟩ := je_pair q hje
      obtain ⟨w1, w2, w3, w4⟩ := hwf
      obtain ⟨c1, c2, c3, c4⟩ := hcs
      have dv : ∀ v1 v2 : ι → Int32, (∀ i, ev T g (E i) x = .ok (v1 i)) → (∀ i, ev T g (E i) y = .ok (v2 i)) → isDv (TK T (p / 2)) = true → ∃ a b, ∀ i, v1 i = a ∧ v2 i = b := by
        intro v1 v2 h1 h2 hd
        have hs := (j4 hd).2
        rw [hs] at j3
        have e1 : s1 = false := by
          cases s1 with
          | false => rfl
          | true => cases j3
        have e2 : s2 = false := by
          cases s2 with
          | false => rfl
          | true => rw [e1] at j3; cases j3
        rw [e1] at j1
        rw [e2] at j2
        obtain ⟨a, ha⟩ := ev_com hv hE j1 h1
        obtain ⟨b, hb⟩ := ev_com hv hE j2 h2
        exact ⟨a, b, fun i => ⟨ha i, hb i⟩⟩
      have evb : ∀ (i : ι) (v1 v2 : Int32), ev T g (E i) x = .ok v1 → ev T g (E i) y = .ok v2 → ev T g (E i) (.branch p x y) = .ok (two (TK T (p / 2)) v1 v2) := by
        intro i v1 v2 h1 h2
        rw [ev, if_pos q, h1]
        dsimp only
        rw [h2]
      have evx : ∀ (i : ι) (t : Nat), ev T g (E i) x = .error t → ev T g (E i) (.branch p x y) = .error t := by
        intro i t h1
        rw [ev, if_pos q, h1]
      have evy : ∀ (i : ι) (v1 : Int32) (t : Nat), ev T g (E i) x = .ok v1 → ev T g (E i) y = .error t → ev T g (E i) (.branch p x y) = .error t := by
        intro i v1 t h1 h2
        rw [ev, if_pos q, h1]
        dsimp only
        rw [h2]
      by_cases q2 : rF T x y = true
      · rw [if_pos q2] at hcx
        obtain ⟨c, d, h1, h2, h3⟩ := hcx
        have l1 := CX.le _ _ _ _ _ _ h1
        have l2 := CX.le _ _ _ _ _ _ h2
        have l3 := h3.le
        have hxc : cl T x = false := by
          unfold rF at q2
          split at q2
          · cases hc : cl T x with
            | false => rfl
            | true => rw [hc] at q2; cases q2
          · rename_i hc
            cases hc2 : cl T x with
            | false => rfl
            | true => rw [hc2] at hc; exact absurd rfl hc
        rw [hxc] at hf1 hf2
        have hf : f + 1 + nd T x ≤ 12 := by
          cases hy : cl T y with
          | true =>
            have := hf1 (by rw [hy]; rfl)
            omega
          | false =>
            have h5 := hf2 (by rw [hy]; rfl)
            unfold rF at q2
            rw [hxc, hy, if_neg (by decide)] at q2
            have := of_decide_eq_true q2
            omega
        have hfy : cl T y = false → f + nd T y ≤ 12 := fun hy => by
          have h5 := hf2 (by rw [hy]; rfl)
          omega
        refine FX.seq (b := 6 * (b - c)) (ihy s2 (i - 1) f h a c m r w4 j2 h1 c3 (by omega) hM hW hz ha (by omega) (fun hy => hf1 (by rw [hy]; rfl)) hfy (by omega) (by omega)) (fun m1 r1 p1 hQ => ?_) (by omega)
        obtain ⟨fr1, ok | er⟩ := hQ
        · obtain ⟨v2, e1, e2, e3⟩ := ok
          rw [e3]
          refine FX.seq (a := 6 * (d - c)) (b := 6 * (b - d)) (ihx s1 (i - 1 - sz T y) (f + 1) h c d m1 r1 w3 j1 h2 c4 (by omega) (fun i j k1 k2 => (fr1.1 i j (by omega)).trans (hM i j k1 k2)) (fun i k hk => (fr1.1 i k (by omega)).trans (hW i k hk)) (fun i => (fr1.2 i 0 (by omega)).trans (hz i)) (by omega) (by omega) (fun hy => by rw [hxc] at hy; cases hy) (fun _ => hf) (by omega) (by omega)) (fun m2 r2 p2 hQ => ?_) (by omega)
          obtain ⟨fr2, ok | er⟩ := hQ
          · obtain ⟨v1, e4, e5, e6⟩ := ok
            rw [e6]
            have rl : ∀ i, r2 i (7 + f) = v1 i := fun i => by rw [← e5 i, show 6 + (f + 1) = 7 + f by omega]
            have rr : ∀ i, r2 i (6 + f) = v2 i := fun i => (fr2.2 i (6 + f) (by omega)).trans (e2 i)
            refine sim_op w2 h3 (fun i j k1 k2 => (fr2.1 i j (by omega)).trans ((fr1.1 i j (by omega)).trans (hM i j k1 k2))) (by omega) (by omega) (by omega) (by omega) (by omega) (by omega) (fun hd => ?_) (fun r3 g1 g2 => ?_)
            · obtain ⟨za, zb, zz⟩ := dv v1 v2 e4 e1 hd
              exact ⟨za, zb, fun i => ⟨(rl i).trans (zz i).1, (rr i).trans (zz i).2⟩⟩
            · refine ⟨(fr1.tr fr2 (f := f) (h := h) (by omega) (by omega) (by omega) (by omega)).tr (f2 := f) (h2 := h) ⟨fun i j _ => rfl, fun i j hj => g2 i j (by omega)⟩ (by omega) (by omega) (by omega) (by omega), Or.inl ⟨fun i => two (TK T (p / 2)) (v1 i) (v2 i), fun i => evb i _ _ (e4 i) (e1 i), fun i => ?_, rfl⟩⟩
              rw [g1 i, rl i, rr i]
          · obtain ⟨t, e4, e5⟩ := er
            exact FX.le (a := 0) (FX.nil ⟨fr1.tr fr2 (by omega) (by omega) (by omega) (by omega), Or.inr ⟨t, fun i => evx i t (e4 i), e5⟩⟩) (by omega)
        · obtain ⟨t, e4, e5⟩ := er
          refine FX.le (a := 0) (FX.nil ⟨fr1, Or.inr ⟨t, fun i => ?_, e5⟩⟩) (by omega)
          obtain ⟨v1, hv1⟩ := ev_ncl (g := g) (E := E i) x hxc
          exact evy i v1 t hv1 (e4 i)
      · rw [if_neg q2] at hcx
        have q2' : rF T x y = false := by
          cases hr : rF T x y with
          | true => exact absurd hr q2
          | false => rfl
        by_cases q3 : cl T y = true
        · rw [if_pos q3] at hcx
          obtain ⟨c, d, h1, h2, h3, h4, h5⟩ := hcx
          have l1 := CX.le _ _ _ _ _ _ h1
          have l2 := CX.le _ _ _ _ _ _ h3
          have l3 := h5.le
          have hf : f = 0 := hf1 (by rw [q3, Bool.or_true])
          rw [hf] at h1
          refine FX.seq (b := 6 * (b - c)) (ihx s1 (i - 1 - sz T y) 0 h a c m r w3 j1 h1 c4 (by omega) hM hW hz ha (by omega) (fun _ => rfl) (fun _ => by omega) (by omega) (by omega)) (fun m1 r1 p1 hQ => ?_) (by omega)
          obtain ⟨fr1, ok | er⟩ := hQ
          · obtain ⟨v1, e1, e2, e3⟩ := ok
            rw [e3]
            have M1 : ∀ i j, 512 ≤ j → j < 4096 → m1 i j = M j := fun i j k1 k2 => (fr1.1 i j (by omega)).trans (hM i j k1 k2)
            have hz1 : ∀ i, r1 i 0 = 0 := fun i => (fr1.2 i 0 (by omega)).trans (hz i)
            refine FX.cons (n := 6 * (b - (c + 1))) (fx_sto (fr := 6) (base := 0) (d := 1200 + 4 * h) (q := 300 + h) (by omega) (fun i => (M1 i c (by omega) (by omega)).trans h2) (by omega) (by omega) (by omega) (by omega) (fun i => ?_) ⟨rfl, rfl, rfl⟩) ?_ (by omega)
            · rw [hz1 i, show 1200 + 4 * h = 4 * (300 + h) by omega]
              exact Int32.zero_add _
            have M2 : ∀ i j, 512 ≤ j → j < 4096 → (upd (m1 i) (300 + h) (r1 i 6)) j = M j := fun i j k1 k2 => (pk_un (by omega)).trans (M1 i j k1 k2)
            refine FX.seq (b := 6 * (b - d)) (ihy s2 (i - 1) 0 (h + 1) (c + 1) d (fun i => upd (m1 i) (300 + h) (r1 i 6)) r1 w4 j2 h3 c3 (by omega) M2 (fun i k hk => (pk_un (by omega)).trans ((fr1.1 i k (by omega)).trans (hW i k hk))) hz1 (by omega) (by omega) (fun _ => rfl) (fun _ => by omega) (by omega) (by omega)) (fun m2 r2 p2 hQ => ?_) (by omega)
            obtain ⟨fr2, ok | er⟩ := hQ
            · obtain ⟨v2, e4, e5, e6⟩ := ok
              rw [e6]
              have M3 : ∀ i j, 512 ≤ j → j < 4096 → m2 i j = M j := fun i j k1 k2 => (fr2.1 i j (by omega)).trans (M2 i j k1 k2)
              have hz2 : ∀ i, r2 i 0 = 0 := fun i => (fr2.2 i 0 (by omega)).trans (hz1 i)
              refine FX.cons (n := 6 * (b - (d + 1))) (fx_load (to := 7) (fr := 0) (q := 300 + h) (by omega) (fun i => (M3 i d (by omega) (by omega)).trans h4) (by omega) (by omega) ?_ ?_ (by omega) (fun i => ?_) ⟨rfl, rfl, rfl⟩) ?_ (by omega)
              · rcases i32_toInt (nI (1200 + 4 * h)) with ⟨a1, a2⟩ | ⟨a1, a2, a3⟩ <;> rw [pk_tn (by omega)] at * <;> omega
              · rcases i32_toInt (nI (1200 + 4 * h)) with ⟨a1, a2⟩ | ⟨a1, a2, a3⟩ <;> rw [pk_tn (by omega)] at * <;> omega
              · rw [hz2 i, show 1200 + 4 * h = 4 * (300 + h) by omega]
                exact Int32.zero_add _
              have hm2 : ∀ i, m2 i (300 + h) = v1 i := fun i => (fr2.1 i (300 + h) (by omega)).trans (pk_us.trans (e2 i))
              have rl : ∀ i, wr (r2 i) 7 (m2 i (300 + h)) 7 = v1 i := fun i => by rw [wr_s (by omega), hm2 i]
              have rr : ∀ i, wr (r2 i) 7 (m2 i (300 + h)) 6 = v2 i := fun i => by rw [wr_n (by omega)]; exact e5 i
              refine sim_op w2 h5 M3 (by omega) (by omega) (by omega) (by omega) (by omega) (by omega) (fun hd => ?_) (fun r3 g1 g2 => ?_)
              · obtain ⟨za, zb, zz⟩ := dv v1 v2 e1 e4 hd
                exact ⟨za, zb, fun i => ⟨(rl i).trans (zz i).1, (rr i).trans (zz i).2⟩⟩
              · refine ⟨⟨fun i j hj => (fr2.1 i j (by omega)).trans ((pk_un (by omega)).trans (fr1.1 i j (by omega))), fun i j hj => ?_⟩, Or.inl ⟨fun i => two (TK T (p / 2)) (v1 i) (v2 i), fun i => evb i _ _ (e1 i) (e4 i), fun i => ?_, rfl⟩⟩
                · rw [g2 i j (by omega), wr_n (by omega), fr2.2 i j (by omega), fr1.2 i j (by omega)]
                · rw [hf, g1 i, rl i, rr i]
            · obtain ⟨t, e4, e5⟩ := er
              refine FX.le (a := 0) (FX.nil ⟨⟨fun i j hj => (fr2.1 i j (by omega)).trans ((pk_un (by omega)).trans (fr1.1 i j (by omega))), fun i j hj => ?_⟩, Or.inr ⟨t, fun i => evy i _ t (e1 i) (e4 i), e5⟩⟩) (by omega)
              rw [fr2.2 i j (by omega), fr1.2 i j (by omega)]
          · obtain ⟨t, e4, e5⟩ := er
            exact FX.le (a := 0) (FX.nil ⟨⟨fr1.1, fun i j hj => fr1.2 i j (by omega)⟩, Or.inr ⟨t, fun i => evx i t (e4 i), e5⟩⟩) (by omega)
        · rw [if_neg q3] at hcx
          obtain ⟨c, d, h1, h2, h3⟩ := hcx
          have l1 := CX.le _ _ _ _ _ _ h1
          have l2 := CX.le _ _ _ _ _ _ h2
          have l3 := h3.le
          have hyc : cl T y = false := by
            cases hc : cl T y with
            | false => rfl
            | true => exact absurd hc q3
          rw [hyc] at hf1 hf2
          have hf : f + 1 + nd T y ≤ 12 := by
            cases hx : cl T x with
            | true =>
              have := hf1 (by rw [hx]; rfl)
              omega
            | false =>
              have h5 := hf2 (by rw [hx]; rfl)
              unfold rF at q2'
              rw [hx, hyc, if_neg (by decide)] at q2'
              have := of_decide_eq_false q2'
              omega
          have hfx : cl T x = false → f + nd T x ≤ 12 := fun hx => by
            have h5 := hf2 (by rw [hx]; rfl)
            omega
          refine FX.seq (b := 6 * (b - c)) (ihx s1 (i - 1 - sz T y) f h a c m r w3 j1 h1 c4 (by omega) hM hW hz ha (by omega) (fun hx => hf1 (by rw [hx]; rfl)) hfx (by omega) (by omega)) (fun m1 r1 p1 hQ => ?_) (by omega)
          obtain ⟨fr1, ok | er⟩ := hQ
          · obtain ⟨v1, e1, e2, e3⟩ := ok
            rw [e3]
            refine FX.seq (a := 6 * (d - c)) (b := 6 * (b - d)) (ihy s2 (i - 1) (f + 1) h c d m1 r1 w4 j2 h2 c3 (by omega) (fun i j k1 k2 => (fr1.1 i j (by omega)).trans (hM i j k1 k2)) (fun i k hk => (fr1.1 i k (by omega)).trans (hW i k hk)) (fun i => (fr1.2 i 0 (by omega)).trans (hz i)) (by omega) (by omega) (fun hy => by rw [hyc] at hy; cases hy) (fun _ => hf) (by omega) (by omega)) (fun m2 r2 p2 hQ => ?_) (by omega)
            obtain ⟨fr2, ok | er⟩ := hQ
            · obtain ⟨v2, e4, e5, e6⟩ := ok
              rw [e6]
              have rr : ∀ i, r2 i (7 + f) = v2 i := fun i => by rw [← e5 i, show 6 + (f + 1) = 7 + f by omega]
              have rl : ∀ i, r2 i (6 + f) = v1 i := fun i => (fr2.2 i (6 + f) (by omega)).trans (e2 i)
              refine sim_op w2 h3 (fun i j k1 k2 => (fr2.1 i j (by omega)).trans ((fr1.1 i j (by omega)).trans (hM i j k1 k2))) (by omega) (by omega) (by omega) (by omega) (by omega) (by omega) (fun hd => ?_) (fun r3 g1 g2 => ?_)
              · obtain ⟨za, zb, zz⟩ := dv v1 v2 e1 e4 hd
                exact ⟨za, zb, fun i => ⟨(rl i).trans (zz i).1, (rr i).trans (zz i).2⟩⟩
              · refine ⟨(fr1.tr fr2 (f := f) (h := h) (by omega) (by omega) (by omega) (by omega)).tr (f2 := f) (h2 := h) ⟨fun i j _ => rfl, fun i j hj => g2 i j (by omega)⟩ (by omega) (by omega) (by omega) (by omega), Or.inl ⟨fun i => two (TK T (p / 2)) (v1 i) (v2 i), fun i => evb i _ _ (e1 i) (e4 i), fun i => ?_, rfl⟩⟩
                rw [g1 i, rl i, rr i]
            · obtain ⟨t, e4, e5⟩ := er
              exact FX.le (a := 0) (FX.nil ⟨fr1.tr fr2 (by omega) (by omega) (by omega) (by omega), Or.inr ⟨t, fun i => evy i _ t (e1 i) (e4 i), e5⟩⟩) (by omega)
          · obtain ⟨t, e4, e5⟩ := er
            exact FX.le (a := 0) (FX.nil ⟨fr1, Or.inr ⟨t, fun i => evx i t (e4 i), e5⟩⟩) (by omega)
    · rw [if_neg q] at hcx hcs
      rw [WF, if_neg q] at hwf
      rw [nd, if_neg q] at hnd hf2
      rw [cl, if_neg q] at hf1 hf2
      rw [rh, if_neg q] at hh
      rw [sz, if_neg q] at hd4
      by_cases q2 : TK T (p / 2) = 2
      · rw [if_pos q2] at hcx hcs hwf hf1 hf2 hd4
        obtain ⟨c, h1, h2, h3, h4⟩ := hcx
        have l1 := CX.le _ _ _ _ _ _ h1
        have hf : f = 0 := hf1 rfl
        rw [hf] at h1
        obtain ⟨k, j1, j2, j3, j4, j5⟩ := je_item q q2 hje
        have en : nmk T g (p / 2) = k := by rw [nmk, j1]; rfl
        have hkl := fdI_lt g _ k j1
        have n6 := wds_take (T := T) hkl
        have n6 : fw T g k + dsz T (gx g k) ≤ wds T g := n6
        have n8 := hv.2
        rw [en] at h2
        refine FX.seq (b := 6) (ihx false (i - 1) 0 h a c m r hwf.2.2 j4 h1 hcs.2.2.1 (by omega) hM hW hz ha (by omega) (fun _ => rfl) (fun _ => by omega) hnd hh) (fun m1 r1 p1 hQ => ?_) (by omega)
        obtain ⟨fr1, ok | er⟩ := hQ
        · obtain ⟨v1, e1, e2, e3⟩ := ok
          rw [e3]
          obtain ⟨z, hzz⟩ := ev_com hv hE j4 e1
          have hz32 : z.toBitVec.toNat < 2 ^ 32 := z.toBitVec.isLt
          have M1 : ∀ i j, 512 ≤ j → j < 4096 → m1 i j = M j := fun i j k1 k2 => (fr1.1 i j (by omega)).trans (hM i j k1 k2)
          have evi : ∀ i, ev T g (E i) (.branch p x y) = if z.toBitVec.toNat < dsz T (gx g k) then .ok (E i (fw T g k + z.toBitVec.toNat)) else .error (p / 2 + 1) := by
            intro i
            rw [ev, if_neg q, if_pos q2, e1 i]
            dsimp only
            rw [hzz i, en]
          refine sim_item hv hK hkl j3 M1 (x := z.toBitVec.toNat) (by omega) (by omega) h2 (fun i => (fr1.2 i 0 (by omega)).trans (hz i)) (fun i => ?_) hz32 (fun hx r2 g1 g2 g3 => ?_) (fun hx r2 g1 g2 => ?_)
          · rw [← of_tn, ← hzz i]
            exact e2 i
          · refine ⟨⟨fr1.1, fun i j hj => (g3 i j (by omega) (by omega)).trans (fr1.2 i j (by omega))⟩, Or.inr ⟨p / 2 + 1, fun i => by rw [evi i, if_neg hx], hK.2.2.2.1.2, by omega, ?_, g1, i, c + 1, hi, hcs.2.1, by rw [h4, h3], by omega, by omega, g2⟩⟩
            have := nrw_le g
            have := hv.len
            omega
          · refine ⟨⟨fr1.1, fun i j hj => (g2 i j (by omega) (by omega) (by omega)).trans (fr1.2 i j (by omega))⟩, Or.inl ⟨fun i => E i (fw T g k + z.toBitVec.toNat), fun i => by rw [evi i, if_pos hx], fun i => ?_, h3.symm⟩⟩
            rw [hf, g1 i, fr1.1 i _ (by omega), hW i _ (by omega)]
        · obtain ⟨t, e4, e5⟩ := er
          refine FX.le (a := 0) (FX.nil ⟨⟨fr1.1, fun i j hj => fr1.2 i j (by omega)⟩, Or.inr ⟨t, fun i => ?_, e5⟩⟩) (by omega)
          rw [ev, if_neg q, if_pos q2, e4 i]
      · rw [if_neg q2] at hcx hcs hwf hf1 hf2 hd4
        obtain ⟨c, h1, h2, h3⟩ := hcx
        have l1 := CX.le _ _ _ _ _ _ h1
        have hf : f ≤ 11 := by
          cases hx : cl T x with
          | true => have := hf1 hx; omega
          | false => have := hf2 hx; omega
        refine FX.seq (b := 1) (ihx s (i - 1) f h a c m r hwf.2.2 (je_un q q2 hje) h1 hcs.2.2 (by omega) hM hW hz ha (by omega) hf1 hf2 hnd hh) (fun m1 r1 p1 hQ => ?_) (by omega)
        obtain ⟨fr1, ok | er⟩ := hQ
        · obtain ⟨v1, e1, e2, e3⟩ := ok
          rw [e3]
          refine sim_un h2 (fun i j k1 k2 => (fr1.1 i j (by omega)).trans (hM i j k1 k2)) (by omega) (by omega) (by omega) (by omega) (fun i => (fr1.2 i 0 (by omega)).trans (hz i)) (fun r2 g1 g2 => ?_)
          refine ⟨⟨fr1.1, fun i j hj => (g2 i j (by omega)).trans (fr1.2 i j hj)⟩, Or.inl ⟨fun i => one (TK T (p / 2)) (v1 i), fun i => by rw [ev, if_neg q, if_neg q2, e1 i], fun i => ?_, h3.symm⟩⟩
          rw [g1 i, e2 i]
        · obtain ⟨t, e4, e5⟩ := er
          refine FX.le (a := 0) (FX.nil ⟨fr1, Or.inr ⟨t, fun i => ?_, e5⟩⟩) (by omega)
          rw [ev, if_neg q, if_neg q2, e4 i]
end SimX
