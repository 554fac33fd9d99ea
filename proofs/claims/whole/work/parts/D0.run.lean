section RunS
/-! what statements do: words, steps left, what was told, how it ended -/
abbrev SR : Type := (Nat → Int32) × Nat × List Int32 × Option (Nat × Nat)
def stepS (w : Bool) (t : Nat) (S : SR) : SR := if w = true then S else if S.2.1 = 0 then (S.1, 0, S.2.2.1, some (2, t)) else (S.1, S.2.1 - 1, S.2.2.1, none)
def failS (S : SR) (c t : Nat) : SR := (S.1, S.2.1, S.2.2.1, some (c, t))
def wloop (T : TX) (g : List DD) (w : Bool) (t : Nat) (x : Tr) (f : SR → SR) : Nat → SR → SR
  | 0, S => S
  | n + 1, S => match S.2.2.2 with
    | some _ => S
    | none => match (stepS w t S).2.2.2 with
      | some _ => stepS w t S
      | none => match ev T g (stepS w t S).1 x with
        | .error z => failS (stepS w t S) 1 z
        | .ok v => if v = 0 then stepS w t S else wloop T g w t x f n (f (stepS w t S))
def rs (T : TX) (g : List DD) : Tr → Nat → Bool → SR → SR
  | .leaf _, _, _, S => S
  | .branch p x y, m, w, S => if m = 0 then rs T g y 0 w (rs T g x 1 w S)
    else if m = 1 then
      (match S.2.2.2 with
      | some _ => S
      | none => match (stepS w (p / 8) S).2.2.2 with
        | some _ => stepS w (p / 8) S
        | none =>
          if p % 8 = 0 then (match ev T g (stepS w (p / 8) S).1 x with
            | .error z => failS (stepS w (p / 8) S) 1 z
            | .ok v => (upd (stepS w (p / 8) S).1 (fw T g (nmk T g (p / 8))) v, (stepS w (p / 8) S).2))
          else if p % 8 = 1 then (match ev T g (stepS w (p / 8) S).1 x with
            | .error z => failS (stepS w (p / 8) S) 1 z
            | .ok i => if i.toBitVec.toNat < dsz T (gx g (nmk T g (p / 8))) then (match ev T g (stepS w (p / 8) S).1 y with
              | .error z => failS (stepS w (p / 8) S) 1 z
              | .ok v => (upd (stepS w (p / 8) S).1 (fw T g (nmk T g (p / 8)) + i.toBitVec.toNat) v, (stepS w (p / 8) S).2))
              else failS (stepS w (p / 8) S) 1 (p / 8 + 1))
          else if p % 8 = 2 then (match ev T g (stepS w (p / 8) S).1 x with
            | .error z => failS (stepS w (p / 8) S) 1 z
            | .ok v => if (stepS w (p / 8) S).2.2.1.length = 100 then failS (stepS w (p / 8) S) 3 (p / 8) else ((stepS w (p / 8) S).1, (stepS w (p / 8) S).2.1, (stepS w (p / 8) S).2.2.1 ++ [v], none))
          else if p % 8 = 3 then wloop T g w (p / 8) x (rs T g y 0 w) ((stepS w (p / 8) S).2.1 + 1) (stepS w (p / 8) S)
          else (match ev T g (stepS w (p / 8) S).1 x with
            | .error z => failS (stepS w (p / 8) S) 1 z
            | .ok v => if p % 8 = 4 then (if v = 0 then stepS w (p / 8) S else rs T g y 0 (w || esc T g x) (stepS w (p / 8) S)) else rs T g y (if v = 0 then 3 else 2) (w || esc T g x) (stepS w (p / 8) S)))
    else if m = 2 then rs T g x 0 w S else rs T g y 0 w S
theorem stepS_st (w : Bool) (t : Nat) (S : SR) : (stepS w t S).2.1 ≤ S.2.1 := by
  unfold stepS
  split
  · exact Nat.le_refl _
  · split
    · exact Nat.zero_le _
    · exact Nat.sub_le _ _
theorem wloop_st {T : TX} {g : List DD} {w : Bool} {t : Nat} {x : Tr} {f : SR → SR} (hf : ∀ S, (f S).2.1 ≤ S.2.1) : ∀ (n : Nat) (S : SR), (wloop T g w t x f n S).2.1 ≤ S.2.1 := by
  intro n
  induction n with
  | zero => intro S; exact Nat.le_refl _
  | succ n ih =>
    intro S
    have h1 := stepS_st w t S
    rw [wloop]
    split
    · exact Nat.le_refl _
    · split
      · exact h1
      · split
        · exact h1
        · split
          · exact h1
          · have h2 := ih (f (stepS w t S))
            have h3 := hf (stepS w t S)
            omega
theorem rs_st {T : TX} {g : List DD} : ∀ (e : Tr) (m : Nat) (w : Bool) (S : SR), (rs T g e m w S).2.1 ≤ S.2.1 := by
  intro e
  induction e with
  | leaf t => intro m w S; exact Nat.le_refl _
  | branch p x y ihx ihy =>
    intro m w S
    have h1 := stepS_st w (p / 8) S
    rw [rs]
    split
    · have h2 := ihx 1 w S
      have h3 := ihy 0 w (rs T g x 1 w S)
      omega
    · split
      · split
        · exact Nat.le_refl _
        · split
          · exact h1
          · split
            · split
              · exact h1
              · exact h1
            · split
              · split
                · exact h1
                · split
                  · split
                    · exact h1
                    · exact h1
                  · exact h1
              · split
                · split
                  · exact h1
                  · split
                    · exact h1
                    · exact h1
                · split
                  · have h2 := wloop_st (T := T) (g := g) (w := w) (t := p / 8) (x := x) (ihy 0 w) ((stepS w (p / 8) S).2.1 + 1) (stepS w (p / 8) S)
                    omega
                  · split
                    · exact h1
                    · split
                      · split
                        · exact h1
                        · have h2 := ihy 0 (w || esc T g x) (stepS w (p / 8) S)
                          omega
                      · exact Nat.le_trans (ihy _ _ _) h1
      · split
        · exact ihx 0 w S
        · exact ihy 0 w S
/-- an ended run stays as it is -/
theorem rs_end {T : TX} {g : List DD} {z : Nat × Nat} : ∀ (e : Tr) (m : Nat) (w : Bool) (S : SR), S.2.2.2 = some z → rs T g e m w S = S := by
  intro e
  induction e with
  | leaf t => intro m w S _; rfl
  | branch p x y ihx ihy =>
    intro m w S h
    rw [rs]
    split
    · rw [ihx 1 w S h, ihy 0 w S h]
    · split
      · rw [h]
      · split
        · exact ihx 0 w S h
        · exact ihy 0 w S h
theorem fw_lt {T : TX} {g : List DD} {k k' : Nat} (h1 : k' < k) (hk : k ≤ g.length) : fw T g k' + dsz T (gx g k') ≤ fw T g k := by
  have hx : gx (g.take k) k' = gx g k' := by
    unfold gx
    rw [List.getElem?_take_of_lt (by omega)]
  have := wds_take (T := T) (g := g.take k) (k := k') (by rw [List.length_take]; omega)
  rw [List.take_take, Nat.min_eq_left (by omega), hx] at this
  exact this
/-- a secret word is not public -/
theorem pw_ne {T : TX} {g : List DD} {k w j : Nat} (hk : k < g.length) (hs : dsec T (gx g k) = true) (hj : j < dsz T (gx g k)) (hp : pw T g w) : ¬ w = fw T g k + j := by
  obtain ⟨k2, h1, h2, h3, h4⟩ := hp
  intro e
  have hne : ¬ k2 = k := fun c => by rw [c, hs] at h2; cases h2
  by_cases q : k2 < k
  · have := fw_lt (T := T) q (Nat.le_of_lt hk)
    omega
  · have := fw_lt (T := T) (k' := k) (k := k2) (by omega) (Nat.le_of_lt h1)
    omega
theorem ev_hid {T : TX} {N : Nat} {g : List DD} (hv : GV T N g) (E : Nat → Int32) {e : Tr} {s : Bool} (h : je T g true e = .ok s) : ∃ v, ev T g E e = .ok v := by
  rcases ev_ni (ι := Unit) (E := fun _ => E) hv (fun _ _ _ _ => rfl) true e s h with ⟨c, _⟩ | ⟨v, h1, _⟩
  · cases c
  · exact ⟨v (), h1 ()⟩
noncomputable def hE (T : TX) (g : List DD) (e : Tr) (m : Nat) (E : Nat → Int32) : Nat → Int32 := (rs T g e m true (E, 0, [], none)).1
/-- within an if with a secret EXPR only secret words change -/
theorem rs_hid {T : TX} {N : Nat} {g : List DD} (hv : GV T N g) : ∀ (e : Tr) (m : Nat), m ≤ 3 → WFS T N e (szM m) → js T g e (szM m) true = .ok () → ∀ (E : Nat → Int32), (∀ st o, rs T g e m true (E, st, o, none) = (hE T g e m E, st, o, none)) ∧ ∀ w, pw T g w → hE T g e m E w = E w := by
  intro e
  induction e with
  | leaf t =>
    intro m hm _ _ E
    exact ⟨fun _ _ => rfl, fun _ _ => rfl⟩
  | branch p x y ihx ihy =>
    intro m hm hwf hj E
    have cl2 : ∀ {E' : Nat → Int32}, (∀ st o, rs T g (.branch p x y) m true (E, st, o, none) = (E', st, o, none)) → (∀ w, pw T g w → E' w = E w) → (∀ st o, rs T g (.branch p x y) m true (E, st, o, none) = (hE T g (.branch p x y) m E, st, o, none)) ∧ ∀ w, pw T g w → hE T g (.branch p x y) m E w = E w := by
      intro E' h1 h2
      have e1 : hE T g (.branch p x y) m E = E' := by
        unfold hE
        rw [h1]
      rw [e1]
      exact ⟨h1, h2⟩
    by_cases m0 : m = 0
    · rw [m0] at hj hwf
      obtain ⟨j1, j2⟩ := js_0 (T := T) (g := g) hj
      rw [show szM 0 = 0 from rfl, WFS, if_pos rfl] at hwf
      obtain ⟨a1, a2⟩ := ihx 1 (by omega) hwf.1 j1 E
      obtain ⟨b1, b2⟩ := ihy 0 (by omega) hwf.2 j2 (hE T g x 1 E)
      refine cl2 (E' := hE T g y 0 (hE T g x 1 E)) (fun st o => ?_) (fun w hw => (b2 w hw).trans (a2 w hw))
      rw [rs, if_pos m0, a1, b1]
    · by_cases m1 : m = 1
      · rw [m1] at hj hwf
        rw [show szM 1 = 1 from rfl, WFS, if_neg (by omega), if_pos rfl] at hwf
        obtain ⟨_, hwf⟩ := hwf
        have pre : ∀ (st : Nat) (o : List Int32), (stepS true (p / 8) (E, st, o, none)) = (E, st, o, none) := fun _ _ => rfl
        by_cases c0 : p % 8 = 0
        · obtain ⟨k, s, h1, h2, h3⟩ := js_put c0 hj
          obtain ⟨t1, t2, t3⟩ := jt_ok h1
          obtain ⟨v, hv1⟩ := ev_hid hv E h2
          have hs : dsec T (gx g k) = true := by
            cases hd : dsec T (gx g k) with
            | true => rfl
            | false => rw [hd] at t3; exact absurd (by rw [Bool.not_false, Bool.or_true]; rfl) t3
          have hkl := fdI_lt g _ k t1
          have hd := (hv.1 _ (gx_mem hkl)).2.1
          refine cl2 (E' := upd E (fw T g k) v) (fun st o => ?_) (fun w hw => ?_)
          · rw [rs, if_neg m0, if_pos m1]
            show (if p % 8 = 0 then _ else _) = _
            rw [if_pos c0]
            show (match ev T g E x with | .error z => _ | .ok v => (upd E (fw T g (nmk T g (p / 8))) v, (st, o, none))) = _
            rw [hv1, nmk, t1]
            rfl
          · exact pk_un (fun c => pw_ne hkl hs (j := 0) (by omega) hw c)
        · by_cases c1 : p % 8 = 1
          · obtain ⟨k, s, h1, h2, h3, h4⟩ := js_putin c1 hj
            obtain ⟨t1, t2, t3⟩ := jt_ok h1
            rw [t2] at t3
            exact absurd rfl t3
          · by_cases c2 : p % 8 = 2
            · obtain ⟨h1, _⟩ := js_out c2 hj
              cases h1
            · by_cases c3 : p % 8 = 3
              · obtain ⟨h1, _⟩ := js_while c3 hj
                cases h1
              · rw [if_neg c0, if_neg c1, if_neg c2, if_neg c3] at hwf
                have hd : ∀ (st : Nat) (o : List Int32) (v : Int32), ev T g E x = .ok v → rs T g (.branch p x y) m true (E, st, o, none) = if p % 8 = 4 then (if v = 0 then (E, st, o, none) else rs T g y 0 true (E, st, o, none)) else rs T g y (if v = 0 then 3 else 2) true (E, st, o, none) := by
                  intro st o v hv1
                  rw [rs, if_neg m0, if_pos m1]
                  show (if p % 8 = 0 then _ else if p % 8 = 1 then _ else if p % 8 = 2 then _ else if p % 8 = 3 then _ else _) = _
                  rw [if_neg c0, if_neg c1, if_neg c2, if_neg c3]
                  show (match ev T g E x with | .error z => _ | .ok v => if p % 8 = 4 then (if v = 0 then (E, st, o, none) else rs T g y 0 true (E, st, o, none)) else rs T g y (if v = 0 then 3 else 2) true (E, st, o, none)) = _
                  rw [hv1]
                by_cases c4 : p % 8 = 4
                · obtain ⟨s, h1, h2⟩ := js_if c4 hj
                  rw [if_pos c4] at hwf
                  obtain ⟨v, hv1⟩ := ev_hid hv E h1
                  obtain ⟨b1, b2⟩ := ihy 0 (by omega) hwf.2.2 h2 E
                  by_cases v0 : v = 0
                  · refine cl2 (E' := E) (fun st o => ?_) (fun w hw => rfl)
                    rw [hd st o v hv1, if_pos c4, if_pos v0]
                  · refine cl2 (E' := hE T g y 0 E) (fun st o => ?_) b2
                    rw [hd st o v hv1, if_pos c4, if_neg v0, b1]
                · rw [if_neg c4] at hwf
                  obtain ⟨s, h1, h2⟩ := js_ife hwf.1 hj
                  obtain ⟨v, hv1⟩ := ev_hid hv E h1
                  by_cases v0 : v = 0
                  · obtain ⟨b1, b2⟩ := ihy 3 (by omega) hwf.2.2.2 h2 E
                    refine cl2 (E' := hE T g y 3 E) (fun st o => ?_) b2
                    rw [hd st o v hv1, if_neg c4, if_pos v0, b1]
                  · obtain ⟨b1, b2⟩ := ihy 2 (by omega) hwf.2.2.2 h2 E
                    refine cl2 (E' := hE T g y 2 E) (fun st o => ?_) b2
                    rw [hd st o v hv1, if_neg c4, if_neg v0, b1]
      · have em : szM m = 2 := by
          have : m = 2 ∨ m = 3 := by omega
          rcases this with e | e <;> (rw [e]; rfl)
        rw [em] at hj hwf
        rw [WFS, if_neg (by omega), if_neg (by omega)] at hwf
        obtain ⟨j1, j2⟩ := js_2 hj
        by_cases m2 : m = 2
        · obtain ⟨a1, a2⟩ := ihx 0 (by omega) hwf.1 j1 E
          refine cl2 (E' := hE T g x 0 E) (fun st o => ?_) a2
          rw [rs, if_neg m0, if_neg m1, if_pos m2, a1]
        · obtain ⟨a1, a2⟩ := ihy 0 (by omega) hwf.2 j2 E
          refine cl2 (E' := hE T g y 0 E) (fun st o => ?_) a2
          rw [rs, if_neg m0, if_neg m1, if_neg m2, a1]
end RunS
