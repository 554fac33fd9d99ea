section Cjs
def jt (T : TX) (g : List DD) (w r : Bool) (t : Nat) : Except (Nat × Nat) Nat :=
  match fdI T g t with
  | none => .error (1, t)
  | some k => if (w && ((gx g k).2.2 || !(dsec T (gx g k)))) = true then .error (8, t) else if (gx g k).2.2 = r then .ok k else .error (3, t)
/-- what is wrong in statements -/
def js (T : TX) (g : List DD) : Tr → Nat → Bool → Except (Nat × Nat) Unit
  | .leaf _, _, _ => .ok ()
  | .branch p a b, m, w => if m = 0 then (match js T g a 1 w with | .error z => .error z | .ok _ => js T g b 0 w)
    else if m = 1 then
      (if p % 8 = 0 then (match jt T g w false (p / 8) with
        | .error z => .error z
        | .ok k => match je T g w a with
          | .error z => .error z
          | .ok s => if (s && !(dsec T (gx g k))) = true then .error (7, p / 8) else .ok ())
      else if p % 8 = 1 then (match jt T g w true (p / 8) with
        | .error z => .error z
        | .ok k => match je T g w a with
          | .error z => .error z
          | .ok s1 => if s1 = true then .error (4, p / 8 + 1) else match je T g w b with
            | .error z => .error z
            | .ok s => if (s && !(dsec T (gx g k))) = true then .error (7, p / 8) else .ok ())
      else if p % 8 = 2 then (if w = true then .error (8, p / 8) else match je T g w a with
        | .error z => .error z
        | .ok s => if s = true then .error (7, p / 8) else .ok ())
      else if p % 8 = 3 then (if w = true then .error (8, p / 8) else match je T g w a with
        | .error z => .error z
        | .ok s => if s = true then .error (6, p / 8) else js T g b 0 w)
      else if p % 8 = 4 then (match je T g w a with
        | .error z => .error z
        | .ok s => js T g b 0 (w || s))
      else (match je T g w a with
        | .error z => .error z
        | .ok s => js T g b 2 (w || s)))
    else (match js T g a 0 w with | .error z => .error z | .ok _ => js T g b 0 w)
/-- whether an EXPR is secret, where nothing is wrong in it -/
def esc (T : TX) (g : List DD) : Tr → Bool
  | .leaf t => if TK T t = 3 then false else match fdI T g t with | none => false | some k => dsec T (gx g k)
  | .branch p a b => if p % 2 = 1 then (esc T g a || esc T g b) else if TK T (p / 2) = 2 then (match fdI T g (p / 2) with | none => false | some k => dsec T (gx g k)) else esc T g a
theorem je_esc {T : TX} {g : List DD} {w : Bool} : ∀ (e : Tr) (s : Bool), je T g w e = .ok s → s = esc T g e := by
  intro e
  induction e with
  | leaf t =>
    intro s h
    unfold je at h
    unfold esc
    split at h
    · rename_i q
      rw [if_pos q]
      cases h
      rfl
    · rename_i q
      rw [if_neg q]
      split at h
      · cases h
      · rename_i k hk
        split at h
        · cases h
        · rw [hk]
          cases h
          rfl
  | branch p a b iha ihb =>
    intro s h
    rw [je] at h
    rw [esc]
    split at h
    · rename_i q
      rw [if_pos q]
      cases ha : je T g w a with
      | error z =>
        rw [ha] at h
        cases h
      | ok s1 =>
        rw [ha] at h
        dsimp only at h
        cases hb : je T g w b with
        | error z =>
          rw [hb] at h
          cases h
        | ok s2 =>
          rw [hb] at h
          dsimp only at h
          rw [← iha s1 ha, ← ihb s2 hb]
          split at h
          · split at h
            · cases h
            · split at h
              · cases h
              · cases h
                rfl
          · cases h
            rfl
    · rename_i q
      rw [if_neg q]
      split at h
      · rename_i q2
        rw [if_pos q2]
        cases hf : fdI T g (p / 2) with
        | none =>
          rw [hf] at h
          cases h
        | some k =>
          rw [hf] at h
          dsimp only at h
          split at h
          · cases h
          · split at h
            · cases ha : je T g w a with
              | error z =>
                rw [ha] at h
                cases h
              | ok s1 =>
                rw [ha] at h
                dsimp only at h
                split at h
                · cases h
                · cases h
                  rfl
            · cases h
      · rename_i q2
        rw [if_neg q2]
        exact iha s h
/-- the class's nodes of statements with what their names mean -/
def CJS (T : TX) (g : List DD) (σ : SX4) : Tr → Nat → Nat → Prop
  | .leaf _, _, _ => True
  | .branch p a b, m, s => if m = 0 then CJS T g σ a 1 s ∧ CJS T g σ b 0 (s + szS T a 1) else if m = 1 then
      (if p % 8 = 0 then (∃ k, fdI T g (p / 8) = some k ∧ σ.1.2.2.1 s = nI k) ∧ CJ T g σ a (s + sz T a)
      else if p % 8 = 1 then (∃ k, fdI T g (p / 8) = some k ∧ σ.1.2.2.1 s = nI k) ∧ CJ T g σ a (s + sz T a) ∧ CJ T g σ b (s + sz T a + 1 + sz T b)
      else if p % 8 = 2 then CJ T g σ a (s + sz T a)
      else if p % 8 = 3 then CJ T g σ a (s + 1 + sz T a) ∧ CJS T g σ b 0 (s + sz T a + 3)
      else if p % 8 = 4 then CJ T g σ a (s + sz T a) ∧ σ.2.2.1 (s + sz T a + 1) = bi (esc T g a) ∧ CJS T g σ b 0 (s + sz T a + 2)
      else CJ T g σ a (s + sz T a) ∧ σ.2.2.1 (s + sz T a + 1) = bi (esc T g a) ∧ CJS T g σ b 2 (s + sz T a + 2))
      else CJS T g σ a 0 s ∧ CJS T g σ b 0 (s + szS T a 0 + 1)
theorem CJS.fr {T : TX} {g : List DD} {σ σ' : SX4} {lo hi : Nat} (ha : ∀ j, lo ≤ j → j < hi → σ'.1.2.2.1 j = σ.1.2.2.1 j ∧ σ'.2.2.1 j = σ.2.2.1 j) : ∀ (e : Tr) (m s : Nat), m ≤ 2 → CJS T g σ e m s → lo ≤ s → s + szS T e m ≤ hi → CJS T g σ' e m s := by
  have hv : ∀ j, lo ≤ j → j < hi → σ'.1.2.2.1 j = σ.1.2.2.1 j := fun j j1 j2 => (ha j j1 j2).1
  intro e
  induction e with
  | leaf t => intro m s _ _ _ _; trivial
  | branch p a b iha ihb =>
    intro m s hm h h1 h2
    have pa := sz_pos T a
    have pb := sz_pos T b
    rw [CJS] at h ⊢
    rw [szS] at h2
    by_cases m0 : m = 0
    · rw [if_pos m0] at h h2 ⊢
      exact ⟨iha 1 s (by omega) h.1 (by omega) (by omega), ihb 0 _ (by omega) h.2 (by omega) (by omega)⟩
    · rw [if_neg m0] at h h2 ⊢
      by_cases m1 : m = 1
      · rw [if_pos m1] at h h2 ⊢
        by_cases c0 : p % 8 = 0
        · rw [if_pos c0] at h h2 ⊢
          obtain ⟨⟨k, g1, g2⟩, g3⟩ := h
          exact ⟨⟨k, g1, (hv s (by omega) (by omega)).trans g2⟩, CJ.fr hv a _ g3 (by omega) (by omega) (by omega)⟩
        · rw [if_neg c0] at h h2 ⊢
          by_cases c1 : p % 8 = 1
          · rw [if_pos c1] at h h2 ⊢
            obtain ⟨⟨k, g1, g2⟩, g3, g4⟩ := h
            exact ⟨⟨k, g1, (hv s (by omega) (by omega)).trans g2⟩, CJ.fr hv a _ g3 (by omega) (by omega) (by omega), CJ.fr hv b _ g4 (by omega) (by omega) (by omega)⟩
          · rw [if_neg c1] at h h2 ⊢
            by_cases c2 : p % 8 = 2
            · rw [if_pos c2] at h h2 ⊢
              exact CJ.fr hv a _ h (by omega) (by omega) (by omega)
            · rw [if_neg c2] at h h2 ⊢
              by_cases c3 : p % 8 = 3
              · rw [if_pos c3] at h h2 ⊢
                exact ⟨CJ.fr hv a _ h.1 (by omega) (by omega) (by omega), ihb 0 _ (by omega) h.2 (by omega) (by omega)⟩
              · rw [if_neg c3] at h h2 ⊢
                by_cases c4 : p % 8 = 4
                · rw [if_pos c4] at h h2 ⊢
                  exact ⟨CJ.fr hv a _ h.1 (by omega) (by omega) (by omega), (ha _ (by omega) (by omega)).2.trans h.2.1, ihb 0 _ (by omega) h.2.2 (by omega) (by omega)⟩
                · rw [if_neg c4] at h h2 ⊢
                  exact ⟨CJ.fr hv a _ h.1 (by omega) (by omega) (by omega), (ha _ (by omega) (by omega)).2.trans h.2.1, ihb 2 _ (by omega) h.2.2 (by omega) (by omega)⟩
      · rw [if_neg m1] at h h2 ⊢
        exact ⟨iha 0 s (by omega) h.1 (by omega) (by omega), ihb 0 _ (by omega) h.2 (by omega) (by omega)⟩
theorem c_target {T : TX} {N L : Nat} {g : List DD} {σ : WSX1} {u hid i t : Nat} {r : Bool} {po : Int32 → WSX1 → Prop} (hv : GV T N g) (hj : JI T g L σ u hid) (hi : i < u) (K : TK T t = 2) (hk : σ.1.2.1.1.2 i = (if r = true then 14 else 13)) (hp : σ.1.2.1.2.1 i = nI (PL T t))
    (hY : ∀ k, jt T g (decide (0 < hid)) r t = .ok k → k < g.length → po 0 ((σ.1.1, ((σ.1.2.1.1, (σ.1.2.1.2.1, ((upd σ.1.2.1.2.2.1 i (nI k)), σ.1.2.1.2.2.2))), σ.1.2.2)), σ.2))
    (hF : ∀ z σ', jt T g (decide (0 < hid)) r t = .error z → JX T L σ σ' z → po (nI z.1) σ') : wp_X1_lookAtTarget σ (nI i) po := by
  obtain ⟨j1, j2, j3, j4, j5⟩ := id hj
  have hl := hv.len
  have hw := hv.2
  unfold wp_X1_lookAtTarget
  refine c_nplace j1 hi ?_
  rw [hp]
  refine c_findN j2 hv j3 K ?_
  unfold jt at hY hF
  cases hf : fdI T g t with
  | none =>
    rw [hf] at hF
    dsimp only at hF
    refine ⟨fun c => absurd rfl c, fun _ => c_nplace j1 hi ?_⟩
    exact hF (1, t) _ rfl ⟨hp, ⟨u, j1⟩, rfl, (by decide : 0 < 1), (by decide : 1 < 100)⟩
  | some k =>
    rw [hf] at hY hF
    dsimp only at hY hF
    have hkl := fdI_lt g _ k hf
    have ek : rI 0 (some k) = nI k := by show nI (0 + k) = _; rw [Nat.zero_add]
    rw [ek]
    refine ⟨fun _ => c_keepValue j1 hi ?_, fun c => absurd c (nI_nem1 (by omega))⟩
    have kn : kN (σ.1.2.1.1.2 i) = false := by rw [hk]; cases r <;> decide
    have nw1 : NW0 ((σ.1.2.1.1, (σ.1.2.1.2.1, ((upd σ.1.2.1.2.2.1 i (nI k)), σ.1.2.1.2.2.2))), σ.1.2.2) u L := (JN.v σ.1.2 i (nI k) kn).nw j1
    have k1 : (((σ.1.2.1.1, (σ.1.2.1.2.1, ((upd σ.1.2.1.2.2.1 i (nI k)), σ.1.2.1.2.2.2))), σ.1.2.2) : SX4).1.1.2 i = (if r = true then 14 else 13) := hk
    -- the row fits or not
    have p88 : ¬ (decide (0 < hid) && ((gx g k).2.2 || !(dsec T (gx g k)))) = true → wp_X1_lookAtTarget_88 po ((σ.1.1, ((σ.1.2.1.1, (σ.1.2.1.2.1, ((upd σ.1.2.1.2.2.1 i (nI k)), σ.1.2.1.2.2.2))), σ.1.2.2)), σ.2) (nI i) (nI k) := by
      intro hn
      rw [if_neg hn] at hY hF
      refine c_nrow hv j3 hkl (c_nkind nw1 hi ?_)
      rw [k1]
      have fin : ∀ r2 : Bool, r2 = r → wp_X1_lookAtTarget_115 po ((σ.1.1, ((σ.1.2.1.1, (σ.1.2.1.2.1, ((upd σ.1.2.1.2.2.1 i (nI k)), σ.1.2.1.2.2.2))), σ.1.2.2)), σ.2) (nI i) (bi r2) (bi (gx g k).2.2) := by
        intro r2 hr
        rw [hr]
        by_cases q : (gx g k).2.2 = r
        · rw [if_pos q] at hY
          refine ⟨fun _ => ⟨fun _ => hY k rfl hkl, fun c => absurd rfl c⟩, fun c => absurd (by rw [q]) c⟩
        · rw [if_neg q] at hF
          refine ⟨fun c => ?_, fun _ => ?_⟩
          · exfalso
            apply q
            revert c
            cases (gx g k).2.2 <;> cases r <;> intro c <;> first | rfl | exact absurd c (by decide)
          · refine c_wrongIf (b := true) nw1 hi (fun c2 => absurd c2 (by decide)) (fun _ => ?_)
            exact hF (3, t) _ rfl ⟨hp, ⟨u, nw1⟩, rfl, (by decide : 0 < 3), (by decide : 3 < 100)⟩
      cases r with
      | true => exact ⟨fun c => absurd rfl c, fun _ => fin true rfl⟩
      | false => exact ⟨fun _ => fin false rfl, fun c => absurd c (by decide)⟩
    have p73 : (decide (0 < hid) && ((gx g k).2.2 || !(dsec T (gx g k)))) = true → wp_X1_lookAtTarget_73 po ((σ.1.1, ((σ.1.2.1.1, (σ.1.2.1.2.1, ((upd σ.1.2.1.2.2.1 i (nI k)), σ.1.2.1.2.2.2))), σ.1.2.2)), σ.2) (nI i) := by
      intro hn
      rw [if_pos hn] at hF
      refine c_nplace nw1 hi ?_
      exact hF (8, t) _ rfl ⟨hp, ⟨u, nw1⟩, rfl, (by decide : 0 < 8), (by decide : 8 < 100)⟩
    rw [j4]
    refine ⟨fun c => p88 (by rw [(hid_le j5).mp c, Bool.false_and]; decide), fun c => ?_⟩
    have wt : decide (0 < hid) = true := by
      cases z : decide (0 < hid) with
      | true => rfl
      | false => exact absurd ((hid_le j5).mpr z) c
    rw [wt] at p88 p73
    refine c_nrow hv j3 hkl ⟨fun c2 => p73 (by rw [ne0_t c2]; rfl), fun c2 => c_nsec j3 (by omega) hkl ⟨fun c3 => p88 (by rw [eq0_f c2, ne0_t c3]; decide), fun c3 => p73 (by rw [eq0_f c3]; cases (gx g k).2.2 <;> rfl)⟩⟩
end Cjs
