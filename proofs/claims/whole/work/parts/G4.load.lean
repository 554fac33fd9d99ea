section Load1
theorem je_lt {T : TX} {N : Nat} {g : List DD} {w : Bool} : ∀ (e : Tr) (z : Nat × Nat), WF T N e → je T g w e = .error z → z.2 < N := by
  intro e
  induction e with
  | leaf t =>
    intro z hw h
    have hw := hw.1
    unfold je at h
    split at h
    · cases h
    · split at h
      · cases h
        show t < N
        omega
      · split at h
        · cases h
          show t < N
          omega
        · cases h
  | branch p a b iha ihb =>
    intro z hw h
    rw [WF] at hw
    unfold je at h
    split at h
    · rename_i q
      rw [if_pos q] at hw
      split at h
      · rename_i z' hz
        cases h
        exact iha _ hw.2.2.1 hz
      · split at h
        · rename_i z' hz
          cases h
          exact ihb _ hw.2.2.2 hz
        · split at h
          · split at h
            · cases h
              show p / 2 < N
              omega
            · split at h
              · cases h
                show p / 2 < N
                omega
              · cases h
          · cases h
    · rename_i q
      rw [if_neg q] at hw
      split at h
      · rename_i q2
        rw [if_pos q2] at hw
        split at h
        · cases h
          show p / 2 < N
          omega
        · split at h
          · cases h
            show p / 2 + 1 < N
            omega
          · split at h
            · split at h
              · rename_i z' hz
                cases h
                exact iha _ hw.2.2 hz
              · split at h
                · cases h
                  show p / 2 + 1 < N
                  omega
                · cases h
            · cases h
              show p / 2 < N
              omega
      · rename_i q2
        rw [if_neg q2] at hw
        exact iha _ hw.2.2 h
theorem jt_lt {T : TX} {g : List DD} {w r : Bool} {t : Nat} {z : Nat × Nat} (h : jt T g w r t = .error z) : z.2 = t := by
  unfold jt at h
  split at h
  · cases h
    rfl
  · split at h
    · cases h
      rfl
    · split at h
      · cases h
      · cases h
        rfl
theorem js_lt {T : TX} {N : Nat} {g : List DD} : ∀ (e : Tr) (m : Nat) (w : Bool) (z : Nat × Nat), WFS T N e m → js T g e m w = .error z → z.2 < N := by
  intro e
  induction e with
  | leaf t => intro m w z _ h; cases h
  | branch p a b iha ihb =>
    intro m w z hw h
    rw [WFS] at hw
    unfold js at h
    split at h
    · rename_i q
      rw [if_pos q] at hw
      split at h
      · rename_i z' hz
        cases h
        exact iha 1 w _ hw.1 hz
      · exact ihb 0 w z hw.2 h
    · rename_i q
      rw [if_neg q] at hw
      split at h
      · rename_i q1
        rw [if_pos q1] at hw
        obtain ⟨h0, hw⟩ := hw
        split at h
        · rename_i c0
          rw [if_pos c0] at hw
          split at h
          · rename_i z' hz
            cases h
            rw [jt_lt hz]
            omega
          · split at h
            · rename_i z' hz
              cases h
              exact je_lt a _ hw.2 hz
            · split at h
              · cases h
                show p / 8 < N
                omega
              · cases h
        · rename_i c0
          rw [if_neg c0] at hw
          split at h
          · rename_i c1
            rw [if_pos c1] at hw
            split at h
            · rename_i z' hz
              cases h
              rw [jt_lt hz]
              omega
            · split at h
              · rename_i z' hz
                cases h
                exact je_lt a _ hw.2.2.2.1 hz
              · split at h
                · cases h
                  exact h0
                · split at h
                  · rename_i z' hz
                    cases h
                    exact je_lt b _ hw.2.2.2.2 hz
                  · split at h
                    · cases h
                      show p / 8 < N
                      omega
                    · cases h
          · rename_i c1
            rw [if_neg c1] at hw
            split at h
            · rename_i c2
              rw [if_pos c2] at hw
              split at h
              · cases h
                show p / 8 < N
                omega
              · split at h
                · rename_i z' hz
                  cases h
                  exact je_lt a _ hw.2 hz
                · split at h
                  · cases h
                    show p / 8 < N
                    omega
                  · cases h
            · rename_i c2
              rw [if_neg c2] at hw
              split at h
              · rename_i c3
                rw [if_pos c3] at hw
                split at h
                · cases h
                  show p / 8 < N
                  omega
                · split at h
                  · rename_i z' hz
                    cases h
                    exact je_lt a _ hw.2.1 hz
                  · split at h
                    · cases h
                      show p / 8 < N
                      omega
                    · exact ihb 0 w z hw.2.2 h
              · rename_i c3
                rw [if_neg c3] at hw
                split at h
                · rename_i c4
                  rw [if_pos c4] at hw
                  split at h
                  · rename_i z' hz
                    cases h
                    exact je_lt a _ hw.2.1 hz
                  · exact ihb 0 _ z hw.2.2 h
                · rename_i c4
                  rw [if_neg c4] at hw
                  split at h
                  · rename_i z' hz
                    cases h
                    exact je_lt a _ hw.2.2.1 hz
                  · exact ihb 2 _ z hw.2.2.2 h
      · rename_i q1
        rw [if_neg q1] at hw
        split at h
        · rename_i z' hz
          cases h
          exact iha 0 w _ hw.1 hz
        · exact ihb 0 w z hw.2 h
theorem jD_lt {T : TX} {N : Nat} : ∀ (ds g : List DD) (z : Nat × Nat) (t t' : Nat), WFDs T N ds t t' → jD T ds g = .error z → z.2 < N := by
  intro ds
  induction ds with
  | nil => intro g z t t' _ h; cases h
  | cons x ds ih =>
    intro g z t t' hw h
    obtain ⟨_, ⟨_, _, _, _, _, _, h6⟩, h7⟩ := hw
    unfold ndk at h6
    unfold jD at h
    split at h
    · cases h
      show ntk x < N
      omega
    · split at h
      · rename_i c
        have hb : bN x.2.2 = 1 := by rw [c.1]; rfl
        cases h
        show ntk x + 2 < N
        omega
      · split at h
        · cases h
          show ntk x < N
          omega
        · exact ih _ z _ _ h7 h
theorem jp_lt {T : TX} {N : Nat} {ds : List DD} {e : Tr} {z : Nat × Nat} {t t' : Nat} (hd : WFDs T N ds t t') (hw : WFS T N e 0) (h : jp T ds e = .error z) : z.2 < N := by
  unfold jp at h
  split at h
  · rename_i z' hz
    cases h
    exact jD_lt ds [] _ _ _ hd hz
  · split at h
    · rename_i z' hz
      cases h
      exact js_lt e 0 false _ hw hz
    · cases h
theorem jp_ok {T : TX} {ds : List DD} {e : Tr} {g : List DD} (h : jp T ds e = .ok g) : g = ds ∧ js T g e 0 false = .ok () := by
  unfold jp at h
  split at h
  · cases h
  · rename_i g' hg
    split at h
    · cases h
    · rename_i y hy
      cases h
      have := jD_ok ds [] g hg
      rw [List.nil_append] at this
      exact ⟨this, hy⟩
theorem CD_kd {T : TX} {σ : SX4} : ∀ (ds : List DD) (s : Nat), CD T σ ds s → ∀ j, s ≤ j → j < s + szD ds → σ.1.1.2 j = 11 ∨ σ.1.1.2 j = 12 := by
  intro ds
  induction ds with
  | nil =>
    intro s _ j h1 h2
    have : szD [] = 0 := rfl
    omega
  | cons x ds ih =>
    intro s h j h1 h2
    have es : szD (x :: ds) = 1 + bN x.2.2 + szD ds := rfl
    by_cases c : j = s
    · rw [c]
      exact Or.inl h.1.1
    · by_cases c2 : j < s + 1 + bN x.2.2
      · have hb : x.2.2 = true := by
          cases hx : x.2.2 with
          | true => rfl
          | false =>
            have : bN x.2.2 = 0 := by rw [hx]; rfl
            omega
        have hb1 : bN x.2.2 = 1 := by rw [hb]; rfl
        have : j = s + 1 := by omega
        rw [this]
        exact Or.inr (h.2.1 hb).1
      · exact ih _ h.2.2 j (by omega) (by omega)
theorem WFDs_sp {T : TX} {N : Nat} : ∀ (ds : List DD) (t t' : Nat), WFDs T N ds t t' → PL T t + 8 * nrw ds ≤ PL T t' := by
  intro ds
  induction ds with
  | nil =>
    intro t t' h
    have h : t = t' := h
    rw [h]
    exact Nat.le_refl _
  | cons x ds ih =>
    intro t t' h
    obtain ⟨h1, ⟨_, _, _, _, h5, h6, _⟩, h7⟩ := h
    have h8 := ih _ _ h7
    have es : nrw (x :: ds) = (if x.2.2 = true then 1 else 0) + nrw ds := rfl
    rw [es, ← h1]
    by_cases c : x.2.2 = true
    · have hb : bN x.2.2 = 1 := by rw [c]; rfl
      rw [if_pos c]
      omega
    · rw [if_neg c]
      omega
theorem nrw_len : ∀ g : List DD, nrw g ≤ g.length := by
  intro g
  induction g with
  | nil => exact Nat.le_refl _
  | cons x g ih =>
    have es : nrw (x :: g) = (if x.2.2 = true then 1 else 0) + nrw g := rfl
    have el : (x :: g).length = g.length + 1 := rfl
    rw [es, el]
    split <;> omega
/-- the room for the orders is enough -/
theorem room_ok {T : TX} {N t1 t' : Nat} {g : List DD} {e : Tr} (hT : LT T N) (h3 : T.2 ≤ 3000) (hv : GV T N g) (hd : WFDs T N g 0 t1) (hw : WFS T N e 0) (hx : XS T e 0 t1 t' 31) (ht : t' < N) : 532 + 10 * nrw g + wS' T e 0 ≤ 4090 := by
  have a1 := WFDs_sp g 0 t1 hd
  have a2 := wS_span hT e 0 t1 t' 31 hw hx ht
  have a3 := PL_le T t'
  have a4 := nrw_len g
  have a5 := hv.len
  have a6 := hv.2
  omega
end Load1
