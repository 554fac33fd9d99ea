section Perf2
def okc (S : SR) : Prop := ∀ c t, S.2.2.2 = some (c, t) → 0 < c ∧ c < 4
theorem okc_f {S : SR} {c t : Nat} (h : 0 < c ∧ c < 4) : okc (failS S c t) := by
  intro c' t' e
  have e : some (c, t) = some (c', t') := e
  cases e
  exact h
theorem okc_s {w : Bool} {t : Nat} {S : SR} (h : okc S) : okc (stepS w t S) := by
  unfold stepS
  split
  · exact h
  · split
    · intro c t e
      have e : some (2, _) = some (c, t) := e
      cases e
      exact ⟨by decide, by decide⟩
    · intro c t e
      cases e
theorem okc_w {T : TX} {g : List DD} {w : Bool} {t : Nat} {x : Tr} {f : SR → SR} (hf : ∀ S, okc S → okc (f S)) : ∀ (n : Nat) (S : SR), okc S → okc (wloop T g w t x f n S) := by
  intro n
  induction n with
  | zero => intro S h; exact h
  | succ n ih =>
    intro S h
    have h1 := okc_s (w := w) (t := t) h
    rw [wloop]
    split
    · exact h
    · split
      · exact h1
      · split
        · exact okc_f ⟨by decide, by decide⟩
        · split
          · exact h1
          · exact ih _ (hf _ h1)
theorem rs_code {T : TX} {g : List DD} : ∀ (e : Tr) (m : Nat) (w : Bool) (S : SR), okc S → okc (rs T g e m w S) := by
  intro e
  induction e with
  | leaf t => intro m w S h; exact h
  | branch p x y ihx ihy =>
    intro m w S h
    have h1 := okc_s (w := w) (t := p / 8) h
    rw [rs]
    split
    · exact ihy 0 w _ (ihx 1 w S h)
    · split
      · split
        · exact h
        · split
          · exact h1
          · split
            · split
              · exact okc_f ⟨by decide, by decide⟩
              · exact h1
            · split
              · split
                · exact okc_f ⟨by decide, by decide⟩
                · split
                  · split
                    · exact okc_f ⟨by decide, by decide⟩
                    · exact h1
                  · exact okc_f ⟨by decide, by decide⟩
              · split
                · split
                  · exact okc_f ⟨by decide, by decide⟩
                  · split
                    · exact okc_f ⟨by decide, by decide⟩
                    · intro c t e
                      cases e
                · split
                  · exact okc_w (ihy 0 w) _ _ h1
                  · split
                    · exact okc_f ⟨by decide, by decide⟩
                    · split
                      · split
                        · exact h1
                        · exact ihy 0 _ _ h1
                      · exact ihy _ _ _ h1
      · split
        · exact ihx 0 w S h
        · exact ihy 0 w S h
/-- how many of the first inputs are public -/
def pcn (l : List (Nat × Bool)) : Nat → Nat
  | 0 => 0
  | k + 1 => if (ix l k).2 = false then pcn l k + 1 else pcn l k
theorem pcn_le (l : List (Nat × Bool)) : ∀ k, pcn l k ≤ k := by
  intro k
  induction k with
  | zero => exact Nat.le_refl _
  | succ k ih =>
    rw [pcn]
    split <;> omega
theorem pcn_mono (l : List (Nat × Bool)) {j : Nat} : ∀ k, j ≤ k → pcn l j ≤ pcn l k := by
  intro k
  induction k with
  | zero =>
    intro h
    have : j = 0 := by omega
    rw [this]
    exact Nat.le_refl _
  | succ k ih =>
    intro h
    by_cases e : j = k + 1
    · rw [e]
      exact Nat.le_refl _
    · have := ih (by omega)
      rw [pcn.eq_2]
      split <;> omega
theorem pcn_lt (l : List (Nat × Bool)) {j k : Nat} (h : j < k) (hj : (ix l j).2 = false) : pcn l j < pcn l k := by
  have h1 := pcn_mono l (j := j + 1) k h
  rw [pcn.eq_2, if_pos hj] at h1
  omega
def SEEN (T : TX) (g : List DD) (e : Tr) (u : Nat) (pl B M : Nat → Int32) (st : Nat) (PB : Nat → Int32) (cy : CY) : Prop := ∀ E m r, WST T g M PB st E m r → ∃ σ' : SX2, σ'.2 = cy ∧ FINM T u pl B M (rs T g e 0 false (E, st, [], none)) (fun _ => 0) σ' ∧ ∀ post : Int32 → SX2 → Prop, post 1 σ' → wp_X2_work (ms m r (fun _ => 0) 512 c00) (nI 100000000) post
noncomputable def cyF (T : TX) (g : List DD) (e : Tr) (u : Nat) (pl B M : Nat → Int32) (st : Nat) (PB : Nat → Int32) : CY := @Classical.epsilon CY ⟨c00⟩ (SEEN T g e u pl B M st PB)
/-- what is kept of a run -/
def PASTOK (T : TX) (g : List DD) (e : Tr) (u : Nat) (pl B M : Nat → Int32) (p : SX6) (inp : Nat → Int32) (st : Nat) : Prop := st ≤ 2000 ∧ p.2.1 = nI st ∧ p.1.2 = nI (pcn (iwF T g 0) (iwF T g 0).length) ∧ (∀ k, k < (iwF T g 0).length → (ix (iwF T g 0) k).2 = false → p.1.1 (pcn (iwF T g 0) k) = inp k) ∧ p.2.2 = ((cyF T g e u pl B M st (PBof T g inp)).2.2, (cyF T g e u pl B M st (PBof T g inp)).1.2)
theorem c_rem {T : TX} {N st : Nat} {g : List DD} (hv : GV T N g) {A : ((Nat → Int32) × Int32) × (Int32 × (Int32 × Int32))} {n4 : SX4} {n3 : SX3} {t8 : SX8} {mc : SX2} {p p2 : SX6} {post : WSX10 → Prop} (hnc : NC T g n3)
    (hp : ∀ p' : SX6, p'.2.1 = nI st → p'.1.2 = nI (pcn (iwF T g 0) (iwF T g 0).length) → (∀ k, k < (iwF T g 0).length → (ix (iwF T g 0) k).2 = false → p'.1.1 (pcn (iwF T g 0) k) = A.1.1 k) → p'.2.2 = (mc.2.2.2, mc.2.1.2) → post ((((A.1.1, if (2 : Int32) < A.1.2 + 1 then 2 else A.1.2 + 1), A.2), (n4, n3)), ((t8, mc), (p', p)))) :
    wp_X10_remember ((A, (n4, n3)), ((t8, mc), (p, p2))) (nI st) post := by
  obtain ⟨il1, il2⟩ := iw_len hv
  obtain ⟨c1', c2', c3', c4', c5', c6'⟩ := hnc
  have hin : n3.2.2.2.1 = nI (iwF T g 0).length := c4'
  have lp : ∀ (m k : Nat) (pubs : Nat → Int32) (x2 : Int64 × Int64), k + m = (iwF T g 0).length → (∀ j, j < k → (ix (iwF T g 0) j).2 = false → pubs (pcn (iwF T g 0) j) = A.1.1 j) → wp_X10_remember_28 post (m + 1) ((A, (n4, n3)), ((t8, mc), (((pubs, nI (pcn (iwF T g 0) k)), (nI st, x2)), p))) (nI k) := by
    intro m
    induction m with
    | zero =>
      intro k pubs x2 hk hpub
      have hk : k = (iwF T g 0).length := by omega
      show wb_X10_remember_28 post _ ((A, (n4, n3)), ((t8, mc), (((pubs, nI (pcn (iwF T g 0) k)), (nI st, x2)), p))) (nI k)
      refine ⟨fun _ => ?_, fun c => absurd ?_ c⟩
      · intro y11 e11
        rw [e11]
        refine hp ((pubs, nI (pcn (iwF T g 0) k)), (nI st, (mc.2.2.2, mc.2.1.2))) rfl (by rw [hk]) (by rw [← hk]; exact hpub) rfl
      · show n3.2.2.2.1 ≤ nI k
        rw [hin]
        exact nI_le (by omega) (by omega)
    | succ m ih =>
      intro k pubs x2 hk hpub
      have hpk := pcn_le (iwF T g 0) k
      have hsec : n3.2.1.1 k = bi (ix (iwF T g 0) k).2 := (c6' k (by omega)).2
      show wb_X10_remember_28 post (fun a => wp_X10_remember_28 post (m + 1) a.1 a.2) ((A, (n4, n3)), ((t8, mc), (((pubs, nI (pcn (iwF T g 0) k)), (nI st, x2)), p))) (nI k)
      have nle : ¬ n3.2.2.2.1 ≤ nI k := by
        rw [hin]
        exact nI_ge (by omega) (by omega)
      refine ⟨fun c => absurd c nle, fun _ => ⟨fun c => absurd c (nI_ge (b := 200) (by omega) (by omega)), fun _ => ?_⟩⟩
      refine ⟨fun c => absurd c (nI_pos (by omega)), fun _ => ⟨fun c => absurd c nle, fun _ => ⟨fun c => absurd c (nI_ge (b := 200) (by omega) (by omega)), fun _ => ⟨fun c => absurd c (by decide), fun _ => ⟨in_k (by omega) (by omega), ?_⟩⟩⟩⟩⟩
      have hsec' : n3.2.1.1 (nI k).toNatClampNeg = bi (ix (iwF T g 0) k).2 := by rw [nI_clamp (by omega)]; exact hsec
      refine ⟨fun c => ⟨fun z => absurd rfl z, fun _ => ⟨in_k (by omega) (by omega), ?_⟩⟩, fun c => ⟨fun _ => ?_, fun z => absurd z (by decide)⟩⟩
      · have hf : (ix (iwF T g 0) k).2 = false := by
          have c : n3.2.1.1 (nI k).toNatClampNeg = 0 := c
          rw [hsec'] at c
          cases hb : (ix (iwF T g 0) k).2 with
          | false => rfl
          | true => rw [hb] at c; exact absurd c (by decide)
        refine ⟨fun c => absurd c (nI_ge (b := 200) (by omega) (by omega)), fun _ => ⟨in_k (by omega) (by omega), fun y1 e1 y2 e2 => ?_⟩⟩
        have e1 : y1 = upd pubs (pcn (iwF T g 0) k) (A.1.1 k) := by
          rw [e1]
          show upd pubs (nI (pcn (iwF T g 0) k)).toNatClampNeg (A.1.1 (nI k).toNatClampNeg) = _
          rw [nI_clamp (by omega), nI_clamp (by omega)]
        have e2 : y2 = nI (pcn (iwF T g 0) (k + 1)) := by
          rw [e2, pcn, if_pos hf]
          exact nI_1 _
        rw [e2]
        have := ih (k + 1) y1 x2 (by omega) (fun j hj hjf => by
          rw [e1]
          by_cases c : j = k
          · rw [c, pk_us]
          · rw [pk_un (by have := pcn_lt (iwF T g 0) (j := j) (k := k) (by omega) hjf; omega)]
            exact hpub j (by omega) hjf)
        rw [← nI_1 k] at this
        exact this
      · have hf : ¬ (ix (iwF T g 0) k).2 = false := by
          intro hb
          have c : ¬ n3.2.1.1 (nI k).toNatClampNeg = 0 := c
          rw [hsec', hb] at c
          exact c rfl
        have := ih (k + 1) pubs x2 (by omega) (fun j hj hjf => by
          by_cases c : j = k
          · rw [c] at hjf; exact absurd hjf hf
          · exact hpub j (by omega) hjf)
        rw [pcn, if_neg hf, ← nI_1 k] at this
        exact this
  exact ⟨(iwF T g 0).length + 1, lp (iwF T g 0).length 0 p2.1.1 p2.2.2 (by omega) (fun j hj => absurd hj (Nat.not_lt_zero j))⟩
end Perf2
