section CBegin
variable {T : TX} {N : Nat} {g : List DD} {z : WSX0} {m ti ba : Nat → Int32} {a h q : Nat} {post : WSX0 → Prop}
def zz (z : WSX0) (ro : Nat → Int32) (st kp tl it pl : Int32) : WSX0 := (((((ro, z.1.1.1.1.2), (st, kp)), ((tl, it), (pl, z.1.1.2.2.2))), z.1.2), z.2)
theorem c_wipe {σ : SX2} {B : Nat} {po : SX2 → Prop} (hB : B ≤ 4096) (hp : ∀ m', (∀ j, j < B → m' j = 0) → (∀ j, B ≤ j → m' j = σ.1.1.1 j) → po (((m', aw_fill 32 0 σ.1.1.2), σ.1.2), σ.2)) : wp_X2_wipe σ (nI (4 * B)) po := by
  have sh : nI (4 * B) >>> ((2 : Int32) &&& 31) = nI B := by
    rw [pk_shrN (by omega) _ 2 (by decide)]
    congr 1
    omega
  have lp : ∀ (n k : Nat) (m' : Nat → Int32), k ≤ B → B - k < n → (∀ j, j < k → m' j = 0) → (∀ j, k ≤ j → m' j = σ.1.1.1 j) → wp_X2_wipe_2 po n (((m', σ.1.1.2), σ.1.2), σ.2) (nI (4 * B)) (nI k) := by
    intro n
    induction n with
    | zero => intro k m' _ h; exact absurd h (by omega)
    | succ n ih =>
      intro k m' hk hn h1 h2
      show wb_X2_wipe_2 po _ (((m', σ.1.1.2), σ.1.2), σ.2) (nI (4 * B)) (nI k)
      unfold wb_X2_wipe_2
      rw [sh]
      have fin : k = B → wp_X2_wipe_29 po (((m', σ.1.1.2), σ.1.2), σ.2) := by
        intro e y ey
        rw [ey]
        exact hp m' (fun j hj => h1 j (by omega)) (fun j hj => h2 j (by omega))
      refine ⟨fun c => fin ?_, fun c => ⟨fun c2 => fin ?_, fun c2 => ⟨in_k ?_ (by omega), fun y ey => ?_⟩⟩⟩
      · have := (nI_leI (by omega) (by omega)).mp c
        omega
      · have := (nI_leI (a := 4096) (by omega) (by omega)).mp c2
        omega
      · have : ¬ B ≤ k := fun x => c ((nI_leI (by omega) (by omega)).mpr x)
        omega
      · have hlt : k < B := by
          have : ¬ B ≤ k := fun x => c ((nI_leI (by omega) (by omega)).mpr x)
          omega
        rw [nI_clamp (by omega)] at ey
        rw [ey, nI_1]
        refine ih (k + 1) _ (by omega) (by omega) (fun j hj => ?_) (fun j hj => ?_)
        · by_cases e : j = k
          · rw [e]
            exact pk_us
          · exact (pk_un e).trans (h1 j (by omega))
        · exact (pk_un (by omega)).trans (h2 j (by omega))
  exact ⟨B + 1, lp _ 0 σ.1.1.1 (by omega) (by omega) (fun j hj => absurd hj (by omega)) (fun _ _ => rfl)⟩
theorem c_comeBack (ha : a < 4096) (hp : post (KS z (upd m a wJR) ti ba (a + 1) h q)) : wp_X0_comeBack (KS z m ti ba a h q) post := by
  unfold wp_X0_comeBack
  exact w_jr (c_emit ha hp)
theorem c_end {n : Nat} {x : Int32} (hx : x = nI n) (ha : a + 2 ≤ 4096) (hp : post (KS z (upd (upd m a (wI 0 5 0 (nI n))) (a + 1) 115) ti ba (a + 2) h q)) : wp_X0_writeEnd (KS z m ti ba a h q) x post := by
  rw [hx]
  unfold wp_X0_writeEnd
  exact w_add (to := 5) (fr := 0) rfl rfl (by omega) (by omega) (c_emit (by omega) (c_emit (by omega) hp))
theorem c_calls {ro : Nat → Int32} {s0 k0 t0 i0 p0 : Int32} (hp : ∀ m', KStep m' → KKeep m' → KTell m' → (∀ j, j < 514 → m' j = m j) → post (KS (zz z ro (nI (4 * 514)) (nI (4 * 519)) (nI (4 * 523)) i0 p0) m' ti ba 530 h q)) : wp_X0_writeCalls (KS (zz z ro s0 k0 t0 i0 p0) m ti ba 514 h q) post := by
  unfold wp_X0_writeCalls
  refine w_br ?_
  show wp_X0_emit (KS (zz z ro (nI (4 * 514)) k0 t0 i0 p0) m ti ba 514 h q) _ _
  refine c_emit (by omega) ?_
  refine w_add (to := 2) (fr := 2) rfl rfl (by omega) (by omega) (c_emit (by omega) ?_)
  refine c_comeBack (by omega) (c_end (n := 2) rfl (by omega) ?_)
  refine w_join (k := 94) (rd := 6) (rl := 6) (rr := 7) (by decide) (by decide) (by decide) (by omega) (by omega) (by omega) ?_
  show wp_X0_emit (KS (zz z ro (nI (4 * 514)) (nI (4 * 519)) t0 i0 p0) _ ti ba 519 h q) _ _
  refine c_emit (by omega) ?_
  refine w_join (k := 38) (rd := 6) (rl := 6) (rr := 3) (by decide) (by decide) (by decide) (by omega) (by omega) (by omega) (c_emit (by omega) ?_)
  refine w_join (k := 94) (rd := 6) (rl := 6) (rr := 7) (by decide) (by decide) (by decide) (by omega) (by omega) (by omega) (c_emit (by omega) ?_)
  refine c_comeBack (by omega) ?_
  refine w_add (to := 5) (fr := 0) rfl rfl (by omega) (by omega) ?_
  show wp_X0_emit (KS (zz z ro (nI (4 * 514)) (nI (4 * 519)) (nI (4 * 523)) i0 p0) _ ti ba 523 h q) _ _
  refine c_emit (by omega) ?_
  refine w_br (c_emit (by omega) ?_)
  refine w_sto (fr := 6) (base := 4) (d := 800) (by omega) (by omega) (by omega) (c_emit (by omega) ?_)
  refine w_add (to := 4) (fr := 4) rfl rfl (by omega) (by omega) (c_emit (by omega) ?_)
  refine c_comeBack (by omega) (c_end (n := 3) rfl (by omega) ?_)
  refine hp _ ⟨?_, ?_, ?_, ?_, ?_⟩ ⟨?_, ?_, ?_, ?_⟩ ⟨?_, ?_, ?_, ?_, ?_, ?_, ?_⟩ (fun j hj => ?_)
  · exact (pk_un (by omega)).trans ((pk_un (by omega)).trans ((pk_un (by omega)).trans ((pk_un (by omega)).trans ((pk_un (by omega)).trans ((pk_un (by omega)).trans ((pk_un (by omega)).trans ((pk_un (by omega)).trans ((pk_un (by omega)).trans ((pk_un (by omega)).trans ((pk_un (by omega)).trans ((pk_un (by omega)).trans ((pk_un (by omega)).trans ((pk_un (by omega)).trans ((pk_un (by omega)).trans pk_us))))))))))))))
  · exact (pk_un (by omega)).trans ((pk_un (by omega)).trans ((pk_un (by omega)).trans ((pk_un (by omega)).trans ((pk_un (by omega)).trans ((pk_un (by omega)).trans ((pk_un (by omega)).trans ((pk_un (by omega)).trans ((pk_un (by omega)).trans ((pk_un (by omega)).trans ((pk_un (by omega)).trans ((pk_un (by omega)).trans ((pk_un (by omega)).trans ((pk_un (by omega)).trans pk_us)))))))))))))
  · exact (pk_un (by omega)).trans ((pk_un (by omega)).trans ((pk_un (by omega)).trans ((pk_un (by omega)).trans ((pk_un (by omega)).trans ((pk_un (by omega)).trans ((pk_un (by omega)).trans ((pk_un (by omega)).trans ((pk_un (by omega)).trans ((pk_un (by omega)).trans ((pk_un (by omega)).trans ((pk_un (by omega)).trans ((pk_un (by omega)).trans pk_us))))))))))))
  · exact (pk_un (by omega)).trans ((pk_un (by omega)).trans ((pk_un (by omega)).trans ((pk_un (by omega)).trans ((pk_un (by omega)).trans ((pk_un (by omega)).trans ((pk_un (by omega)).trans ((pk_un (by omega)).trans ((pk_un (by omega)).trans ((pk_un (by omega)).trans ((pk_un (by omega)).trans ((pk_un (by omega)).trans pk_us)))))))))))
  · exact (pk_un (by omega)).trans ((pk_un (by omega)).trans ((pk_un (by omega)).trans ((pk_un (by omega)).trans ((pk_un (by omega)).trans ((pk_un (by omega)).trans ((pk_un (by omega)).trans ((pk_un (by omega)).trans ((pk_un (by omega)).trans ((pk_un (by omega)).trans ((pk_un (by omega)).trans pk_us))))))))))
  · exact (pk_un (by omega)).trans ((pk_un (by omega)).trans ((pk_un (by omega)).trans ((pk_un (by omega)).trans ((pk_un (by omega)).trans ((pk_un (by omega)).trans ((pk_un (by omega)).trans ((pk_un (by omega)).trans ((pk_un (by omega)).trans ((pk_un (by omega)).trans pk_us)))))))))
  · exact (pk_un (by omega)).trans ((pk_un (by omega)).trans ((pk_un (by omega)).trans ((pk_un (by omega)).trans ((pk_un (by omega)).trans ((pk_un (by omega)).trans ((pk_un (by omega)).trans ((pk_un (by omega)).trans ((pk_un (by omega)).trans pk_us))))))))
  · exact (pk_un (by omega)).trans ((pk_un (by omega)).trans ((pk_un (by omega)).trans ((pk_un (by omega)).trans ((pk_un (by omega)).trans ((pk_un (by omega)).trans ((pk_un (by omega)).trans ((pk_un (by omega)).trans pk_us)))))))
  · exact (pk_un (by omega)).trans ((pk_un (by omega)).trans ((pk_un (by omega)).trans ((pk_un (by omega)).trans ((pk_un (by omega)).trans ((pk_un (by omega)).trans ((pk_un (by omega)).trans pk_us))))))
  · exact (pk_un (by omega)).trans ((pk_un (by omega)).trans ((pk_un (by omega)).trans ((pk_un (by omega)).trans ((pk_un (by omega)).trans ((pk_un (by omega)).trans pk_us)))))
  · exact (pk_un (by omega)).trans ((pk_un (by omega)).trans ((pk_un (by omega)).trans ((pk_un (by omega)).trans ((pk_un (by omega)).trans pk_us))))
  · exact (pk_un (by omega)).trans ((pk_un (by omega)).trans ((pk_un (by omega)).trans ((pk_un (by omega)).trans pk_us)))
  · exact (pk_un (by omega)).trans ((pk_un (by omega)).trans ((pk_un (by omega)).trans pk_us))
  · exact (pk_un (by omega)).trans ((pk_un (by omega)).trans pk_us)
  · exact (pk_un (by omega)).trans pk_us
  · exact pk_us
  · exact (pk_un (by omega)).trans ((pk_un (by omega)).trans ((pk_un (by omega)).trans ((pk_un (by omega)).trans ((pk_un (by omega)).trans ((pk_un (by omega)).trans ((pk_un (by omega)).trans ((pk_un (by omega)).trans ((pk_un (by omega)).trans ((pk_un (by omega)).trans ((pk_un (by omega)).trans ((pk_un (by omega)).trans ((pk_un (by omega)).trans ((pk_un (by omega)).trans ((pk_un (by omega)).trans (pk_un (by omega))))))))))))))))
theorem nrw_succ {g : List DD} : ∀ {k : Nat}, k < g.length → nrw (g.take (k + 1)) = nrw (g.take k) + (if (gx g k).2.2 = true then 1 else 0) := by
  induction g with
  | nil => intro k h; exact absurd h (by simp)
  | cons x g ih =>
    intro k h
    cases k with
    | zero =>
      show (if x.2.2 = true then 1 else 0) + nrw (g.take 0) = 0 + (if x.2.2 = true then 1 else 0)
      have : nrw (g.take 0) = 0 := rfl
      omega
    | succ k =>
      have := ih (k := k) (by simpa using h)
      show (if x.2.2 = true then 1 else 0) + nrw (g.take (k + 1)) = (if x.2.2 = true then 1 else 0) + nrw (g.take k) + (if (gx g k).2.2 = true then 1 else 0)
      omega
theorem KR5.fr {M M' : Nat → Int32} {b R n : Nat} {w : Int32} (h : KR5 M b R n w) (hm : ∀ j, b ≤ j → j < b + 5 → M' j = M j) : KR5 M' b R n w := by
  obtain ⟨h1, h2, h3, h4, h5⟩ := h
  exact ⟨by rw [hm b (by omega) (by omega)]; exact h1, by rw [hm (b + 1) (by omega) (by omega)]; exact h2, by rw [hm (b + 2) (by omega) (by omega)]; exact h3, by rw [hm (b + 3) (by omega) (by omega)]; exact h4, by rw [hm (b + 4) (by omega) (by omega)]; exact h5⟩
/-- one row's call -/
theorem c_rowOne (hv : GV T N g) (hc : NC T g z.2.1) {k R : Nat} {ie lo : Int32} (hk : k < g.length) (hie : ie = nI (4 * (530 + 5 * R))) (ha : a + 5 ≤ 4096)
    (h0 : (gx g k).2.2 = false → post (KS z m ti ba a h q)) (h1 : (gx g k).2.2 = true → ∀ m', KR5 m' a R (dsz T (gx g k)) lo → (∀ j, j < a → m' j = m j) → post (KS z m' ti ba (a + 5) h q)) : wp_X0_writeRowCall (KS z m ti ba a h q) (nI k) ie lo post := by
  have hg : g.length ≤ 200 := by have := hv.len; have := hv.2; omega
  rw [hie]
  unfold wp_X0_writeRowCall
  refine c_nrow (σ := (z.2.1, z.2.2.1)) hv hc hk ?_
  cases hr : (gx g k).2.2 with
  | false => exact ⟨fun _ => h0 hr, fun c => absurd rfl c⟩
  | true =>
    refine ⟨fun c => absurd c (by decide), fun _ => ?_⟩
    refine c_nlen (σ := (z.2.1, z.2.2.1)) hc hg hk ?_
    rw [if_pos hr]
    refine w_below (to := 5) (fr := 6) rfl rfl (by omega) (by omega) ?_
    show wp_X0_emit (KS z m ti ba a h q) _ _
    refine c_emit (by omega) ?_
    refine w_br ?_
    refine c_emit (by omega) ?_
    refine w_shl (to := 6) (fr := 6) (x := nI 2) rfl rfl (by omega) (by omega) (c_emit (by omega) (c_emit (by omega) (c_comeBack (by omega) ?_)))
    refine h1 hr _ ⟨?_, ?_, ?_, ?_, ?_⟩ (fun j hj => ?_)
    · exact (pk_un (by omega)).trans ((pk_un (by omega)).trans ((pk_un (by omega)).trans ((pk_un (by omega)).trans pk_us)))
    · exact (pk_un (by omega)).trans ((pk_un (by omega)).trans ((pk_un (by omega)).trans pk_us))
    · exact (pk_un (by omega)).trans ((pk_un (by omega)).trans pk_us)
    · exact (pk_un (by omega)).trans pk_us
    · exact pk_us
    · exact (pk_un (by omega)).trans ((pk_un (by omega)).trans ((pk_un (by omega)).trans ((pk_un (by omega)).trans (pk_un (by omega)))))
theorem NC.size {σ : WSX3} {po : Int32 → WSX3 → Prop} (hc : NC T g σ.1) (hp : po (nI g.length) σ) : wp_X3_size σ po := by
  have e : σ.1.2.1.2 = nI g.length := hc.1
  show po σ.1.2.1.2 σ
  rw [e]
  exact hp
theorem k_wordPlace (hc : NC T g z.2.1) (hg : g.length ≤ 200) {k : Nat} {po : Int32 → WSX0 → Prop} (hk : k < g.length) (hp : po (nI (4 * fw T g k)) (KS z m ti ba a h q)) : wp_X0_wordPlace (KS z m ti ba a h q) (nI k) po := by
  unfold wp_X0_wordPlace
  refine c_nfirst (σ := (z.2.1, z.2.2.1)) hc hg hk ?_
  have e : (0 : Int32) + nI (wds T (g.take k)) * 4 = nI (4 * fw T g k) := by
    show nI 0 + nI (wds T (g.take k)) * nI 4 = _
    rw [pk_mul, nI_add]
    unfold fw
    congr 1
    omega
  rw [e]
  exact hp
theorem nrw_tl (g : List DD) : ∀ (k : Nat), nrw (g.take k) ≤ nrw g := by
  induction g with
  | nil => intro k; rw [List.take_nil]; exact Nat.le_refl _
  | cons x g ih =>
    intro k
    cases k with
    | zero => exact Nat.zero_le _
    | succ k =>
      have := ih k
      show (if x.2.2 = true then 1 else 0) + nrw (g.take k) ≤ (if x.2.2 = true then 1 else 0) + nrw g
      omega
theorem nrw_tt {g : List DD} {k k' : Nat} (h1 : k' < k) (hk : k ≤ g.length) (h2 : (gx g k').2.2 = true) : nrw (g.take k') + 1 ≤ nrw (g.take k) := by
  have hx : gx (g.take k) k' = gx g k' := by
    unfold gx
    rw [List.getElem?_take_of_lt (by omega)]
  have := nrw_take (g := g.take k) (k := k') (by rw [List.length_take]; omega) (by rw [hx]; exact h2)
  rw [List.take_take, Nat.min_eq_left (by omega)] at this
  exact this
theorem c_rows3 (hv : GV T N g) (hc : NC T g z.2.1) {R : Nat} (hR : R = nrw g) : ∀ (n k : Nat) (m : Nat → Int32), k ≤ g.length → g.length - k < n → (∀ k', k' < k → (gx g k').2.2 = true → KR5 m (532 + 5 * R + 5 * nrw (g.take k')) R (dsz T (gx g k')) (wI 0 6 6 (nI (4 * fw T g k')))) →
    (∀ m', (∀ k', k' < g.length → (gx g k').2.2 = true → KR5 m' (532 + 5 * R + 5 * nrw (g.take k')) R (dsz T (gx g k')) (wI 0 6 6 (nI (4 * fw T g k')))) → (∀ j, j < 532 + 5 * R + 5 * nrw (g.take k) → m' j = m j) → post (KS z m' ti ba (532 + 10 * R) h q)) →
    wp_X0_writeRowCalls_126 post n (KS z m ti ba (532 + 5 * R + 5 * nrw (g.take k)) h q) (nI (4 * (530 + 5 * R))) (nI k) := by
  have hg : g.length ≤ 200 := by have := hv.len; have := hv.2; omega
  have hRl := nrw_le g
  intro n
  induction n with
  | zero => intro k m _ hk; exact absurd hk (by omega)
  | succ n ih =>
    intro k m hk hn hi hY
    show wb_X0_writeRowCalls_126 post _ (KS z m ti ba (532 + 5 * R + 5 * nrw (g.take k)) h q) (nI (4 * (530 + 5 * R))) (nI k)
    unfold wb_X0_writeRowCalls_126
    refine NC.size (σ := (z.2.1, z.2.2.1)) hc ⟨fun c => ?_, fun c => ?_⟩
    · have := (nI_leI (by omega) (by omega)).mp c
      have e : k = g.length := by omega
      have e2 : g.take k = g := by rw [e, List.take_length]
      have := hY m (fun k' h1 h2 => hi k' (by omega) h2) (fun _ _ => rfl)
      rw [e2, ← hR, show 532 + 5 * R + 5 * R = 532 + 10 * R by omega]
      exact this
    · have hkl : k < g.length := by
        by_cases x : k < g.length
        · exact x
        · exact absurd ((nI_leI (by omega) (by omega)).mpr (by omega)) c
      have hs := nrw_succ hkl
      have n6 := wds_take (T := T) hkl
      have hle : nrw (g.take k) + (if (gx g k).2.2 = true then 1 else 0) ≤ nrw g := by
        split
        · rename_i hr
          exact nrw_take hkl hr
        · have : ∀ (g : List DD) (k : Nat), nrw (g.take k) ≤ nrw g := by
            intro g
            induction g with
            | nil => intro k; rw [List.take_nil]; exact Nat.le_refl _
            | cons x g ih =>
              intro k
              cases k with
              | zero => exact Nat.zero_le _
              | succ k =>
                have := ih k
                show (if x.2.2 = true then 1 else 0) + nrw (g.take k) ≤ (if x.2.2 = true then 1 else 0) + nrw g
                omega
          exact this g k
      show wp_X0_wordPlace (KS z m ti ba (532 + 5 * R + 5 * nrw (g.take k)) h q) (nI k) _
      refine k_wordPlace hc hg hkl (w_add (to := 6) (fr := 6) rfl rfl (by omega) (by omega) ?_)
      refine c_rowOne hv hc hkl rfl (by omega) (fun hr => ?_) (fun hr m' k1 k2 => ?_)
      · rw [if_neg (by rw [hr]; decide), Nat.add_zero] at hs
        rw [nI_1]
        have := ih (k + 1) m (by omega) (by omega) (fun k' h1 h2 => ?_) (fun m' h1 h2 => hY m' h1 (fun j hj => h2 j (by rw [hs]; exact hj)))
        · rw [hs] at this
          exact this
        · by_cases e : k' = k
          · rw [e, hr] at h2
            cases h2
          · exact hi k' (by omega) h2
      · rw [if_pos hr] at hs
        rw [nI_1]
        have := ih (k + 1) m' (by omega) (by omega) (fun k' h1 h2 => ?_) (fun m'' h1 h2 => hY m'' h1 (fun j hj => (h2 j (by omega)).trans (k2 j hj)))
        · rw [hs, show 532 + 5 * R + 5 * (nrw (g.take k) + 1) = 532 + 5 * R + 5 * nrw (g.take k) + 5 by omega] at this
          exact this
        · by_cases e : k' = k
          · rw [e]
            exact k1
          · have : nrw (g.take k') + 1 ≤ nrw (g.take k) := by
              have hx : gx (g.take k) k' = gx g k' := by
                unfold gx
                rw [List.getElem?_take_of_lt (by omega)]
              have := nrw_take (g := g.take k) (k := k') (by rw [List.length_take]; omega) (by rw [hx]; exact h2)
              rw [List.take_take, Nat.min_eq_left (by omega)] at this
              exact this
            exact (hi k' (by omega) h2).fr (fun j j1 j2 => k2 j (by omega))
theorem c_rows2 (hv : GV T N g) (hc : NC T g z.2.1) {R : Nat} (hR : R = nrw g) : ∀ (n k : Nat) (m : Nat → Int32), k ≤ g.length → g.length - k < n → (∀ k', k' < k → (gx g k').2.2 = true → KR5 m (530 + 5 * nrw (g.take k')) R (dsz T (gx g k')) (wL 6 6 (nI (4 * fw T g k')))) →
    (∀ m', (∀ k', k' < g.length → (gx g k').2.2 = true → KR5 m' (530 + 5 * nrw (g.take k')) R (dsz T (gx g k')) (wL 6 6 (nI (4 * fw T g k')))) → KEnd g m' → (∀ j, j < 530 + 5 * nrw (g.take k) → m' j = m j) → ∃ n, wp_X0_writeRowCalls_126 post n (((((KS z m' ti ba (532 + 5 * R) h q).1.1.1, ((KS z m' ti ba (532 + 5 * R) h q).1.1.2.1, (nI (4 * (532 + 5 * R)), (KS z m' ti ba (532 + 5 * R) h q).1.1.2.2.2))), (KS z m' ti ba (532 + 5 * R) h q).1.2), (KS z m' ti ba (532 + 5 * R) h q).2)) (nI (4 * (530 + 5 * R))) 0) →
    wp_X0_writeRowCalls_76 post n (KS z m ti ba (530 + 5 * nrw (g.take k)) h q) (nI (4 * (530 + 5 * R))) (nI k) := by
  have hg : g.length ≤ 200 := by have := hv.len; have := hv.2; omega
  have hRl := nrw_le g
  intro n
  induction n with
  | zero => intro k m _ hk; exact absurd hk (by omega)
  | succ n ih =>
    intro k m hk hn hi hY
    show wb_X0_writeRowCalls_76 post _ (KS z m ti ba (530 + 5 * nrw (g.take k)) h q) (nI (4 * (530 + 5 * R))) (nI k)
    unfold wb_X0_writeRowCalls_76
    refine NC.size (σ := (z.2.1, z.2.2.1)) hc ⟨fun c => ?_, fun c => ?_⟩
    · have := (nI_leI (by omega) (by omega)).mp c
      have e : k = g.length := by omega
      have e2 : g.take k = g := by rw [e, List.take_length]
      rw [e2, ← hR] at hY ⊢
      show wp_X0_writeEnd (KS z m ti ba (530 + 5 * R) h q) 1 _
      refine c_end (n := 1) rfl (by omega) ?_
      have := hY (upd (upd m (530 + 5 * R) (wI 0 5 0 (nI 1))) (530 + 5 * R + 1) 115) (fun k' h1 h2 => ?_) ⟨?_, ?_⟩ (fun j hj => (pk_un (by omega)).trans (pk_un (by omega)))
      · rw [show 532 + 5 * R = 530 + 5 * R + 2 by omega] at this
        exact this
      · have h3 := nrw_take h1 h2
        exact (hi k' (by omega) h2).fr (fun j j1 j2 => (pk_un (by omega)).trans (pk_un (by omega)))
      · rw [← hR]
        exact (pk_un (by omega)).trans pk_us
      · rw [← hR, show 531 + 5 * R = 530 + 5 * R + 1 by omega]
        exact pk_us
    · have hkl : k < g.length := by
        by_cases x : k < g.length
        · exact x
        · exact absurd ((nI_leI (by omega) (by omega)).mpr (by omega)) c
      have hs := nrw_succ hkl
      have htl := nrw_tl g k
      show wp_X0_wordPlace (KS z m ti ba (530 + 5 * nrw (g.take k)) h q) (nI k) _
      refine k_wordPlace hc hg hkl (w_load (to := 6) (fr := 6) (by omega) (by omega) ?_)
      refine c_rowOne hv hc hkl rfl (by omega) (fun hr => ?_) (fun hr m' k1 k2 => ?_)
      · rw [if_neg (by rw [hr]; decide), Nat.add_zero] at hs
        rw [nI_1]
        have := ih (k + 1) m (by omega) (by omega) (fun k' h1 h2 => ?_) (fun m' h1 h2 h3 => hY m' h1 h2 (fun j hj => h3 j (by rw [hs]; exact hj)))
        · rw [hs] at this
          exact this
        · by_cases e : k' = k
          · rw [e, hr] at h2
            cases h2
          · exact hi k' (by omega) h2
      · rw [if_pos hr] at hs
        rw [nI_1]
        have := ih (k + 1) m' (by omega) (by omega) (fun k' h1 h2 => ?_) (fun m'' h1 h2 h3 => hY m'' h1 h2 (fun j hj => (h3 j (by omega)).trans (k2 j hj)))
        · rw [hs, show 530 + 5 * (nrw (g.take k) + 1) = 530 + 5 * nrw (g.take k) + 5 by omega] at this
          exact this
        · by_cases e : k' = k
          · rw [e]
            exact k1
          · have := nrw_tt (g := g) (k := k) (k' := k') (by omega) hk h2
            exact (hi k' (by omega) h2).fr (fun j j1 j2 => k2 j (by omega))
/-- the table of rows, then both kinds of calls -/
theorem c_rows1 (hv : GV T N g) (hc : NC T g z.2.1) {R : Nat} (hR : R = nrw g) {st kp tl i0 p0 : Int32} : ∀ (n k : Nat) (ro : Nat → Int32), k ≤ g.length → g.length - k < n → (∀ k', k' < k → ro k' = nI (nrw (g.take k'))) →
    (∀ ro' m', (∀ k', k' < g.length → ro' k' = nI (nrw (g.take k'))) → KEnd g m' → KRow T g m' → (∀ j, j < 530 → m' j = m j) → post (KS (zz z ro' st kp tl (nI (4 * 530)) (nI (4 * (532 + 5 * R)))) m' ti ba (532 + 10 * R) h q)) →
    wp_X0_writeRowCalls_4 post n (KS (zz z ro st kp tl i0 p0) m ti ba 530 h q) (nI (nrw (g.take k))) (nI k) := by
  have hg : g.length ≤ 200 := by have := hv.len; have := hv.2; omega
  have hRl := nrw_le g
  intro n
  induction n with
  | zero => intro k ro _ hk; exact absurd hk (by omega)
  | succ n ih =>
    intro k ro hk hn hi hY
    show wb_X0_writeRowCalls_4 post _ (KS (zz z ro st kp tl i0 p0) m ti ba 530 h q) (nI (nrw (g.take k))) (nI k)
    unfold wb_X0_writeRowCalls_4
    have fin : k = g.length → wp_X0_writeRowCalls_56 post (KS (zz z ro st kp tl i0 p0) m ti ba 530 h q) (nI (nrw (g.take k))) := by
      intro e
      have e2 : g.take k = g := by rw [e, List.take_length]
      rw [e2, ← hR]
      unfold wp_X0_writeRowCalls_56
      intro y ey
      have ey : y = nI (4 * (530 + 5 * R)) := by
        refine ey.trans ?_
        show nI (4 * 530) + nI R * nI 20 = _
        rw [pk_mul, nI_add]
        congr 1
        omega
      rw [ey]
      refine ⟨g.length + 1, ?_⟩
      have t0 : nrw (g.take 0) = 0 := rfl
      have := c_rows2 (z := zz z ro st kp tl (nI (4 * 530)) p0) (post := post) (ti := ti) (ba := ba) (h := h) (q := q) hv hc hR (g.length + 1) 0 m (by omega) (by omega) (fun k' h1 _ => absurd h1 (by omega)) (fun m' r1 r2 r3 => ⟨g.length + 1, ?_⟩)
      · exact this
      · have := c_rows3 (z := zz z ro st kp tl (nI (4 * 530)) (nI (4 * (532 + 5 * R)))) (post := post) (ti := ti) (ba := ba) (h := h) (q := q) hv hc hR (g.length + 1) 0 m' (by omega) (by omega) (fun k' h1 _ => absurd h1 (by omega)) (fun m'' r4 r5 => ?_)
        · exact this
        · refine hY ro m'' (fun k' hk' => hi k' (by omega)) ⟨?_, ?_⟩ (fun k' h1 h2 => ?_) (fun j hj => ?_)
          · rw [r5 _ (by omega)]
            exact r2.1
          · rw [r5 _ (by omega)]
            exact r2.2
          · have h3 := nrw_take h1 h2
            rw [← hR]
            exact ⟨(r1 k' h1 h2).fr (fun j j1 j2 => r5 j (by omega)), r4 k' h1 h2⟩
          · rw [r5 j (by omega), r3 j (by omega)]
    refine NC.size (σ := (z.2.1, z.2.2.1)) hc ⟨fun c => fin ?_, fun c => ⟨fun c2 => fin ?_, fun c2 => ⟨in_k ?_ (by omega), fun y ey => ?_⟩⟩⟩
    · have := (nI_leI (by omega) (by omega)).mp c
      omega
    · have := (nI_leI (a := 200) (by omega) (by omega)).mp c2
      omega
    · have : ¬ 200 ≤ k := fun x => c2 ((nI_leI (a := 200) (by omega) (by omega)).mpr x)
      omega
    · have hkl : k < g.length := by
        by_cases x : k < g.length
        · exact x
        · exact absurd ((nI_leI (by omega) (by omega)).mpr (by omega)) c
      have hs := nrw_succ hkl
      rw [nI_clamp (by omega)] at ey
      have ey : y = upd ro k (nI (nrw (g.take k))) := ey
      rw [ey]
      have go : ∀ v : Nat, nrw (g.take (k + 1)) = nrw (g.take k) + v → wp_X0_writeRowCalls_48 (fun (a : WSX0 × Int32 × Int32) => wp_X0_writeRowCalls_4 post n a.1 a.2.1 a.2.2) post (KS (zz z (upd ro k (nI (nrw (g.take k)))) st kp tl i0 p0) m ti ba 530 h q) (nI k) (nI v) (nI (nrw (g.take k))) := by
        intro v hv2
        unfold wp_X0_writeRowCalls_48
        intro y2 ey2
        rw [ey2, nI_add, ← hv2, nI_1]
        refine ih (k + 1) _ (by omega) (by omega) (fun k' h1 => ?_) hY
        by_cases e : k' = k
        · rw [e]
          exact pk_us
        · exact (pk_un e).trans (hi k' (by omega))
      refine c_nrow (σ := (z.2.1, z.2.2.1)) hv hc hkl ?_
      cases hr : (gx g k).2.2 with
      | false =>
        rw [if_neg (by rw [hr]; decide)] at hs
        exact ⟨fun _ => go 0 hs, fun c => absurd rfl c⟩
      | true =>
        rw [if_pos hr] at hs
        exact ⟨fun c => absurd c (by decide), fun _ => go 1 hs⟩
end CBegin
