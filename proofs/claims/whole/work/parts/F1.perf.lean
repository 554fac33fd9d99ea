section Perf
theorem nI_sub {a b : Nat} (h : b ≤ a) : nI a - nI b = nI (a - b) := by
  have e := nI_add (a - b) b
  rw [show a - b + b = a by omega] at e
  rw [← e, Int32.add_sub_cancel]
theorem nI_div4 {n : Nat} (h : n ≤ 100) : nI (4 * n) / 4 = nI n := by
  have key : ∀ k : Fin 101, nI (4 * k.val) / 4 = nI k.val := by decide +kernel
  exact key ⟨n, by omega⟩
theorem nI_mul4 {w : Nat} : (0 : Int32) + nI w * 4 = nI (4 * w) := by
  rw [Int32.zero_add]
  show Int32.ofNat w * Int32.ofNat 4 = Int32.ofNat (4 * w)
  rw [← Int32.ofNat_mul, Nat.mul_comm]
theorem c_sto2 {σ : SX2} {q : Nat} {v : Int32} {post : Int32 → SX2 → Prop} (hq : q < 4096) (h : post 1 (((upd σ.1.1.1 q v, σ.1.1.2), σ.1.2), σ.2)) : wp_X2_store σ (nI (4 * q)) v post := by
  refine isP_c (fun _ => ⟨fun _ => ?_, fun c => absurd c (by decide)⟩) (fun c => absurd ⟨q, hq, rfl⟩ c)
  rw [ix_c hq, nI_clamp (by omega)]
  refine ⟨in_k hq (by omega), fun y3 e3 => ?_⟩
  rw [e3]
  exact h
theorem c_fetch {σ : SX2} {q : Nat} {post : Int32 → SX2 → Prop} (hq : q < 4096) (h : post (σ.1.1.1 q) σ) : wp_X2_fetch σ (nI (4 * q)) post := by
  refine isP_c (fun _ => ⟨fun c => absurd c (by decide), fun _ => ?_⟩) (fun c => absurd ⟨q, hq, rfl⟩ c)
  rw [ix_c hq, nI_clamp (by omega)]
  exact ⟨in_k hq (by omega), h⟩
theorem c_rg2 {σ : SX2} {k : Nat} {post : Int32 → SX2 → Prop} (hk : k < 32) (h : post (σ.1.1.2 k) σ) : wp_X2_register σ (nI k) post := by
  refine ⟨fun c => absurd c (nI_pos (by omega)), fun _ => ⟨fun _ => ⟨in_k hk (by omega), ?_⟩, fun c => absurd (nI_lt (b := 32) hk (by omega)) c⟩⟩
  rw [nI_clamp (by omega)]
  exact h
theorem c_fillR {σ : SX2} {k : Nat} {v : Int32} {post : Int32 → SX2 → Prop} (hk : k < 32) (h0 : 0 < k) (h : post 1 (((σ.1.1.1, upd σ.1.1.2 k v), σ.1.2), σ.2)) : wp_X2_fill σ (nI k) v post := by
  refine ⟨fun c => absurd c (nI_pos (by omega)), fun _ => ⟨fun _ => ⟨fun c => absurd c (nI_ne0 h0 (by omega)), fun _ => ⟨in_k hk (by omega), fun y1 e1 => ?_⟩⟩, fun c => absurd (nI_lt (b := 32) hk (by omega)) c⟩⟩
  rw [nI_clamp (by omega)] at e1
  rw [e1]
  exact h
theorem c_beginAt {σ : SX2} {q : Nat} {post : Int32 → SX2 → Prop} (hq : q < 4096) (h : post 1 ((σ.1.1, (aw_fill 32 0 σ.1.2.1, nI (4 * q))), c00)) : wp_X2_beginAt σ (nI (4 * q)) post := by
  refine isP_c (fun _ => ⟨fun _ y3 e3 => ?_, fun c => absurd c (by decide)⟩) (fun c => absurd ⟨q, hq, rfl⟩ c)
  rw [e3]
  exact h
/-- which place a back stands for -/
theorem c_placeOfBack {σ : SX4} {u L j q : Nat} {x : Int32} {post : Int32 → SX4 → Prop} (hn : NW0 σ u L) (hu3 : u ≤ 3000) (hj : j < u) (hb : σ.2.1.2.2 j = nI (4 * q)) (hq : q < 4096) (hd : ∀ i k, i < u → k < u → ¬ i = k → σ.2.1.2.2 i = σ.2.1.2.2 k → σ.2.1.2.2 i = -1) (hx : x = nI (4 * q)) (hp : post (σ.1.2.1 j) σ) : wp_X4_placeOfBack σ x post := by
  obtain ⟨n1, n2, n3, n4⟩ := id hn
  have n1' : σ.2.2.2.2 = nI u := n1
  have n2' : σ.1.1.1 = L := n2
  have lp : ∀ (m k : Nat), k + m = j → wp_X4_placeOfBack_2 post (m + 1) σ x (nI k) := by
    intro m
    induction m with
    | zero =>
      intro k hk
      have hk : k = j := by omega
      show wb_X4_placeOfBack_2 post _ σ x (nI k)
      unfold wb_X4_placeOfBack_2
      rw [n1', n2', hk]
      refine ⟨fun c => absurd c (nI_ge hj (by omega)), fun _ => ⟨fun c => absurd c (nI_ge (by omega) (by omega)), fun _ => ⟨in_k (by omega) (by omega), ?_⟩⟩⟩
      rw [nI_clamp (by omega)]
      have e : σ.2.1.2.2 j = x := by rw [hx]; exact hb
      refine ⟨fun c => absurd e c, fun _ => ?_⟩
      refine c_has hn (by omega) (fun _ => ⟨fun c => absurd c (by decide), fun _ => ?_⟩) (fun c => absurd c (by omega))
      rw [n2', nI_clamp (by omega)]
      exact ⟨in_k (by omega) (by omega), hp⟩
    | succ m ih =>
      intro k hk
      show wb_X4_placeOfBack_2 post (fun a => wp_X4_placeOfBack_2 post (m + 1) a.1 a.2.1 a.2.2) σ x (nI k)
      unfold wb_X4_placeOfBack_2
      rw [n1', n2']
      refine ⟨fun c => absurd c (nI_ge (by omega) (by omega)), fun _ => ⟨fun c => absurd c (nI_ge (by omega) (by omega)), fun _ => ⟨in_k (by omega) (by omega), ?_⟩⟩⟩
      rw [nI_clamp (by omega)]
      refine ⟨fun _ => ?_, fun c => ?_⟩
      · have := ih (k + 1) (by omega)
        rw [← nI_1 k] at this
        exact this
      · exfalso
        have e : σ.2.1.2.2 k = σ.2.1.2.2 j := by
          rw [hb, ← hx]
          exact c
        have e2 := hd k j (by omega) hj (by omega) e
        rw [e, hb] at e2
        exact nI_nem1 (by omega) e2
  exact ⟨j + 1, lp j 0 (by omega)⟩
/-- the public words of inputs -/
theorem inF_hi {l : List (Nat × Bool)} {inp E : Nat → Int32} {w : Nat} : ∀ k, (∀ j, j < k → (ix l j).1 < w) → inF l inp E k w = E w := by
  intro k
  induction k with
  | zero => intro _; rfl
  | succ k ih =>
    intro h
    show upd (inF l inp E k) (ix l k).1 (inp k) w = E w
    rw [pk_un (by have := h k (by omega); omega)]
    exact ih (fun j hj => h j (by omega))
theorem inF_lt {l : List (Nat × Bool)} {inp E E' : Nat → Int32} {w : Nat} (h : E w = E' w) : ∀ k, inF l inp E k w = inF l inp E' k w := by
  intro k
  induction k with
  | zero => exact h
  | succ k ih =>
    show upd (inF l inp E k) (ix l k).1 (inp k) w = upd (inF l inp E' k) (ix l k).1 (inp k) w
    by_cases c : w = (ix l k).1
    · rw [c, pk_us, pk_us]
    · rw [pk_un c, pk_un c]
      exact ih
theorem iw_own {T : TX} : ∀ (g : List DD) (w0 : Nat) (p : Nat × Bool), p ∈ iwF T g w0 → ∃ k, k < g.length ∧ w0 + fw T g k ≤ p.1 ∧ p.1 < w0 + fw T g k + dsz T (gx g k) ∧ p.2 = dsec T (gx g k) := by
  intro g
  induction g with
  | nil => intro w0 p h; cases h
  | cons x g ih =>
    intro w0 p h
    unfold iwF at h
    rcases List.mem_append.mp h with h | h
    · by_cases q : x.2.1 = true
      · rw [if_pos q] at h
        obtain ⟨i, hi, rfl⟩ := List.mem_map.mp h
        have hi := List.mem_range.mp hi
        refine ⟨0, by simp, ?_, ?_, rfl⟩
        · show w0 + fw T (x :: g) 0 ≤ w0 + i
          have : fw T (x :: g) 0 = 0 := rfl
          omega
        · show w0 + i < w0 + fw T (x :: g) 0 + dsz T x
          have : fw T (x :: g) 0 = 0 := rfl
          omega
      · rw [if_neg q] at h
        cases h
    · obtain ⟨k, k1, k2, k3, k4⟩ := ih _ p h
      have e1 : fw T (x :: g) (k + 1) = dsz T x + fw T g k := rfl
      have e2 : gx (x :: g) (k + 1) = gx g k := rfl
      refine ⟨k + 1, by simpa using k1, ?_, ?_, ?_⟩
      · rw [e1]; omega
      · rw [e1, e2]; omega
      · rw [e2]; exact k4
theorem pub_eq {T : TX} {N : Nat} {g : List DD} (hv : GV T N g) {inp inp' E E' : Nat → Int32} (hE : ∀ w, w < 200 → E w = E' w) (h : ∀ k, k < (iwF T g 0).length → (ix (iwF T g 0) k).2 = false → inp k = inp' k) {w : Nat} (hw : pw T g w) : ∀ k, k ≤ (iwF T g 0).length → inF (iwF T g 0) inp E k w = inF (iwF T g 0) inp' E' k w := by
  intro k
  induction k with
  | zero =>
    intro _
    obtain ⟨k2, h1, h2, h3, h4⟩ := hw
    have n6 := wds_take (T := T) h1
    have n6 : fw T g k2 + dsz T (gx g k2) ≤ wds T g := n6
    have := hv.2
    exact hE w (by omega)
  | succ k ih =>
    intro hk
    show upd (inF (iwF T g 0) inp E k) (ix (iwF T g 0) k).1 (inp k) w = upd (inF (iwF T g 0) inp' E' k) (ix (iwF T g 0) k).1 (inp' k) w
    by_cases c : w = (ix (iwF T g 0) k).1
    · have hs : (ix (iwF T g 0) k).2 = false := by
        obtain ⟨kk, k1, k2, k3, k4⟩ := iw_own g 0 _ (ix_mem (show k < (iwF T g 0).length by omega))
        cases hd : (ix (iwF T g 0) k).2 with
        | false => rfl
        | true =>
          exfalso
          rw [hd] at k4
          exact pw_ne (j := w - fw T g kk) k1 k4.symm (by omega) hw (by omega)
      rw [c, pk_us, pk_us]
      exact h k (by omega) hs
    · rw [pk_un c, pk_un c]
      exact ih (by omega)
noncomputable def PBof (T : TX) (g : List DD) (inp : Nat → Int32) : Nat → Int32 := fun w => @ite _ (pw T g w) (Classical.propDecidable _) (inF (iwF T g 0) inp (fun _ => 0) (iwF T g 0).length w) 0
theorem PBof_eq {T : TX} {N : Nat} {g : List DD} (hv : GV T N g) {inp inp' : Nat → Int32} (h : ∀ k, k < (iwF T g 0).length → (ix (iwF T g 0) k).2 = false → inp k = inp' k) : PBof T g inp = PBof T g inp' := by
  funext w
  unfold PBof
  by_cases c : pw T g w
  · rw [if_pos c, if_pos c]
    exact pub_eq hv (fun _ _ => rfl) h c _ (Nat.le_refl _)
  · rw [if_neg c, if_neg c]
theorem PBof_S0 {T : TX} {N st : Nat} {g : List DD} (hv : GV T N g) {inp E : Nat → Int32} {w : Nat} (hw : pw T g w) : (S0 T g inp E st).1 w = PBof T g inp w := by
  unfold PBof
  rw [if_pos hw]
  refine pub_eq hv (fun w h => ?_) (fun _ _ _ => rfl) hw _ (Nat.le_refl _)
  unfold zk
  rw [if_pos h]
end Perf
