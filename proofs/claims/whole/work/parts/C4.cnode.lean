section CNode
variable {T : TX} {N : Nat} {g : List DD} {z : WSX0} {u L : Nat} {m ti ba : Nat → Int32} {a h q : Nat}
theorem wn_13 (hz : KZ T g z u L) {i : Nat} {po : WSX0 → Prop} (hi : i < u) (hk : z.1.2.1.1.2 i = 13) (hp : wp_X0_writeStep (KS z m ti ba a h q) (nI i) (fun τ => po τ)) : wp_X0_writeNode (KS z m ti ba a h q) (nI i) po := by
  unfold wp_X0_writeNode
  refine c_nkind hz.nw hi ?_
  have hk' : (KS z m ti ba a h q).1.2.1.1.2 i = 13 := hk
  rw [hk']
  exact ⟨fun _ => hp, fun c => absurd rfl c⟩
theorem wn_14 (hz : KZ T g z u L) {i : Nat} {po : WSX0 → Prop} (hi : i < u) (hk : z.1.2.1.1.2 i = 14) (hp : wp_X0_writeStep (KS z m ti ba a h q) (nI i) (fun τ => po τ)) : wp_X0_writeNode (KS z m ti ba a h q) (nI i) po := by
  unfold wp_X0_writeNode
  refine c_nkind hz.nw hi ?_
  have hk' : (KS z m ti ba a h q).1.2.1.1.2 i = 14 := hk
  rw [hk']
  exact ⟨fun c => absurd c (by decide), fun _ => ⟨fun _ => hp, fun c => absurd rfl c⟩⟩
theorem wn_15 (hz : KZ T g z u L) {i : Nat} {po : WSX0 → Prop} (hi : i < u) (hk : z.1.2.1.1.2 i = 15) (hp : ∃ n, n ≤ 400 ∧ wg_wv n 0 (KS z m ti ba a h q) [(nI i - (1 : Int32)), (0 : Int32), (0 : Int32)] (fun _ τ11 => wp_X4_value τ11.1.2 (nI i) (fun r13 τ14 => wp_X4_value τ14 r13 (fun r15 τ16 => wp_X0_rowCall ((τ11.1.1, τ16), τ11.2) τ11.1.1.2.2.1 r15 (fun r17 τ18 => wp_X0_callFor τ18 (nI i) r17 (fun τ20 => wp_X0_hold τ20 (6 : Int32) (fun τ22 => po τ22))))))) : wp_X0_writeNode (KS z m ti ba a h q) (nI i) po := by
  unfold wp_X0_writeNode
  refine c_nkind hz.nw hi ?_
  have hk' : (KS z m ti ba a h q).1.2.1.1.2 i = 15 := hk
  rw [hk']
  exact ⟨fun c => absurd c (by decide), fun _ => ⟨fun c => absurd c (by decide), fun _ => ⟨fun _ => hp, fun c => absurd rfl c⟩⟩⟩
theorem wn_16 (hz : KZ T g z u L) {i : Nat} {po : WSX0 → Prop} (hi : i < u) (hk : z.1.2.1.1.2 i = 16) (hp : ∃ n, n ≤ 400 ∧ wg_wv n 0 (KS z m ti ba a h q) [(nI i - (1 : Int32)), (0 : Int32), (0 : Int32)] (fun _ τ25 => wp_X4_value τ25.1.2 (nI i) (fun r27 τ28 => wp_X0_writePut ((τ25.1.1, τ28), τ25.2) r27 (fun τ30 => po τ30)))) : wp_X0_writeNode (KS z m ti ba a h q) (nI i) po := by
  unfold wp_X0_writeNode
  refine c_nkind hz.nw hi ?_
  have hk' : (KS z m ti ba a h q).1.2.1.1.2 i = 16 := hk
  rw [hk']
  exact ⟨fun c => absurd c (by decide), fun _ => ⟨fun c => absurd c (by decide), fun _ => ⟨fun c => absurd c (by decide), fun _ => ⟨fun _ => hp, fun c => absurd rfl c⟩⟩⟩⟩
theorem wn_17 (hz : KZ T g z u L) {i : Nat} {po : WSX0 → Prop} (hi : i < u) (hk : z.1.2.1.1.2 i = 17) (hp : wp_X0_writeStep (KS z m ti ba a h q) (nI i) (fun τ => po τ)) : wp_X0_writeNode (KS z m ti ba a h q) (nI i) po := by
  unfold wp_X0_writeNode
  refine c_nkind hz.nw hi ?_
  have hk' : (KS z m ti ba a h q).1.2.1.1.2 i = 17 := hk
  rw [hk']
  exact ⟨fun c => absurd c (by decide), fun _ => ⟨fun c => absurd c (by decide), fun _ => ⟨fun c => absurd c (by decide), fun _ => ⟨fun c => absurd c (by decide), fun _ => ⟨fun _ => hp, fun c => absurd rfl c⟩⟩⟩⟩⟩
theorem wn_18 (hz : KZ T g z u L) {i : Nat} {po : WSX0 → Prop} (hi : i < u) (hk : z.1.2.1.1.2 i = 18) (hp : ∃ n, n ≤ 400 ∧ wg_wv n 0 (KS z m ti ba a h q) [(nI i - (1 : Int32)), (0 : Int32), (0 : Int32)] (fun _ τ36 => wp_X0_writeThen τ36 (nI i) (fun τ39 => po τ39))) : wp_X0_writeNode (KS z m ti ba a h q) (nI i) po := by
  unfold wp_X0_writeNode
  refine c_nkind hz.nw hi ?_
  have hk' : (KS z m ti ba a h q).1.2.1.1.2 i = 18 := hk
  rw [hk']
  exact ⟨fun c => absurd c (by decide), fun _ => ⟨fun c => absurd c (by decide), fun _ => ⟨fun c => absurd c (by decide), fun _ => ⟨fun c => absurd c (by decide), fun _ => ⟨fun c => absurd c (by decide), fun _ => ⟨fun _ => hp, fun c => absurd rfl c⟩⟩⟩⟩⟩⟩
theorem wn_19 (hz : KZ T g z u L) {i : Nat} {po : WSX0 → Prop} (hi : i < u) (hk : z.1.2.1.1.2 i = 19) (hp : wp_X4_value (KS z m ti ba a h q).1.2 (nI i) (fun r41 τ42 => wp_X0_writeElse (((KS z m ti ba a h q).1.1, τ42), (KS z m ti ba a h q).2) (nI i) r41 (fun τ44 => po τ44))) : wp_X0_writeNode (KS z m ti ba a h q) (nI i) po := by
  unfold wp_X0_writeNode
  refine c_nkind hz.nw hi ?_
  have hk' : (KS z m ti ba a h q).1.2.1.1.2 i = 19 := hk
  rw [hk']
  exact ⟨fun c => absurd c (by decide), fun _ => ⟨fun c => absurd c (by decide), fun _ => ⟨fun c => absurd c (by decide), fun _ => ⟨fun c => absurd c (by decide), fun _ => ⟨fun c => absurd c (by decide), fun _ => ⟨fun c => absurd c (by decide), fun _ => ⟨fun _ => hp, fun c => absurd rfl c⟩⟩⟩⟩⟩⟩⟩
theorem wn_20 (hz : KZ T g z u L) {i : Nat} {po : WSX0 → Prop} (hi : i < u) (hk : z.1.2.1.1.2 i = 20) (hp : wp_X4_value (KS z m ti ba a h q).1.2 (nI i) (fun r41 τ42 => wp_X0_writeEndOfIf (((KS z m ti ba a h q).1.1, τ42), (KS z m ti ba a h q).2) r41 (fun τ44 => po τ44))) : wp_X0_writeNode (KS z m ti ba a h q) (nI i) po := by
  unfold wp_X0_writeNode
  refine c_nkind hz.nw hi ?_
  have hk' : (KS z m ti ba a h q).1.2.1.1.2 i = 20 := hk
  rw [hk']
  exact ⟨fun c => absurd c (by decide), fun _ => ⟨fun c => absurd c (by decide), fun _ => ⟨fun c => absurd c (by decide), fun _ => ⟨fun c => absurd c (by decide), fun _ => ⟨fun c => absurd c (by decide), fun _ => ⟨fun c => absurd c (by decide), fun _ => ⟨fun c => absurd c (by decide), fun _ => ⟨fun _ => hp, fun c => absurd rfl c⟩⟩⟩⟩⟩⟩⟩⟩
theorem wn_21 (hz : KZ T g z u L) {i : Nat} {po : WSX0 → Prop} (hi : i < u) (hk : z.1.2.1.1.2 i = 21) (hp : wp_X0_writeStep (KS z m ti ba a h q) (nI i) (fun τ => po τ)) : wp_X0_writeNode (KS z m ti ba a h q) (nI i) po := by
  unfold wp_X0_writeNode
  refine c_nkind hz.nw hi ?_
  have hk' : (KS z m ti ba a h q).1.2.1.1.2 i = 21 := hk
  rw [hk']
  exact ⟨fun c => absurd c (by decide), fun _ => ⟨fun c => absurd c (by decide), fun _ => ⟨fun c => absurd c (by decide), fun _ => ⟨fun c => absurd c (by decide), fun _ => ⟨fun c => absurd c (by decide), fun _ => ⟨fun c => absurd c (by decide), fun _ => ⟨fun c => absurd c (by decide), fun _ => ⟨fun c => absurd c (by decide), fun _ => ⟨fun _ => hp, fun c => absurd rfl c⟩⟩⟩⟩⟩⟩⟩⟩⟩
theorem wn_22 (hz : KZ T g z u L) {i : Nat} {po : WSX0 → Prop} (hi : i < u) (hk : z.1.2.1.1.2 i = 22) (hp : wp_X0_writeStep (KS z m ti ba a h q) (nI i) (fun τ => po τ)) : wp_X0_writeNode (KS z m ti ba a h q) (nI i) po := by
  unfold wp_X0_writeNode
  refine c_nkind hz.nw hi ?_
  have hk' : (KS z m ti ba a h q).1.2.1.1.2 i = 22 := hk
  rw [hk']
  exact ⟨fun c => absurd c (by decide), fun _ => ⟨fun c => absurd c (by decide), fun _ => ⟨fun c => absurd c (by decide), fun _ => ⟨fun c => absurd c (by decide), fun _ => ⟨fun c => absurd c (by decide), fun _ => ⟨fun c => absurd c (by decide), fun _ => ⟨fun c => absurd c (by decide), fun _ => ⟨fun c => absurd c (by decide), fun _ => ⟨fun c => absurd c (by decide), fun _ => ⟨fun _ => hp, fun c => absurd rfl c⟩⟩⟩⟩⟩⟩⟩⟩⟩⟩
theorem wn_23 (hz : KZ T g z u L) {i : Nat} {po : WSX0 → Prop} (hi : i < u) (hk : z.1.2.1.1.2 i = 23) (hp : ∃ n, n ≤ 400 ∧ wg_wv n 0 (KS z m ti ba a h q) [(nI i - (1 : Int32)), (0 : Int32), (0 : Int32)] (fun _ τ58 => wp_X0_writeOpenJump τ58 (nI i) (fun τ61 => po τ61))) : wp_X0_writeNode (KS z m ti ba a h q) (nI i) po := by
  unfold wp_X0_writeNode
  refine c_nkind hz.nw hi ?_
  have hk' : (KS z m ti ba a h q).1.2.1.1.2 i = 23 := hk
  rw [hk']
  exact ⟨fun c => absurd c (by decide), fun _ => ⟨fun c => absurd c (by decide), fun _ => ⟨fun c => absurd c (by decide), fun _ => ⟨fun c => absurd c (by decide), fun _ => ⟨fun c => absurd c (by decide), fun _ => ⟨fun c => absurd c (by decide), fun _ => ⟨fun c => absurd c (by decide), fun _ => ⟨fun c => absurd c (by decide), fun _ => ⟨fun c => absurd c (by decide), fun _ => ⟨fun c => absurd c (by decide), fun _ => ⟨fun _ => hp, fun c => absurd rfl c⟩⟩⟩⟩⟩⟩⟩⟩⟩⟩⟩
theorem wn_24 (hz : KZ T g z u L) {i : Nat} {po : WSX0 → Prop} (hi : i < u) (hk : z.1.2.1.1.2 i = 24) (hp : wp_X4_value (KS z m ti ba a h q).1.2 (nI i) (fun r41 τ42 => wp_X0_writeEndOfWhile (((KS z m ti ba a h q).1.1, τ42), (KS z m ti ba a h q).2) r41 (fun τ44 => po τ44))) : wp_X0_writeNode (KS z m ti ba a h q) (nI i) po := by
  unfold wp_X0_writeNode
  refine c_nkind hz.nw hi ?_
  have hk' : (KS z m ti ba a h q).1.2.1.1.2 i = 24 := hk
  rw [hk']
  exact ⟨fun c => absurd c (by decide), fun _ => ⟨fun c => absurd c (by decide), fun _ => ⟨fun c => absurd c (by decide), fun _ => ⟨fun c => absurd c (by decide), fun _ => ⟨fun c => absurd c (by decide), fun _ => ⟨fun c => absurd c (by decide), fun _ => ⟨fun c => absurd c (by decide), fun _ => ⟨fun c => absurd c (by decide), fun _ => ⟨fun c => absurd c (by decide), fun _ => ⟨fun c => absurd c (by decide), fun _ => ⟨fun c => absurd c (by decide), fun _ => ⟨fun _ => hp, fun c => absurd rfl c⟩⟩⟩⟩⟩⟩⟩⟩⟩⟩⟩⟩
theorem wn_25 (hz : KZ T g z u L) {i : Nat} {po : WSX0 → Prop} (hi : i < u) (hk : z.1.2.1.1.2 i = 25) (hp : wp_X0_writeStep (KS z m ti ba a h q) (nI i) (fun τ => po τ)) : wp_X0_writeNode (KS z m ti ba a h q) (nI i) po := by
  unfold wp_X0_writeNode
  refine c_nkind hz.nw hi ?_
  have hk' : (KS z m ti ba a h q).1.2.1.1.2 i = 25 := hk
  rw [hk']
  exact ⟨fun c => absurd c (by decide), fun _ => ⟨fun c => absurd c (by decide), fun _ => ⟨fun c => absurd c (by decide), fun _ => ⟨fun c => absurd c (by decide), fun _ => ⟨fun c => absurd c (by decide), fun _ => ⟨fun c => absurd c (by decide), fun _ => ⟨fun c => absurd c (by decide), fun _ => ⟨fun c => absurd c (by decide), fun _ => ⟨fun c => absurd c (by decide), fun _ => ⟨fun c => absurd c (by decide), fun _ => ⟨fun c => absurd c (by decide), fun _ => ⟨fun c => absurd c (by decide), fun _ => ⟨fun _ => hp, fun c => absurd rfl c⟩⟩⟩⟩⟩⟩⟩⟩⟩⟩⟩⟩⟩
theorem wn_26 (hz : KZ T g z u L) {i : Nat} {po : WSX0 → Prop} (hi : i < u) (hk : z.1.2.1.1.2 i = 26) (hp : ∃ n, n ≤ 400 ∧ wg_wv n 0 (KS z m ti ba a h q) [(nI i - (1 : Int32)), (0 : Int32), (0 : Int32)] (fun _ τ72 => wp_X0_callFor τ72 (nI i) τ72.1.1.2.1.1 (fun τ75 => po τ75))) : wp_X0_writeNode (KS z m ti ba a h q) (nI i) po := by
  unfold wp_X0_writeNode
  refine c_nkind hz.nw hi ?_
  have hk' : (KS z m ti ba a h q).1.2.1.1.2 i = 26 := hk
  rw [hk']
  exact ⟨fun c => absurd c (by decide), fun _ => ⟨fun c => absurd c (by decide), fun _ => ⟨fun c => absurd c (by decide), fun _ => ⟨fun c => absurd c (by decide), fun _ => ⟨fun c => absurd c (by decide), fun _ => ⟨fun c => absurd c (by decide), fun _ => ⟨fun c => absurd c (by decide), fun _ => ⟨fun c => absurd c (by decide), fun _ => ⟨fun c => absurd c (by decide), fun _ => ⟨fun c => absurd c (by decide), fun _ => ⟨fun c => absurd c (by decide), fun _ => ⟨fun c => absurd c (by decide), fun _ => ⟨fun c => absurd c (by decide), fun _ => ⟨fun _ => hp, fun c => absurd rfl c⟩⟩⟩⟩⟩⟩⟩⟩⟩⟩⟩⟩⟩⟩
theorem wn_0 (hz : KZ T g z u L) {i k : Nat} {po : WSX0 → Prop} (hi : i < u) (hk : z.1.2.1.1.2 i = nI k) (hk1 : k < 13 ∨ 26 < k) (hk2 : k < 200) (hp : po (KS z m ti ba a h q)) : wp_X0_writeNode (KS z m ti ba a h q) (nI i) po := by
  unfold wp_X0_writeNode
  refine c_nkind hz.nw hi ?_
  have hk' : (KS z m ti ba a h q).1.2.1.1.2 i = nI k := hk
  rw [hk']
  exact ⟨fun c => absurd ((nI_eq (b := 13) (by omega) (by omega)).mp c) (by omega), fun _ => ⟨fun c => absurd ((nI_eq (b := 14) (by omega) (by omega)).mp c) (by omega), fun _ => ⟨fun c => absurd ((nI_eq (b := 15) (by omega) (by omega)).mp c) (by omega), fun _ => ⟨fun c => absurd ((nI_eq (b := 16) (by omega) (by omega)).mp c) (by omega), fun _ => ⟨fun c => absurd ((nI_eq (b := 17) (by omega) (by omega)).mp c) (by omega), fun _ => ⟨fun c => absurd ((nI_eq (b := 18) (by omega) (by omega)).mp c) (by omega), fun _ => ⟨fun c => absurd ((nI_eq (b := 19) (by omega) (by omega)).mp c) (by omega), fun _ => ⟨fun c => absurd ((nI_eq (b := 20) (by omega) (by omega)).mp c) (by omega), fun _ => ⟨fun c => absurd ((nI_eq (b := 21) (by omega) (by omega)).mp c) (by omega), fun _ => ⟨fun c => absurd ((nI_eq (b := 22) (by omega) (by omega)).mp c) (by omega), fun _ => ⟨fun c => absurd ((nI_eq (b := 23) (by omega) (by omega)).mp c) (by omega), fun _ => ⟨fun c => absurd ((nI_eq (b := 24) (by omega) (by omega)).mp c) (by omega), fun _ => ⟨fun c => absurd ((nI_eq (b := 25) (by omega) (by omega)).mp c) (by omega), fun _ => ⟨fun c => absurd ((nI_eq (b := 26) (by omega) (by omega)).mp c) (by omega), fun _ => hp⟩⟩⟩⟩⟩⟩⟩⟩⟩⟩⟩⟩⟩⟩
/-- one node of the coder's loop -/
theorem wn_go (hz : KZ T g z u L) {post : WSX0 → Prop} {i M : Nat} (hM : 0 < M) (hi : i < u) (hp : wp_X0_writeNode (KS z m ti ba a h q) (nI i) (fun τ => wp_X0_write_62 post (M - 1) τ (nI (i + 1)))) : wp_X0_write_62 post M (KS z m ti ba a h q) (nI i) := by
  obtain ⟨M', rfl⟩ : ∃ M', M = M' + 1 := ⟨M - 1, by omega⟩
  rw [show M' + 1 - 1 = M' by omega, ← nI_1 i] at hp
  show wb_X0_write_62 post _ (KS z m ti ba a h q) (nI i)
  have nw := hz.nw (m := m) (ti := ti) (ba := ba) (a := a) (h := h) (q := q)
  have hL := nw.2.2.1
  have hL2 := nw.2.2.2
  unfold wb_X0_write_62
  show ((KS z m ti ba a h q).1.2.2.2.2.2 ≤ nI i → _) ∧ (¬ (KS z m ti ba a h q).1.2.2.2.2.2 ≤ nI i → _)
  have e : (KS z m ti ba a h q).1.2.2.2.2.2 = nI u := nw.1
  rw [e]
  exact ⟨fun c => absurd c (nI_ge hi (by omega)), fun _ => hp⟩
/-- parts of EXPRs are passed over -/
theorem k_skip (hz : KZ T g z u L) {post : WSX0 → Prop} : ∀ (e : Tr) (i M : Nat), WF T N e → CS T z.1.2 e i → i < u → u - (i + 1 - sz T e) < M → (∀ M', u - (i + 1) < M' → wp_X0_write_62 post M' (KS z m ti ba a h q) (nI (i + 1))) → wp_X0_write_62 post M (KS z m ti ba a h q) (nI (i + 1 - sz T e)) := by
  intro e
  induction e with
  | leaf t =>
    intro i M hwf hcs hi hM hY
    have e1 : sz T (.leaf t) = 1 := rfl
    rw [e1] at hM ⊢
    rw [show i + 1 - 1 = i by omega] at hM ⊢
    refine wn_go hz (by omega) hi (wn_0 hz hi hcs.2.1 (by have := hwf.2; omega) (by have := hwf.2; omega) (hY _ (by omega)))
  | branch p x y ihx ihy =>
    intro i M hwf hcs hi hM hY
    have px := sz_pos T x
    have py := sz_pos T y
    have hd4 := hcs.hd.2.2.2
    have hcs := hcs.2
    rw [WF] at hwf
    rw [sz] at hM hd4 ⊢
    by_cases q1 : p % 2 = 1
    · rw [if_pos q1] at hwf hcs hM hd4 ⊢
      obtain ⟨c1, c2, c3, c4⟩ := hcs
      have k1 := ihx (i - 1 - sz T y) M hwf.2.2.1 c4 (by omega) (by omega) (fun M1 hM1 => ?_)
      · rw [show i + 1 - (sz T x + sz T y + 1) = i - 1 - sz T y + 1 - sz T x by omega]
        exact k1
      · have k2 := ihy (i - 1) M1 hwf.2.2.2 c3 (by omega) (by omega) (fun M2 hM2 => ?_)
        · rw [show i - 1 - sz T y + 1 = i - 1 + 1 - sz T y by omega]
          exact k2
        · rw [show i - 1 + 1 = i by omega] at hM2 ⊢
          have hk131 : TK T (p / 2) ≤ 131 := (TK_r T (p / 2)).1
          refine wn_go hz (by omega) hi (wn_0 hz hi c1 ?_ (by omega) (hY _ (by omega)))
          rcases lvl_k hwf.2.1 with e | e | e | e | e | e | e | e | e | e | e | e | e <;> omega
    · rw [if_neg q1] at hwf hcs hM hd4 ⊢
      by_cases q2 : TK T (p / 2) = 2
      · rw [if_pos q2] at hwf hcs hM hd4 ⊢
        obtain ⟨c1, c2, c3, c4, c5⟩ := hcs
        rw [show i + 1 - (sz T x + 2) = i - 1 - sz T x by omega] at hM ⊢
        refine wn_go hz (by omega) (by omega) (wn_0 hz (k := 27) (by omega) c4 (by omega) (by omega) ?_)
        have k2 := ihx (i - 1) (M - 1) hwf.2.2 c3 (by omega) (by omega) (fun M2 hM2 => ?_)
        · rw [show i - 1 - sz T x + 1 = i - 1 + 1 - sz T x by omega]
          exact k2
        · rw [show i - 1 + 1 = i by omega] at hM2 ⊢
          exact wn_go hz (by omega) hi (wn_0 hz (k := 28) hi c1 (by omega) (by omega) (hY _ (by omega)))
      · rw [if_neg q2] at hwf hcs hM hd4 ⊢
        obtain ⟨c1, c2, c3⟩ := hcs
        have k2 := ihx (i - 1) M hwf.2.2 c3 (by omega) (by omega) (fun M2 hM2 => ?_)
        · rw [show i + 1 - (sz T x + 1) = i - 1 + 1 - sz T x by omega]
          exact k2
        · rw [show i - 1 + 1 = i by omega] at hM2 ⊢
          have hku : ku (TK T (p / 2)) = 29 ∨ ku (TK T (p / 2)) = 126 ∨ ku (TK T (p / 2)) = 33 := by
            rcases hwf.2.1 with e | e | e <;> rw [e] <;> decide
          exact wn_go hz (by omega) hi (wn_0 hz hi c1 (by omega) (by omega) (hY _ (by omega)))
/-- an EXPR of a statement -/
theorem k_whole (hz : KZ T g z u L) (hv : GV T N g) (hN : ∀ s, s + 1 < N → ¬ tfin T s) (hu3 : u ≤ 3000) {e : Tr} {i : Nat} {po : Int32 → WSX0 → Prop} (hwf : WF T N e) (hcs : CS T z.1.2 e i) (hcj : CJ T g z.1.2 e i) (hi : i < u) (hr : rh e ≤ 112) (ha : 512 ≤ a) (hb : a + wt T e ≤ 4096) (hB : BI u ba a) (hh : h + 112 ≤ 211)
    (hY : ∀ m' ti' ba' b, CG T g u e i 0 h a m ti ba m' ti' ba' b → po 0 (KS z m' ti' ba' b h q)) : ∃ n, n ≤ 400 ∧ wg_wv n 0 (KS z m ti ba a h q) [nI i, (0 : Int32), (0 : Int32)] po := by
  have hd4 := hcs.hd.2.2.2
  have n11 : nd T e ≤ 11 := nd_11 (by omega)
  refine ⟨113, by omega, ?_⟩
  refine k_value (f := 0) (dp := 0) hz (by omega) (by omega) (by omega) (fun M post hM hY => ?_) hY
  exact k_ex hz hv hN (by omega) e 112 i 0 h a 0 q i 0 M m ti ba post hwf hcs hcj (Nat.le_refl _) hi (by omega) hr (by omega) hM ha hb hB (fun _ => rfl) (fun _ => by omega) n11 (by omega) hY
theorem k_step (hz : KZ T g z u L) {i : Nat} {po : WSX0 → Prop} (hi : i < u) (ha : 512 ≤ a) (ha2 : a < 4096) (hq : q < 1000) (hB : BI u ba a)
    (hp : ∀ m' ba' a1, STP m' ba' (decide (0 < q)) i a a1 → (∀ j, j < a → m' j = m j) → (∀ j, ¬ j = i → ba' j = ba j) → BI u ba' a1 → po (KS z m' ti ba' a1 h q)) : wp_X0_writeStep (KS z m ti ba a h q) (nI i) po := by
  unfold wp_X0_writeStep
  show (¬ nI q = 0 → po (KS z m ti ba a h q)) ∧ (nI q = 0 → _)
  refine ⟨fun c => ?_, fun c => ?_⟩
  · have h0 : 0 < q := by
      by_cases e : q = 0
      · rw [e] at c
        exact absurd rfl c
      · omega
    refine hp m ba a ?_ (fun _ _ => rfl) (fun _ _ => rfl) hB
    unfold STP
    rw [if_pos (decide_eq_true h0)]
  · have h0 : q = 0 := (nI_eq (b := 0) (by omega) (by omega)).mp c
    refine c_callFor hz hi ha2 hz.2.2.2.1 ?_
    refine hp _ _ (a + 1) ?_ (fun j hj => pk_un (by omega)) (fun j hj => pk_un hj) (hB.up ha ha2)
    unfold STP
    rw [if_neg (by rw [h0]; decide)]
    exact ⟨pk_us, rfl, pk_us⟩
/-! what the judge's word means for statements -/
theorem js_0 {T : TX} {g : List DD} {p : Nat} {x y : Tr} {w : Bool} (h : js T g (.branch p x y) 0 w = .ok ()) : js T g x 1 w = .ok () ∧ js T g y 0 w = .ok () := by
  rw [js, if_pos rfl] at h
  cases hx : js T g x 1 w with
  | error z => rw [hx] at h; cases h
  | ok _ => rw [hx] at h; exact ⟨rfl, h⟩
theorem js_2 {T : TX} {g : List DD} {p : Nat} {x y : Tr} {w : Bool} (h : js T g (.branch p x y) 2 w = .ok ()) : js T g x 0 w = .ok () ∧ js T g y 0 w = .ok () := by
  rw [js, if_neg (by omega), if_neg (by omega)] at h
  cases hx : js T g x 0 w with
  | error z => rw [hx] at h; cases h
  | ok _ => rw [hx] at h; exact ⟨rfl, h⟩
theorem js_put {T : TX} {g : List DD} {p : Nat} {x y : Tr} {w : Bool} (c : p % 8 = 0) (h : js T g (.branch p x y) 1 w = .ok ()) : ∃ k s, jt T g w false (p / 8) = .ok k ∧ je T g w x = .ok s ∧ (s = true → dsec T (gx g k) = true) := by
  rw [js, if_neg (by omega), if_pos rfl, if_pos c] at h
  cases hk : jt T g w false (p / 8) with
  | error z => rw [hk] at h; cases h
  | ok k =>
    rw [hk] at h
    dsimp only at h
    cases hx : je T g w x with
    | error z => rw [hx] at h; cases h
    | ok s =>
      rw [hx] at h
      dsimp only at h
      split at h
      · cases h
      · rename_i hn
        refine ⟨k, s, rfl, rfl, fun hs => ?_⟩
        cases hd : dsec T (gx g k) with
        | true => rfl
        | false => rw [hs, hd] at hn; exact absurd rfl hn
theorem js_putin {T : TX} {g : List DD} {p : Nat} {x y : Tr} {w : Bool} (c : p % 8 = 1) (h : js T g (.branch p x y) 1 w = .ok ()) : ∃ k s, jt T g w true (p / 8) = .ok k ∧ je T g w x = .ok false ∧ je T g w y = .ok s ∧ (s = true → dsec T (gx g k) = true) := by
  rw [js, if_neg (by omega), if_pos rfl, if_neg (by omega), if_pos c] at h
  cases hk : jt T g w true (p / 8) with
  | error z => rw [hk] at h; cases h
  | ok k =>
    rw [hk] at h
    dsimp only at h
    cases hx : je T g w x with
    | error z => rw [hx] at h; cases h
    | ok s1 =>
      rw [hx] at h
      dsimp only at h
      split at h
      · cases h
      · rename_i hs1
        cases hy : je T g w y with
        | error z => rw [hy] at h; cases h
        | ok s =>
          rw [hy] at h
          dsimp only at h
          split at h
          · cases h
          · rename_i hn
            have : s1 = false := by
              cases s1 with
              | false => rfl
              | true => exact absurd rfl hs1
            refine ⟨k, s, rfl, by rw [this], rfl, fun hs => ?_⟩
            cases hd : dsec T (gx g k) with
            | true => rfl
            | false => rw [hs, hd] at hn; exact absurd rfl hn
theorem js_out {T : TX} {g : List DD} {p : Nat} {x y : Tr} {w : Bool} (c : p % 8 = 2) (h : js T g (.branch p x y) 1 w = .ok ()) : w = false ∧ je T g w x = .ok false := by
  rw [js, if_neg (by omega), if_pos rfl, if_neg (by omega), if_neg (by omega), if_pos c] at h
  split at h
  · cases h
  · rename_i hw
    cases hx : je T g w x with
    | error z => rw [hx] at h; cases h
    | ok s =>
      rw [hx] at h
      dsimp only at h
      split at h
      · cases h
      · rename_i hs
        refine ⟨?_, ?_⟩
        · cases w with
          | false => rfl
          | true => exact absurd rfl hw
        · cases s with
          | false => rfl
          | true => exact absurd rfl hs
theorem js_while {T : TX} {g : List DD} {p : Nat} {x y : Tr} {w : Bool} (c : p % 8 = 3) (h : js T g (.branch p x y) 1 w = .ok ()) : w = false ∧ je T g w x = .ok false ∧ js T g y 0 w = .ok () := by
  rw [js, if_neg (by omega), if_pos rfl, if_neg (by omega), if_neg (by omega), if_neg (by omega), if_pos c] at h
  split at h
  · cases h
  · rename_i hw
    cases hx : je T g w x with
    | error z => rw [hx] at h; cases h
    | ok s =>
      rw [hx] at h
      dsimp only at h
      split at h
      · cases h
      · rename_i hs
        refine ⟨?_, ?_, h⟩
        · cases w with
          | false => rfl
          | true => exact absurd rfl hw
        · cases s with
          | false => rfl
          | true => exact absurd rfl hs
theorem js_if {T : TX} {g : List DD} {p : Nat} {x y : Tr} {w : Bool} (c : p % 8 = 4) (h : js T g (.branch p x y) 1 w = .ok ()) : ∃ s, je T g w x = .ok s ∧ js T g y 0 (w || s) = .ok () := by
  rw [js, if_neg (by omega), if_pos rfl, if_neg (by omega), if_neg (by omega), if_neg (by omega), if_neg (by omega), if_pos c] at h
  cases hx : je T g w x with
  | error z => rw [hx] at h; cases h
  | ok s => rw [hx] at h; exact ⟨s, rfl, h⟩
theorem js_ife {T : TX} {g : List DD} {p : Nat} {x y : Tr} {w : Bool} (c : p % 8 = 5) (h : js T g (.branch p x y) 1 w = .ok ()) : ∃ s, je T g w x = .ok s ∧ js T g y 2 (w || s) = .ok () := by
  rw [js, if_neg (by omega), if_pos rfl, if_neg (by omega), if_neg (by omega), if_neg (by omega), if_neg (by omega), if_neg (by omega)] at h
  cases hx : je T g w x with
  | error z => rw [hx] at h; cases h
  | ok s => rw [hx] at h; exact ⟨s, rfl, h⟩
end CNode
