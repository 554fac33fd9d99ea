section Look
theorem lk_2 {σ : WSX1} {u L i : Nat} {po : Int32 → WSX1 → Prop} (h : NW0 σ.1.2 u L) (hi : i < u) (hk : σ.1.2.1.1.2 i = (2 : Int32)) (w : wp_X1_lookAtName ((σ.1.1, σ.1.2), σ.2) (nI i) (fun r4 τ5 => po r4 τ5)) : wp_X1_look σ (nI i) po := by
  refine c_nkind h hi ?_
  rw [hk]
  exact ⟨fun _ => w, fun c => absurd rfl c⟩
theorem lk_11 {σ : WSX1} {u L i : Nat} {po : Int32 → WSX1 → Prop} (h : NW0 σ.1.2 u L) (hi : i < u) (hk : σ.1.2.1.1.2 i = (11 : Int32)) (w : wp_X1_lookAtDeclaration ((σ.1.1, σ.1.2), σ.2) (nI i) (fun r7 τ8 => po r7 τ8)) : wp_X1_look σ (nI i) po := by
  refine c_nkind h hi ?_
  rw [hk]
  exact ⟨fun c => absurd c (by decide), fun _ => ⟨fun _ => w, fun c => absurd rfl c⟩⟩
theorem lk_13 {σ : WSX1} {u L i : Nat} {po : Int32 → WSX1 → Prop} (h : NW0 σ.1.2 u L) (hi : i < u) (hk : σ.1.2.1.1.2 i = (13 : Int32)) (w : wp_X1_lookAtTarget ((σ.1.1, σ.1.2), σ.2) (nI i) (fun r10 τ11 => po r10 τ11)) : wp_X1_look σ (nI i) po := by
  refine c_nkind h hi ?_
  rw [hk]
  exact ⟨fun c => absurd c (by decide), fun _ => ⟨fun c => absurd c (by decide), fun _ => ⟨fun _ => w, fun c => absurd rfl c⟩⟩⟩
theorem lk_14 {σ : WSX1} {u L i : Nat} {po : Int32 → WSX1 → Prop} (h : NW0 σ.1.2 u L) (hi : i < u) (hk : σ.1.2.1.1.2 i = (14 : Int32)) (w : wp_X1_lookAtTarget ((σ.1.1, σ.1.2), σ.2) (nI i) (fun r13 τ14 => po r13 τ14)) : wp_X1_look σ (nI i) po := by
  refine c_nkind h hi ?_
  rw [hk]
  exact ⟨fun c => absurd c (by decide), fun _ => ⟨fun c => absurd c (by decide), fun _ => ⟨fun c => absurd c (by decide), fun _ => ⟨fun _ => w, fun c => absurd rfl c⟩⟩⟩⟩
theorem lk_15 {σ : WSX1} {u L i : Nat} {po : Int32 → WSX1 → Prop} (h : NW0 σ.1.2 u L) (hi : i < u) (hk : σ.1.2.1.1.2 i = (15 : Int32)) (w : wp_X4_secret σ.1.2 ((nI i) - (1 : Int32)) (fun r16 τ17 => wp_X1_wrongIf ((σ.1.1, τ17), σ.2) r16 (4 : Int32) (nI i) (fun r18 τ19 => po r18 τ19))) : wp_X1_look σ (nI i) po := by
  refine c_nkind h hi ?_
  rw [hk]
  exact ⟨fun c => absurd c (by decide), fun _ => ⟨fun c => absurd c (by decide), fun _ => ⟨fun c => absurd c (by decide), fun _ => ⟨fun c => absurd c (by decide), fun _ => ⟨fun _ => w, fun c => absurd rfl c⟩⟩⟩⟩⟩
theorem lk_16 {σ : WSX1} {u L i : Nat} {po : Int32 → WSX1 → Prop} (h : NW0 σ.1.2 u L) (hi : i < u) (hk : σ.1.2.1.1.2 i = (16 : Int32)) (w : wp_X4_secret σ.1.2 ((nI i) - (1 : Int32)) (fun r21 τ22 => ((r21 = 0 → wp_X1_look_228  po ((σ.1.1, τ22), σ.2) (nI i)) ∧ (¬ r21 = 0 → wp_X4_value τ22 (nI i) (fun r25 τ26 => wp_X4_value τ26 r25 (fun r27 τ28 => wp_X3_secret σ.2 r27 (fun r29 τ30 => ((¬ r29 = 0 → wp_X1_look_228  po ((σ.1.1, τ28), τ30) (nI i)) ∧ (r29 = 0 → wp_X1_look_229  po ((σ.1.1, τ28), τ30) (nI i) (1 : Int32)))))))))) : wp_X1_look σ (nI i) po := by
  refine c_nkind h hi ?_
  rw [hk]
  exact ⟨fun c => absurd c (by decide), fun _ => ⟨fun c => absurd c (by decide), fun _ => ⟨fun c => absurd c (by decide), fun _ => ⟨fun c => absurd c (by decide), fun _ => ⟨fun c => absurd c (by decide), fun _ => ⟨fun _ => w, fun c => absurd rfl c⟩⟩⟩⟩⟩⟩
theorem lk_18 {σ : WSX1} {u L i : Nat} {po : Int32 → WSX1 → Prop} (h : NW0 σ.1.2 u L) (hi : i < u) (hk : σ.1.2.1.1.2 i = (18 : Int32)) (w : wp_X4_secret σ.1.2 ((nI i) - (1 : Int32)) (fun r34 τ35 => wp_X4_keepSecret τ35 (nI i) r34 (fun τ37 => wp_X4_secret τ37 (nI i) (fun r38 τ39 => ((r38 = 0 → wp_X1_look_331  po ((σ.1.1, τ39), σ.2) (0 : Int32) σ.1.1.2) ∧ (¬ r38 = 0 → wp_X1_look_331  po ((σ.1.1, τ39), σ.2) (1 : Int32) σ.1.1.2)))))) : wp_X1_look σ (nI i) po := by
  refine c_nkind h hi ?_
  rw [hk]
  exact ⟨fun c => absurd c (by decide), fun _ => ⟨fun c => absurd c (by decide), fun _ => ⟨fun c => absurd c (by decide), fun _ => ⟨fun c => absurd c (by decide), fun _ => ⟨fun c => absurd c (by decide), fun _ => ⟨fun c => absurd c (by decide), fun _ => ⟨fun _ => w, fun c => absurd rfl c⟩⟩⟩⟩⟩⟩⟩
theorem lk_20 {σ : WSX1} {u L i : Nat} {po : Int32 → WSX1 → Prop} (h : NW0 σ.1.2 u L) (hi : i < u) (hk : σ.1.2.1.1.2 i = (20 : Int32)) (w : wp_X4_value σ.1.2 (nI i) (fun r43 τ44 => wp_X4_secret τ44 r43 (fun r45 τ46 => ((r45 = 0 → wp_X1_look_365  po ((σ.1.1, τ46), σ.2) (0 : Int32) σ.1.1.2) ∧ (¬ r45 = 0 → wp_X1_look_365  po ((σ.1.1, τ46), σ.2) (1 : Int32) σ.1.1.2))))) : wp_X1_look σ (nI i) po := by
  refine c_nkind h hi ?_
  rw [hk]
  exact ⟨fun c => absurd c (by decide), fun _ => ⟨fun c => absurd c (by decide), fun _ => ⟨fun c => absurd c (by decide), fun _ => ⟨fun c => absurd c (by decide), fun _ => ⟨fun c => absurd c (by decide), fun _ => ⟨fun c => absurd c (by decide), fun _ => ⟨fun c => absurd c (by decide), fun _ => ⟨fun _ => w, fun c => absurd rfl c⟩⟩⟩⟩⟩⟩⟩⟩
theorem lk_21 {σ : WSX1} {u L i : Nat} {po : Int32 → WSX1 → Prop} (h : NW0 σ.1.2 u L) (hi : i < u) (hk : σ.1.2.1.1.2 i = (21 : Int32)) (w : ((σ.1.1.2 ≤ 0 → wp_X1_look_249  po ((σ.1.1, σ.1.2), σ.2) (nI i) (0 : Int32)) ∧ (¬ σ.1.1.2 ≤ 0 → wp_X1_look_249  po ((σ.1.1, σ.1.2), σ.2) (nI i) (1 : Int32)))) : wp_X1_look σ (nI i) po := by
  refine c_nkind h hi ?_
  rw [hk]
  exact ⟨fun c => absurd c (by decide), fun _ => ⟨fun c => absurd c (by decide), fun _ => ⟨fun c => absurd c (by decide), fun _ => ⟨fun c => absurd c (by decide), fun _ => ⟨fun c => absurd c (by decide), fun _ => ⟨fun c => absurd c (by decide), fun _ => ⟨fun c => absurd c (by decide), fun _ => ⟨fun c => absurd c (by decide), fun _ => ⟨fun _ => w, fun c => absurd rfl c⟩⟩⟩⟩⟩⟩⟩⟩⟩
theorem lk_23 {σ : WSX1} {u L i : Nat} {po : Int32 → WSX1 → Prop} (h : NW0 σ.1.2 u L) (hi : i < u) (hk : σ.1.2.1.1.2 i = (23 : Int32)) (w : wp_X4_secret σ.1.2 ((nI i) - (1 : Int32)) (fun r54 τ55 => wp_X1_wrongIf ((σ.1.1, τ55), σ.2) r54 (6 : Int32) (nI i) (fun r56 τ57 => po r56 τ57))) : wp_X1_look σ (nI i) po := by
  refine c_nkind h hi ?_
  rw [hk]
  exact ⟨fun c => absurd c (by decide), fun _ => ⟨fun c => absurd c (by decide), fun _ => ⟨fun c => absurd c (by decide), fun _ => ⟨fun c => absurd c (by decide), fun _ => ⟨fun c => absurd c (by decide), fun _ => ⟨fun c => absurd c (by decide), fun _ => ⟨fun c => absurd c (by decide), fun _ => ⟨fun c => absurd c (by decide), fun _ => ⟨fun c => absurd c (by decide), fun _ => ⟨fun _ => w, fun c => absurd rfl c⟩⟩⟩⟩⟩⟩⟩⟩⟩⟩
theorem lk_25 {σ : WSX1} {u L i : Nat} {po : Int32 → WSX1 → Prop} (h : NW0 σ.1.2 u L) (hi : i < u) (hk : σ.1.2.1.1.2 i = (25 : Int32)) (w : ((σ.1.1.2 ≤ 0 → wp_X1_look_249  po ((σ.1.1, σ.1.2), σ.2) (nI i) (0 : Int32)) ∧ (¬ σ.1.1.2 ≤ 0 → wp_X1_look_249  po ((σ.1.1, σ.1.2), σ.2) (nI i) (1 : Int32)))) : wp_X1_look σ (nI i) po := by
  refine c_nkind h hi ?_
  rw [hk]
  exact ⟨fun c => absurd c (by decide), fun _ => ⟨fun c => absurd c (by decide), fun _ => ⟨fun c => absurd c (by decide), fun _ => ⟨fun c => absurd c (by decide), fun _ => ⟨fun c => absurd c (by decide), fun _ => ⟨fun c => absurd c (by decide), fun _ => ⟨fun c => absurd c (by decide), fun _ => ⟨fun c => absurd c (by decide), fun _ => ⟨fun c => absurd c (by decide), fun _ => ⟨fun c => absurd c (by decide), fun _ => ⟨fun _ => w, fun c => absurd rfl c⟩⟩⟩⟩⟩⟩⟩⟩⟩⟩⟩
theorem lk_26 {σ : WSX1} {u L i : Nat} {po : Int32 → WSX1 → Prop} (h : NW0 σ.1.2 u L) (hi : i < u) (hk : σ.1.2.1.1.2 i = (26 : Int32)) (w : wp_X4_secret σ.1.2 ((nI i) - (1 : Int32)) (fun r61 τ62 => wp_X1_wrongIf ((σ.1.1, τ62), σ.2) r61 (7 : Int32) (nI i) (fun r63 τ64 => po r63 τ64))) : wp_X1_look σ (nI i) po := by
  refine c_nkind h hi ?_
  rw [hk]
  exact ⟨fun c => absurd c (by decide), fun _ => ⟨fun c => absurd c (by decide), fun _ => ⟨fun c => absurd c (by decide), fun _ => ⟨fun c => absurd c (by decide), fun _ => ⟨fun c => absurd c (by decide), fun _ => ⟨fun c => absurd c (by decide), fun _ => ⟨fun c => absurd c (by decide), fun _ => ⟨fun c => absurd c (by decide), fun _ => ⟨fun c => absurd c (by decide), fun _ => ⟨fun c => absurd c (by decide), fun _ => ⟨fun c => absurd c (by decide), fun _ => ⟨fun _ => w, fun c => absurd rfl c⟩⟩⟩⟩⟩⟩⟩⟩⟩⟩⟩⟩
theorem lk_27 {σ : WSX1} {u L i : Nat} {po : Int32 → WSX1 → Prop} (h : NW0 σ.1.2 u L) (hi : i < u) (hk : σ.1.2.1.1.2 i = (27 : Int32)) (w : wp_X1_lookAtRow ((σ.1.1, σ.1.2), σ.2) (nI i) (fun r66 τ67 => po r66 τ67)) : wp_X1_look σ (nI i) po := by
  refine c_nkind h hi ?_
  rw [hk]
  exact ⟨fun c => absurd c (by decide), fun _ => ⟨fun c => absurd c (by decide), fun _ => ⟨fun c => absurd c (by decide), fun _ => ⟨fun c => absurd c (by decide), fun _ => ⟨fun c => absurd c (by decide), fun _ => ⟨fun c => absurd c (by decide), fun _ => ⟨fun c => absurd c (by decide), fun _ => ⟨fun c => absurd c (by decide), fun _ => ⟨fun c => absurd c (by decide), fun _ => ⟨fun c => absurd c (by decide), fun _ => ⟨fun c => absurd c (by decide), fun _ => ⟨fun c => absurd c (by decide), fun _ => ⟨fun _ => w, fun c => absurd rfl c⟩⟩⟩⟩⟩⟩⟩⟩⟩⟩⟩⟩⟩
theorem lk_28 {σ : WSX1} {u L i : Nat} {po : Int32 → WSX1 → Prop} (h : NW0 σ.1.2 u L) (hi : i < u) (hk : σ.1.2.1.1.2 i = (28 : Int32)) (w : wp_X1_lookAtItem ((σ.1.1, σ.1.2), σ.2) (nI i) (fun r69 τ70 => po r69 τ70)) : wp_X1_look σ (nI i) po := by
  refine c_nkind h hi ?_
  rw [hk]
  exact ⟨fun c => absurd c (by decide), fun _ => ⟨fun c => absurd c (by decide), fun _ => ⟨fun c => absurd c (by decide), fun _ => ⟨fun c => absurd c (by decide), fun _ => ⟨fun c => absurd c (by decide), fun _ => ⟨fun c => absurd c (by decide), fun _ => ⟨fun c => absurd c (by decide), fun _ => ⟨fun c => absurd c (by decide), fun _ => ⟨fun c => absurd c (by decide), fun _ => ⟨fun c => absurd c (by decide), fun _ => ⟨fun c => absurd c (by decide), fun _ => ⟨fun c => absurd c (by decide), fun _ => ⟨fun c => absurd c (by decide), fun _ => ⟨fun _ => w, fun c => absurd rfl c⟩⟩⟩⟩⟩⟩⟩⟩⟩⟩⟩⟩⟩⟩
theorem lk_29 {σ : WSX1} {u L i : Nat} {po : Int32 → WSX1 → Prop} (h : NW0 σ.1.2 u L) (hi : i < u) (hk : σ.1.2.1.1.2 i = (29 : Int32)) (w : wp_X4_secret σ.1.2 ((nI i) - (1 : Int32)) (fun r72 τ73 => wp_X4_keepSecret τ73 (nI i) r72 (fun τ75 => po (0 : Int32) ((σ.1.1, τ75), σ.2)))) : wp_X1_look σ (nI i) po := by
  refine c_nkind h hi ?_
  rw [hk]
  exact ⟨fun c => absurd c (by decide), fun _ => ⟨fun c => absurd c (by decide), fun _ => ⟨fun c => absurd c (by decide), fun _ => ⟨fun c => absurd c (by decide), fun _ => ⟨fun c => absurd c (by decide), fun _ => ⟨fun c => absurd c (by decide), fun _ => ⟨fun c => absurd c (by decide), fun _ => ⟨fun c => absurd c (by decide), fun _ => ⟨fun c => absurd c (by decide), fun _ => ⟨fun c => absurd c (by decide), fun _ => ⟨fun c => absurd c (by decide), fun _ => ⟨fun c => absurd c (by decide), fun _ => ⟨fun c => absurd c (by decide), fun _ => ⟨fun c => absurd c (by decide), fun _ => ⟨fun _ => w, fun c => absurd rfl c⟩⟩⟩⟩⟩⟩⟩⟩⟩⟩⟩⟩⟩⟩⟩
theorem lk_33 {σ : WSX1} {u L i : Nat} {po : Int32 → WSX1 → Prop} (h : NW0 σ.1.2 u L) (hi : i < u) (hk : σ.1.2.1.1.2 i = (33 : Int32)) (w : wp_X4_secret σ.1.2 ((nI i) - (1 : Int32)) (fun r77 τ78 => wp_X4_keepSecret τ78 (nI i) r77 (fun τ80 => po (0 : Int32) ((σ.1.1, τ80), σ.2)))) : wp_X1_look σ (nI i) po := by
  refine c_nkind h hi ?_
  rw [hk]
  exact ⟨fun c => absurd c (by decide), fun _ => ⟨fun c => absurd c (by decide), fun _ => ⟨fun c => absurd c (by decide), fun _ => ⟨fun c => absurd c (by decide), fun _ => ⟨fun c => absurd c (by decide), fun _ => ⟨fun c => absurd c (by decide), fun _ => ⟨fun c => absurd c (by decide), fun _ => ⟨fun c => absurd c (by decide), fun _ => ⟨fun c => absurd c (by decide), fun _ => ⟨fun c => absurd c (by decide), fun _ => ⟨fun c => absurd c (by decide), fun _ => ⟨fun c => absurd c (by decide), fun _ => ⟨fun c => absurd c (by decide), fun _ => ⟨fun c => absurd c (by decide), fun _ => ⟨fun c => absurd c (by decide), fun _ => ⟨fun _ => w, fun c => absurd rfl c⟩⟩⟩⟩⟩⟩⟩⟩⟩⟩⟩⟩⟩⟩⟩⟩
theorem lk_126 {σ : WSX1} {u L i : Nat} {po : Int32 → WSX1 → Prop} (h : NW0 σ.1.2 u L) (hi : i < u) (hk : σ.1.2.1.1.2 i = (126 : Int32)) (w : wp_X4_secret σ.1.2 ((nI i) - (1 : Int32)) (fun r82 τ83 => wp_X4_keepSecret τ83 (nI i) r82 (fun τ85 => po (0 : Int32) ((σ.1.1, τ85), σ.2)))) : wp_X1_look σ (nI i) po := by
  refine c_nkind h hi ?_
  rw [hk]
  exact ⟨fun c => absurd c (by decide), fun _ => ⟨fun c => absurd c (by decide), fun _ => ⟨fun c => absurd c (by decide), fun _ => ⟨fun c => absurd c (by decide), fun _ => ⟨fun c => absurd c (by decide), fun _ => ⟨fun c => absurd c (by decide), fun _ => ⟨fun c => absurd c (by decide), fun _ => ⟨fun c => absurd c (by decide), fun _ => ⟨fun c => absurd c (by decide), fun _ => ⟨fun c => absurd c (by decide), fun _ => ⟨fun c => absurd c (by decide), fun _ => ⟨fun c => absurd c (by decide), fun _ => ⟨fun c => absurd c (by decide), fun _ => ⟨fun c => absurd c (by decide), fun _ => ⟨fun c => absurd c (by decide), fun _ => ⟨fun c => absurd c (by decide), fun _ => ⟨fun _ => w, fun c => absurd rfl c⟩⟩⟩⟩⟩⟩⟩⟩⟩⟩⟩⟩⟩⟩⟩⟩⟩
theorem lk_no {σ : WSX1} {u L i : Nat} {po : Int32 → WSX1 → Prop} (h : NW0 σ.1.2 u L) (hi : i < u) (K : Int32) (hk : σ.1.2.1.1.2 i = K) (hn : ¬ K = (2 : Int32) ∧ ¬ K = (11 : Int32) ∧ ¬ K = (13 : Int32) ∧ ¬ K = (14 : Int32) ∧ ¬ K = (15 : Int32) ∧ ¬ K = (16 : Int32) ∧ ¬ K = (18 : Int32) ∧ ¬ K = (20 : Int32) ∧ ¬ K = (21 : Int32) ∧ ¬ K = (23 : Int32) ∧ ¬ K = (25 : Int32) ∧ ¬ K = (26 : Int32) ∧ ¬ K = (27 : Int32) ∧ ¬ K = (28 : Int32) ∧ ¬ K = (29 : Int32) ∧ ¬ K = (33 : Int32) ∧ ¬ K = (126 : Int32)) (w : wp_X4_level K (fun r88 _ => ((¬ r88 = ((-1) : Int32) → wp_X1_lookAtPair σ (nI i) po) ∧ (r88 = ((-1) : Int32) → po (0 : Int32) σ)))) : wp_X1_look σ (nI i) po := by
  obtain ⟨n2, n11, n13, n14, n15, n16, n18, n20, n21, n23, n25, n26, n27, n28, n29, n33, n126⟩ := hn
  refine c_nkind h hi ?_
  rw [hk]
  exact ⟨fun c => absurd c n2, fun _ => ⟨fun c => absurd c n11, fun _ => ⟨fun c => absurd c n13, fun _ => ⟨fun c => absurd c n14, fun _ => ⟨fun c => absurd c n15, fun _ => ⟨fun c => absurd c n16, fun _ => ⟨fun c => absurd c n18, fun _ => ⟨fun c => absurd c n20, fun _ => ⟨fun c => absurd c n21, fun _ => ⟨fun c => absurd c n23, fun _ => ⟨fun c => absurd c n25, fun _ => ⟨fun c => absurd c n26, fun _ => ⟨fun c => absurd c n27, fun _ => ⟨fun c => absurd c n28, fun _ => ⟨fun c => absurd c n29, fun _ => ⟨fun c => absurd c n33, fun _ => ⟨fun c => absurd c n126, fun _ => c_nkind h hi (by rw [hk]; exact w)⟩⟩⟩⟩⟩⟩⟩⟩⟩⟩⟩⟩⟩⟩⟩⟩⟩
theorem lk_zero {σ : WSX1} {u L i K : Nat} {po : Int32 → WSX1 → Prop} (h : NW0 σ.1.2 u L) (hi : i < u) (hk : σ.1.2.1.1.2 i = nI K) (hK : K = 3 ∨ K = 12 ∨ K = 17 ∨ K = 19 ∨ K = 22 ∨ K = 24) (w : po 0 σ) : wp_X1_look σ (nI i) po := by
  have hl : wp_X4_level (nI K) (fun r88 _ => ((¬ r88 = ((-1) : Int32) → wp_X1_lookAtPair σ (nI i) po) ∧ (r88 = ((-1) : Int32) → po (0 : Int32) σ))) := by
    refine c_level (by omega) ⟨fun c => absurd ?_ c, fun _ => w⟩
    rcases hK with q | q | q | q | q | q <;> (rw [q]; rfl)
  refine lk_no h hi (nI K) hk ?_ hl
  rcases hK with q | q | q | q | q | q <;> (rw [q]; decide)
theorem lk_pair {σ : WSX1} {u L i K : Nat} {po : Int32 → WSX1 → Prop} (h : NW0 σ.1.2 u L) (hi : i < u) (hk : σ.1.2.1.1.2 i = nI K) (hK : lvl K < 7) (w : wp_X1_lookAtPair σ (nI i) po) : wp_X1_look σ (nI i) po := by
  have hr := lvl_kind hK
  have hl : wp_X4_level (nI K) (fun r88 _ => ((¬ r88 = ((-1) : Int32) → wp_X1_lookAtPair σ (nI i) po) ∧ (r88 = ((-1) : Int32) → po (0 : Int32) σ))) := by
    refine c_level (by omega) ?_
    unfold lv32
    rw [if_pos hK]
    exact ⟨fun _ => w, fun c => absurd c (nI_nem1 (by omega))⟩
  have ne : ∀ b : Nat, b < 256 → ¬ lvl b < 7 → ¬ nI K = nI b := fun b hb h2 c => h2 (by rw [← (nI_eq (by omega) (by omega)).mp c]; exact hK)
  exact lk_no h hi (nI K) hk ⟨ne 2 (by omega) (by decide), ne 11 (by omega) (by decide), ne 13 (by omega) (by decide), ne 14 (by omega) (by decide), ne 15 (by omega) (by decide), ne 16 (by omega) (by decide), ne 18 (by omega) (by decide), ne 20 (by omega) (by decide), ne 21 (by omega) (by decide), ne 23 (by omega) (by decide), ne 25 (by omega) (by decide), ne 26 (by omega) (by decide), ne 27 (by omega) (by decide), ne 28 (by omega) (by decide), ne 29 (by omega) (by decide), ne 33 (by omega) (by decide), ne 126 (by omega) (by decide)⟩ hl
end Look
