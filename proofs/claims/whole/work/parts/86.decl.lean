section Decl
def bN (b : Bool) : Nat := match b with | true => 1 | false => 0
/-- a DECLARATION: its first token, whether it is an input, whether it is a row -/
abbrev DD : Type := Nat × Bool × Bool
def ntk (x : DD) : Nat := x.1 + 1 + bN x.2.1
def ndk (x : DD) : Nat := ntk x + 2 + 3 * bN x.2.2
def dn (x : DD) : Nat := 2 + bN x.2.1 + bN x.2.2
def mann (T : TX) (x : DD) : Nat := (if TK T x.1 = 5 then 1 else 0) + (if x.2.1 = true then 2 else 0)
abbrev ROB : Type := Nat × Option Bool
/-- behind the level and the word in: NAME ( [ NUMBER ] )? ; -/
theorem dtail {T : TX} {N L : Nat} {t8 : SX8} (hg : GL T N L) {nt : Nat} (ht : nt < N) : ∃ o : ROB,
    ((∀ r, o.2 = some r → TK T nt = 2 ∧ (r = true → TK T (nt + 1) = 91 ∧ TK T (nt + 2) = 3 ∧ TK T (nt + 3) = 93) ∧ o.1 = nt + 2 + 3 * bN r ∧ PL T nt + 2 + 3 * bN r ≤ PL T o.1) ∧ nt ≤ o.1 ∧ o.1 < N) ∧
    (∀ (σ : WSX7) (u : Nat) (x : Int32) (post : WSX7 → Prop), CI T N L t8 σ nt u → u + 1 ≤ PL T nt →
      (∀ r, o.2 = some r → ∀ σ', CI T N L t8 σ' o.1 (u + 1 + bN r) → AG σ.2.2 σ'.2.2 0 u → AV σ.2.2 σ'.2.2 0 u → nv σ'.2.2 u 11 (PL T nt) x → (r = true → nv σ'.2.2 (u + 1) 12 (PL T (nt + 2)) (nI (NB T (nt + 2)))) → post σ') →
      (o.2 = none → ∀ σ', CF T N L t8 σ' o.1 → post σ') → wp_X7_declaration_47 post σ x) ∧
    (∀ (τ : SX12) (q q1 b : Nat) (sl : Option Nat) (rec : SX12 × Int32 → Prop) (post : Int32 → SX12 → Prop), MI T N τ nt q1 → q < q1 → (∀ y, sl = some y → y < q1) → (∀ τ', HP τ τ' q1 → slotOk τ' q sl) →
      (∀ r, o.2 = some r → ∀ τ', MI T N τ' o.1 (q1 + 1 + bN r) → MOF τ τ' → SP τ τ' q1 q sl → SV τ' q sl (nI q1) → τ'.1.1.2.2.1 q1 = 1 → τ'.1.1.2.2.2.1 q1 = nI nt → τ'.1.2.1.1.1 q1 = -1 → τ'.1.1.2.2.2.2 q1 = (if r = true then nI (q1 + 1) else -1) → (r = true → τ'.1.1.2.2.2.1 (q1 + 1) = nI (nt + 2)) → wp_X12_add τ' (nI b) (nI q) (fun τ23 => rec (τ23, nI b))) →
      (o.2 = none → ∀ τ' q', MB T N 3 τ' o.1 q' → q1 ≤ q' → MOF τ τ' → SP τ τ' q1 q sl → wp_X12_add τ' (nI b) (nI q) (fun τ23 => rec (τ23, nI b))) → wp_X12_program_107 rec post τ (nI b) (nI q)) := by
  have hn := hg.2.1
  have hN : N ≤ 3001 := by have := hg.1.2.1; omega
  have hL := hg.2.2.1
  have hPt := PL_le T nt
  -- the class with NAME
  have c47 : TK T nt = 2 → ∀ (σ : WSX7) (u : Nat) (x : Int32) (post : WSX7 → Prop), CI T N L t8 σ nt u → u + 1 ≤ PL T nt →
      (∀ σ1, CI T N L t8 σ1 (nt + 1) (u + 1) → u + 2 ≤ PL T (nt + 1) → AG σ.2.2 σ1.2.2 0 u → AV σ.2.2 σ1.2.2 0 u → nv σ1.2.2 u 11 (PL T nt) x →
        ((¬ TK T (nt + 1) = 91 → wp_X7_declaration_135 post σ1) ∧ (TK T (nt + 1) = 91 → wp_X9_next (σ1.1.2, σ1.2.1)  (fun τ18 => wp_X9_place τ18  (fun r19 τ20 => wp_X9_number τ20  (fun r21 τ22 => wp_X4_add σ1.2.2 (12 : Int32) r19 r21 (fun r23 τ24 => wp_X7_take ((σ1.1.1, τ22.1), (τ22.2, τ24)) (3 : Int32) (fun r25 τ26 => ((r25 = 0 → post τ26) ∧ (¬ r25 = 0 → wp_X7_take τ26 (93 : Int32) (fun r27 τ28 => ((¬ r27 = 0 → wp_X7_declaration_135  post τ28) ∧ (r27 = 0 → post τ28))))))))))))) → wp_X7_declaration_47 post σ x := by
    intro K σ u x post h hu hY
    obtain ⟨a1, a2, a3, a4, a5, a6, a7⟩ := id h
    unfold wp_X7_declaration_47
    refine c_place a2 a3 a4 (c_nadd a5 (by omega) ?_)
    have ci : CI T N L t8 (σ.1, (σ.2.1, nMk σ.2.2 u 11 (nI (PL T nt)) x 1 1 0)) nt (u + 1) := ⟨a1, a2, a3, a4, a5.mk (by omega) _ _ _ _ _ _, hu, a7⟩
    refine c_take (k := 2) hg.1 ci (by omega) (by omega) (by omega) (fun _ z1 z2 z3 ci2 => ⟨fun _ => ?_, fun c => absurd c (by decide)⟩) (fun z => absurd K z)
    have ag := AG.mk σ.2.2 (u := u) (Nat.le_refl _) 11 (nI (PL T nt)) x 1 1 0
    have av := AV.mk σ.2.2 (u := u) (Nat.le_refl _) 11 (nI (PL T nt)) x 1 1 0
    obtain ⟨g1, g2⟩ := hY _ ci2 (by omega) ag av ⟨pk_us, pk_us, pk_us⟩
    have hr := (TK_r T (nt + 1)).1
    refine c_kind ci2.2.1 ci2.2.2.1 ci2.2.2.2.1 ⟨fun c => g1 (fun z => c (by rw [z]; rfl)), fun c => g2 ((nI_eq (b := 91) (by omega) (by omega)).mp c)⟩
  -- the reference with NAME
  have m107 : TK T nt = 2 → nt + 1 < N → ∀ (τ : SX12) (q q1 b : Nat) (sl : Option Nat) (rec : SX12 × Int32 → Prop) (post : Int32 → SX12 → Prop), MI T N τ nt q1 → q < q1 → (∀ y, sl = some y → y < q1) → (∀ τ', HP τ τ' q1 → slotOk τ' q sl) →
      (∀ τ1, MI T N τ1 (nt + 1) (q1 + 1) → MOF τ τ1 → SP τ τ1 q1 q sl → SV τ1 q sl (nI q1) → τ1.1.1.2.2.1 q1 = 1 → τ1.1.1.2.2.2.1 q1 = nI nt → τ1.1.2.1.1.1 q1 = -1 → τ1.1.1.2.2.2.2 q1 = -1 →
        ((¬ TK T (nt + 1) = 91 → wp_X12_program_177 rec post τ1 (nI b) (nI q)) ∧ (TK T (nt + 1) = 91 → wp_X12_take (((τ1.1.1.1, (((nI (nt + 1 + 1)), τ1.1.1.2.1.2), τ1.1.1.2.2)), τ1.1.2), τ1.2) (2 : Int32) (fun r25 τ26 => wp_X12_node τ26 (2 : Int32) r25 (fun r27 τ28 => wp_X12_add τ28 (nI q1) r27 (fun τ30 => wp_X12_take τ30 (93 : Int32) (fun r31 τ32 => wp_X12_program_177 rec post τ32 (nI b) (nI q)))))))) → wp_X12_program_107 rec post τ (nI b) (nI q) := by
    intro K hnt τ q q1 b sl rec post h hq hy hsl hY
    obtain ⟨a1, a2, a3, a4, a5, a6⟩ := id h
    unfold wp_X12_program_107
    refine m_take (k := 2) hN h (by omega) (by omega) (fun _ => ?_) (fun z => absurd K z)
    refine m_node a5 (by omega) ?_
    have hp : HP τ (mNd (((τ.1.1.1, (((nI (nt + 1)), τ.1.1.2.1.2), τ.1.1.2.2)), τ.1.2), τ.2) q1 1 (nI nt)) q1 := mNd_hp (((τ.1.1.1, (((nI (nt + 1)), τ.1.1.2.1.2), τ.1.1.2.2)), τ.1.2), τ.2) (Nat.le_refl _) _ _
    refine m_addS (sl := sl) (by omega) (hsl _ hp) ?_
    have mi : MI T N (slot (mNd (((τ.1.1.1, (((nI (nt + 1)), τ.1.1.2.1.2), τ.1.1.2.2)), τ.1.2), τ.2) q1 1 (nI nt)) q sl (nI q1)) (nt + 1) (q1 + 1) := slot_mi ⟨a1, rfl, hnt, a4, a5.nd 0 0, by omega⟩
    have of : MOF τ (slot (mNd (((τ.1.1.1, (((nI (nt + 1)), τ.1.1.2.1.2), τ.1.1.2.2)), τ.1.2), τ.2) q1 1 (nI nt)) q sl (nI q1)) := MOF.tr (b := mNd (((τ.1.1.1, (((nI (nt + 1)), τ.1.1.2.1.2), τ.1.1.2.2)), τ.1.2), τ.2) q1 1 (nI nt)) ⟨rfl, rfl, rfl, rfl, rfl⟩ (slot_of _ _ _ _)
    have k1 : (slot (mNd (((τ.1.1.1, (((nI (nt + 1)), τ.1.1.2.1.2), τ.1.1.2.2)), τ.1.2), τ.2) q1 1 (nI nt)) q sl (nI q1)).1.1.2.2.1 q1 = 1 := by
      cases sl with
      | none => exact pk_us
      | some y => exact pk_us
    have k2 : (slot (mNd (((τ.1.1.1, (((nI (nt + 1)), τ.1.1.2.1.2), τ.1.1.2.2)), τ.1.2), τ.2) q1 1 (nI nt)) q sl (nI q1)).1.1.2.2.2.1 q1 = nI nt := by
      cases sl with
      | none => exact pk_us
      | some y => exact pk_us
    have k3 : (slot (mNd (((τ.1.1.1, (((nI (nt + 1)), τ.1.1.2.1.2), τ.1.1.2.2)), τ.1.2), τ.2) q1 1 (nI nt)) q sl (nI q1)).1.2.1.1.1 q1 = -1 := by
      cases sl with
      | none => exact pk_us
      | some y => exact (pk_un (k := y) (by have := hy y rfl; omega)).trans pk_us
    have k4 : (slot (mNd (((τ.1.1.1, (((nI (nt + 1)), τ.1.1.2.1.2), τ.1.1.2.2)), τ.1.2), τ.2) q1 1 (nI nt)) q sl (nI q1)).1.1.2.2.2.2 q1 = -1 := by
      cases sl with
      | none => exact (pk_un (k := q) (by omega)).trans pk_us
      | some y => exact pk_us
    obtain ⟨g1, g2⟩ := hY _ mi of (SP.slot hp) (SV.slot _ _ _ _) k1 k2 k3 k4
    generalize (slot (mNd (((τ.1.1.1, (((nI (nt + 1)), τ.1.1.2.1.2), τ.1.1.2.2)), τ.1.2), τ.2) q1 1 (nI nt)) q sl (nI q1)) = τ1 at *
    obtain ⟨b1, b2, b3, b4, b5, b6⟩ := id mi
    refine ⟨fun c => absurd b1 c, fun _ => ?_⟩
    show vp_in τ1.1.1.2.1.1 3002 ∧ ((¬ τ1.1.1.1.2.1 (τ1.1.1.2.1.1).toNatClampNeg = 91 → _) ∧ (τ1.1.1.1.2.1 (τ1.1.1.2.1.1).toNatClampNeg = 91 → _))
    rw [b2, nI_clamp (by omega), m_tok b4 b3]
    have hr1 := TK_r T (nt + 1)
    refine ⟨in_k (by omega) (by omega), fun c => g1 (fun z => c (by rw [z]; rfl)), fun c y ey => ?_⟩
    rw [ey, nI_1]
    exact g2 (kM_inj (b := 91) hr1.1 hr1.2 (by omega) (by omega) c)
  by_cases A : TK T nt = 2
  · have hnf := not_fin hg.1 ht A (by omega) (by omega)
    have hPL := PL_succ hnf.1
    have hPn := PL_le T (nt + 1)
    by_cases B : TK T (nt + 1) = 91
    · have hnf1 := not_fin hg.1 hnf.2 B (by omega) (by omega)
      have hPL1 := PL_succ hnf1.1
      have hPn1 := PL_le T (nt + 1 + 1)
      -- the class up to the NUMBER
      have cn : ∀ (σ : WSX7) (u : Nat) (x : Int32) (post : WSX7 → Prop), CI T N L t8 σ nt u → u + 1 ≤ PL T nt →
          (∀ σ2, CI T N L t8 σ2 (nt + 1 + 1) (u + 1 + 1) → AG σ.2.2 σ2.2.2 0 u → AV σ.2.2 σ2.2.2 0 u → nv σ2.2.2 u 11 (PL T nt) x → nv σ2.2.2 (u + 1) 12 (PL T (nt + 2)) (nI (NB T (nt + 2))) → wp_X7_take σ2 (3 : Int32) (fun r25 τ26 => ((r25 = 0 → post τ26) ∧ (¬ r25 = 0 → wp_X7_take τ26 (93 : Int32) (fun r27 τ28 => ((¬ r27 = 0 → wp_X7_declaration_135  post τ28) ∧ (r27 = 0 → post τ28))))))) → wp_X7_declaration_47 post σ x := by
        intro σ u x post h hu hY
        refine c47 A σ u x post h hu (fun σ1 c1 c2 c3 c4 c5 => ⟨fun c => absurd B c, fun _ => ?_⟩)
        obtain ⟨a1, a2, a3, a4, a5, a6, a7⟩ := id c1
        obtain ⟨ci, _⟩ := c1.nx hnf1
        refine c_next a2 a3 a4 (c_place ci.2.1 ci.2.2.1 ci.2.2.2.1 (c_number ci.2.1 ci.2.2.1 ci.2.2.2.1 (c_nadd a5 (by omega) ?_)))
        have agm := AG.mk σ1.2.2 (u := u + 1) (Nat.le_refl _) 12 (nI (PL T (nt + 1 + 1))) (nI (NB T (nt + 1 + 1))) 1 1 0
        have avm := AV.mk σ1.2.2 (u := u + 1) (Nat.le_refl _) 12 (nI (PL T (nt + 1 + 1))) (nI (NB T (nt + 1 + 1))) 1 1 0
        exact hY _ ⟨a1, ci.2.1, rfl, hnf1.2, a5.mk (by omega) _ _ _ _ _ _, by omega, a7⟩ (c3.tr agm (Nat.le_refl _) (Nat.le_refl _) (Nat.le_refl _) (by omega)) (c4.tr avm (Nat.le_refl _) (Nat.le_refl _) (Nat.le_refl _) (by omega)) (c5.fr agm avm (by omega) (by omega)) ⟨pk_us, pk_us, pk_us⟩
      -- the reference's, whichever token comes
      have mn : ∀ (τ : SX12) (q q1 b : Nat) (sl : Option Nat) (rec : SX12 × Int32 → Prop) (post : Int32 → SX12 → Prop), MI T N τ nt q1 → q < q1 → (∀ y, sl = some y → y < q1) → (∀ τ', HP τ τ' q1 → slotOk τ' q sl) →
          (TK T (nt + 1 + 1) = 3 → nt + 1 + 1 + 1 < N → ∀ τ2, MI T N τ2 (nt + 1 + 1 + 1) (q1 + 2) → MOF τ τ2 → SP τ τ2 q1 q sl → SV τ2 q sl (nI q1) → τ2.1.1.2.2.1 q1 = 1 → τ2.1.1.2.2.2.1 q1 = nI nt → τ2.1.2.1.1.1 q1 = -1 → τ2.1.1.2.2.2.2 q1 = nI (q1 + 1) → τ2.1.1.2.2.2.1 (q1 + 1) = nI (nt + 2) → wp_X12_take τ2 (93 : Int32) (fun r31 τ32 => wp_X12_program_177 rec post τ32 (nI b) (nI q))) →
          (¬ TK T (nt + 1 + 1) = 3 → ∀ τ2 q2, MB T N 3 τ2 (nt + 1 + 1) q2 → q1 ≤ q2 → MOF τ τ2 → SP τ τ2 q1 q sl → wp_X12_take τ2 (93 : Int32) (fun r31 τ32 => wp_X12_program_177 rec post τ32 (nI b) (nI q))) → wp_X12_program_107 rec post τ (nI b) (nI q) := by
        intro τ q q1 b sl rec post h hq hy hsl hY hF
        have hq6 := h.2.2.2.2.2
        refine m107 A hnf.2 τ q q1 b sl rec post h hq hy hsl (fun τ1 d1 d2 d3 d4 d5 d6 d7 d8 => ⟨fun c => absurd B c, fun _ => ?_⟩)
        obtain ⟨b1, b2, b3, b4, b5, b6⟩ := id d1
        have mi2 : MI T N (((τ1.1.1.1, (((nI (nt + 1 + 1)), τ1.1.1.2.1.2), τ1.1.1.2.2)), τ1.1.2), τ1.2) (nt + 1 + 1) (q1 + 1) := ⟨b1, rfl, hnf1.2, b4, b5, by omega⟩
        have spx : ∀ (τ2 : SX12), (∀ j, j < q1 → τ2.1.1.2.2.1 j = τ1.1.1.2.2.1 j ∧ τ2.1.1.2.2.2.1 j = τ1.1.1.2.2.2.1 j ∧ τ2.1.1.2.2.2.2 j = τ1.1.1.2.2.2.2 j ∧ τ2.1.2.1.1.1 j = τ1.1.2.1.1.1 j) → SP τ τ2 q1 q sl := by
          intro τ2 hh j hj
          obtain ⟨x1, x2, x3, x4⟩ := d3 j hj
          obtain ⟨y1, y2, y3, y4⟩ := hh j hj
          exact ⟨y1.trans x1, y2.trans x2, fun c => y3.trans (x3 c), fun c => y4.trans (x4 c)⟩
        refine m_take (k := 3) hN mi2 (by omega) (by omega) (fun z => ?_) (fun z => ?_)
        · have hnf2 := not_fin hg.1 hnf1.2 z (by omega) (by omega)
          refine m_node b5 (by omega) (m_add0 (by omega) ((pk_un (k := q1 + 1) (by omega)).trans d8) ?_)
          refine hY z hnf2.2 _ ⟨b1, rfl, hnf2.2, b4, b5.nd 0 0, by omega⟩ ⟨d2.1, d2.2.1, d2.2.2.1, d2.2.2.2.1, d2.2.2.2.2⟩ (spx _ (fun j hj => ?_)) ?_ ((pk_un (k := q1 + 1) (by omega)).trans d5) ((pk_un (k := q1 + 1) (by omega)).trans d6) ((pk_un (k := q1 + 1) (by omega)).trans d7) pk_us pk_us
          · have n1 : j ≠ q1 + 1 := by omega
            have n2 : j ≠ q1 := by omega
            exact ⟨pk_un n1, pk_un n1, (pk_un (k := q1) n2).trans (pk_un n1), pk_un n1⟩
          · cases sl with
            | none => exact (pk_un (k := q1) (by omega)).trans ((pk_un (k := q1 + 1) (by omega)).trans d4)
            | some y =>
              have := hy y rfl
              exact (pk_un (k := q1 + 1) (by omega)).trans d4
        · refine m_node b5 (by omega) (m_add0 (by omega) ((pk_un (k := q1 + 1) (by omega)).trans d8) ?_)
          refine hF z _ (q1 + 2) ⟨rfl, rfl, hnf1.2, b4, b5.nd 0 0, by omega⟩ (by omega) ⟨d2.1, d2.2.1, d2.2.2.1, d2.2.2.2.1, d2.2.2.2.2⟩ (spx _ (fun j hj => ?_))
          have n1 : j ≠ q1 + 1 := by omega
          have n2 : j ≠ q1 := by omega
          exact ⟨pk_un n1, pk_un n1, (pk_un (k := q1) n2).trans (pk_un n1), pk_un n1⟩
      by_cases C : TK T (nt + 1 + 1) = 3
      · have hnf2 := not_fin hg.1 hnf1.2 C (by omega) (by omega)
        have hPL2 := PL_succ hnf2.1
        by_cases D : TK T (nt + 1 + 1 + 1) = 93
        · have hnf3 := not_fin hg.1 hnf2.2 D (by omega) (by omega)
          have hPL3 := PL_succ hnf3.1
          by_cases E : TK T (nt + 1 + 1 + 1 + 1) = 59
          · have hnf4 := not_fin hg.1 hnf3.2 E (by omega) (by omega)
            have hPL4 := PL_succ hnf4.1
            refine ⟨(nt + 1 + 1 + 1 + 1 + 1, some true), ⟨fun r hr => ?_, by show nt ≤ nt + 1 + 1 + 1 + 1 + 1; omega, hnf4.2⟩, fun σ u x post h hu hY hF => cn σ u x post h hu (fun σ2 c1 c2 c3 c4 c5 => ?_), fun τ q q1 b sl rec post h hq hy hsl hY hF => mn τ q q1 b sl rec post h hq hy hsl (fun _ _ τ2 d1 d2 d3 d4 d5 d6 d7 d8 d9 => ?_) (fun z => absurd C z)⟩
            · cases hr
              exact ⟨A, fun _ => ⟨B, C, D⟩, rfl, by show PL T nt + 2 + 3 * 1 ≤ PL T (nt + 1 + 1 + 1 + 1 + 1); omega⟩
            · refine c_take (k := 3) hg.1 c1 (by omega) (by omega) (by omega) (fun _ _ _ _ ci => ⟨fun c => absurd c (by decide), fun _ => ?_⟩) (fun z => absurd C z)
              refine c_take (k := 93) hg.1 ci (by omega) (by omega) (by omega) (fun _ _ _ _ ci => ⟨fun _ => ?_, fun c => absurd c (by decide)⟩) (fun z => absurd D z)
              exact c_take (k := 59) hg.1 ci (by omega) (by omega) (by omega) (fun _ _ _ _ ci => hY true rfl _ ci c2 c3 c4 (fun _ => c5)) (fun z => absurd E z)
            · have hq6 := h.2.2.2.2.2
              refine m_take (k := 93) hN d1 (by omega) (by omega) (fun _ => ?_) (fun z => absurd D z)
              have mi3 : MI T N (((τ2.1.1.1, (((nI (nt + 1 + 1 + 1 + 1)), τ2.1.1.2.1.2), τ2.1.1.2.2)), τ2.1.2), τ2.2) (nt + 1 + 1 + 1 + 1) (q1 + 2) := ⟨d1.1, rfl, hnf3.2, d1.2.2.2.1, d1.2.2.2.2.1, by omega⟩
              refine m_take (k := 59) hN mi3 (by omega) (by omega) (fun _ => ?_) (fun z => absurd E z)
              refine hY true rfl _ ⟨d1.1, rfl, hnf4.2, d1.2.2.2.1, d1.2.2.2.2.1, by show q1 + 1 + 1 ≤ _; omega⟩ ⟨d2.1, d2.2.1, d2.2.2.1, d2.2.2.2.1, d2.2.2.2.2⟩ d3 ?_ d5 d6 d7 d8 (fun _ => d9)
              cases sl with
              | none => exact d4
              | some y => exact d4
          · refine ⟨(nt + 1 + 1 + 1 + 1, none), ⟨fun r hr => (by cases hr), by show nt ≤ nt + 1 + 1 + 1 + 1; omega, hnf3.2⟩, fun σ u x post h hu hY hF => cn σ u x post h hu (fun σ2 c1 c2 c3 c4 c5 => ?_), fun τ q q1 b sl rec post h hq hy hsl hY hF => mn τ q q1 b sl rec post h hq hy hsl (fun _ _ τ2 d1 d2 d3 d4 d5 d6 d7 d8 d9 => ?_) (fun z => absurd C z)⟩
            · refine c_take (k := 3) hg.1 c1 (by omega) (by omega) (by omega) (fun _ _ _ _ ci => ⟨fun c => absurd c (by decide), fun _ => ?_⟩) (fun z => absurd C z)
              refine c_take (k := 93) hg.1 ci (by omega) (by omega) (by omega) (fun _ _ _ _ ci => ⟨fun _ => ?_, fun c => absurd c (by decide)⟩) (fun z => absurd D z)
              exact c_take (k := 59) hg.1 ci (by omega) (by omega) (by omega) (fun z => absurd z E) (fun _ σ3 c => hF rfl σ3 c)
            · have hq6 := h.2.2.2.2.2
              refine m_take (k := 93) hN d1 (by omega) (by omega) (fun _ => ?_) (fun z => absurd D z)
              have mi3 : MI T N (((τ2.1.1.1, (((nI (nt + 1 + 1 + 1 + 1)), τ2.1.1.2.1.2), τ2.1.1.2.2)), τ2.1.2), τ2.2) (nt + 1 + 1 + 1 + 1) (q1 + 2) := ⟨d1.1, rfl, hnf3.2, d1.2.2.2.1, d1.2.2.2.2.1, by omega⟩
              refine m_take (k := 59) hN mi3 (by omega) (by omega) (fun z => absurd z E) (fun _ => ?_)
              exact hF rfl _ (q1 + 2) (MB.of mi3 (by omega)) (by omega) ⟨d2.1, d2.2.1, d2.2.2.1, d2.2.2.2.1, d2.2.2.2.2⟩ d3
        · refine ⟨(nt + 1 + 1 + 1, none), ⟨fun r hr => (by cases hr), by show nt ≤ nt + 1 + 1 + 1; omega, hnf2.2⟩, fun σ u x post h hu hY hF => cn σ u x post h hu (fun σ2 c1 c2 c3 c4 c5 => ?_), fun τ q q1 b sl rec post h hq hy hsl hY hF => mn τ q q1 b sl rec post h hq hy hsl (fun _ _ τ2 d1 d2 d3 d4 d5 d6 d7 d8 d9 => ?_) (fun z => absurd C z)⟩
          · refine c_take (k := 3) hg.1 c1 (by omega) (by omega) (by omega) (fun _ _ _ _ ci => ⟨fun c => absurd c (by decide), fun _ => ?_⟩) (fun z => absurd C z)
            exact c_take (k := 93) hg.1 ci (by omega) (by omega) (by omega) (fun z => absurd z D) (fun _ σ3 c => ⟨fun c2 => absurd rfl c2, fun _ => hF rfl σ3 c⟩)
          · refine m_take (k := 93) hN d1 (by omega) (by omega) (fun z => absurd z D) (fun _ => ?_)
            have mb := MB.of (s := 3) d1 (by omega)
            refine m_takeB mb ?_
            exact hF rfl _ (q1 + 2) mb (by omega) ⟨d2.1, d2.2.1, d2.2.2.1, d2.2.2.2.1, d2.2.2.2.2⟩ d3
      · refine ⟨(nt + 1 + 1, none), ⟨fun r hr => (by cases hr), by show nt ≤ nt + 1 + 1; omega, hnf1.2⟩, fun σ u x post h hu hY hF => cn σ u x post h hu (fun σ2 c1 c2 c3 c4 c5 => ?_), fun τ q q1 b sl rec post h hq hy hsl hY hF => mn τ q q1 b sl rec post h hq hy hsl (fun z => absurd z C) (fun _ τ2 q2 d1 d2 d3 d4 => ?_)⟩
        · exact c_take (k := 3) hg.1 c1 (by omega) (by omega) (by omega) (fun z => absurd z C) (fun _ σ3 c => ⟨fun _ => hF rfl σ3 c, fun c2 => absurd rfl c2⟩)
        · exact m_takeB d1 (m_takeB d1 (hF rfl _ q2 d1 d2 d3 d4))
    · by_cases E : TK T (nt + 1) = 59
      · have hnf1 := not_fin hg.1 hnf.2 E (by omega) (by omega)
        have hPL1 := PL_succ hnf1.1
        refine ⟨(nt + 1 + 1, some false), ⟨fun r hr => ?_, by show nt ≤ nt + 1 + 1; omega, hnf1.2⟩, fun σ u x post h hu hY hF => c47 A σ u x post h hu (fun σ1 c1 c2 c3 c4 c5 => ⟨fun _ => ?_, fun c => absurd c B⟩), fun τ q q1 b sl rec post h hq hy hsl hY hF => m107 A hnf.2 τ q q1 b sl rec post h hq hy hsl (fun τ1 d1 d2 d3 d4 d5 d6 d7 d8 => ⟨fun _ => ?_, fun c => absurd c B⟩)⟩
        · cases hr
          exact ⟨A, fun c => absurd c (by decide), rfl, by show PL T nt + 2 + 3 * 0 ≤ PL T (nt + 1 + 1); omega⟩
        · exact c_take (k := 59) hg.1 c1 (by omega) (by omega) (by omega) (fun _ _ _ _ ci => hY false rfl _ ci c3 c4 c5 (fun c => absurd c (by decide))) (fun z => absurd E z)
        · have hq6 := h.2.2.2.2.2
          refine m_take (k := 59) hN d1 (by omega) (by omega) (fun _ => ?_) (fun z => absurd E z)
          refine hY false rfl _ ⟨d1.1, rfl, hnf1.2, d1.2.2.2.1, d1.2.2.2.2.1, by show q1 + 1 + 0 ≤ _; omega⟩ ⟨d2.1, d2.2.1, d2.2.2.1, d2.2.2.2.1, d2.2.2.2.2⟩ d3 ?_ d5 d6 d7 d8 (fun c => absurd c (by decide))
          cases sl with
          | none => exact d4
          | some y => exact d4
      · refine ⟨(nt + 1, none), ⟨fun r hr => (by cases hr), by show nt ≤ nt + 1; omega, hnf.2⟩, fun σ u x post h hu hY hF => c47 A σ u x post h hu (fun σ1 c1 c2 c3 c4 c5 => ⟨fun _ => ?_, fun c => absurd c B⟩), fun τ q q1 b sl rec post h hq hy hsl hY hF => m107 A hnf.2 τ q q1 b sl rec post h hq hy hsl (fun τ1 d1 d2 d3 d4 d5 d6 d7 d8 => ⟨fun _ => ?_, fun c => absurd c B⟩)⟩
        · exact c_take (k := 59) hg.1 c1 (by omega) (by omega) (by omega) (fun z => absurd z E) (fun _ σ3 c => hF rfl σ3 c)
        · refine m_take (k := 59) hN d1 (by omega) (by omega) (fun z => absurd z E) (fun _ => ?_)
          exact hF rfl _ (q1 + 1) (MB.of d1 (by omega)) (by omega) ⟨d2.1, d2.2.1, d2.2.2.1, d2.2.2.2.1, d2.2.2.2.2⟩ d3
  · refine ⟨(nt, none), ⟨fun r hr => (by cases hr), Nat.le_refl _, ht⟩, fun σ u x post h hu hY hF => ?_, fun τ q q1 b sl rec post h hq hy hsl hY hF => ?_⟩
    · obtain ⟨a1, a2, a3, a4, a5, a6, a7⟩ := id h
      unfold wp_X7_declaration_47
      refine c_place a2 a3 a4 (c_nadd a5 (by omega) ?_)
      have ci : CI T N L t8 (σ.1, (σ.2.1, nMk σ.2.2 u 11 (nI (PL T nt)) x 1 1 0)) nt (u + 1) := ⟨a1, a2, a3, a4, a5.mk (by omega) _ _ _ _ _ _, hu, a7⟩
      exact c_take (k := 2) hg.1 ci (by omega) (by omega) (by omega) (fun z => absurd z A) (fun _ σ3 c => ⟨fun c2 => absurd rfl c2, fun _ => hF rfl σ3 c⟩)
    · obtain ⟨a1, a2, a3, a4, a5, a6⟩ := id h
      unfold wp_X12_program_107
      refine m_take (k := 2) hN h (by omega) (by omega) (fun z => absurd z A) (fun _ => ?_)
      refine m_node a5 (by omega) ?_
      have hp : HP τ (mNd (((τ.1.1.1, ((τ.1.1.2.1.1, (1, τ.1.1.2.1.2.2)), τ.1.1.2.2)), τ.1.2), τ.2) q1 1 (nI nt)) q1 := mNd_hp (((τ.1.1.1, ((τ.1.1.2.1.1, (1, τ.1.1.2.1.2.2)), τ.1.1.2.2)), τ.1.2), τ.2) (Nat.le_refl _) _ _
      refine m_addS (sl := sl) (by omega) (hsl _ hp) ?_
      have mb : MB T N 3 (slot (mNd (((τ.1.1.1, ((τ.1.1.2.1.1, (1, τ.1.1.2.1.2.2)), τ.1.1.2.2)), τ.1.2), τ.2) q1 1 (nI nt)) q sl (nI q1)) nt (q1 + 1) := slot_mb ⟨rfl, a2, a3, a4, a5.nd 0 0, by omega⟩
      have of : MOF τ (slot (mNd (((τ.1.1.1, ((τ.1.1.2.1.1, (1, τ.1.1.2.1.2.2)), τ.1.1.2.2)), τ.1.2), τ.2) q1 1 (nI nt)) q sl (nI q1)) := MOF.tr (b := mNd (((τ.1.1.1, ((τ.1.1.2.1.1, (1, τ.1.1.2.1.2.2)), τ.1.1.2.2)), τ.1.2), τ.2) q1 1 (nI nt)) ⟨rfl, rfl, rfl, rfl, rfl⟩ (slot_of _ _ _ _)
      have sp : SP τ (slot (mNd (((τ.1.1.1, ((τ.1.1.2.1.1, (1, τ.1.1.2.1.2.2)), τ.1.1.2.2)), τ.1.2), τ.2) q1 1 (nI nt)) q sl (nI q1)) q1 q sl := SP.slot hp
      generalize (slot (mNd (((τ.1.1.1, ((τ.1.1.2.1.1, (1, τ.1.1.2.1.2.2)), τ.1.1.2.2)), τ.1.2), τ.2) q1 1 (nI nt)) q sl (nI q1)) = τ1 at *
      refine ⟨fun _ => m_takeB mb (hF rfl τ1 (q1 + 1) mb (by omega) of sp), fun c => absurd (mb.1.symm.trans c) (by decide)⟩
end Decl
