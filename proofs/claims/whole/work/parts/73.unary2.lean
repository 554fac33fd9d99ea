section Unary2
theorem uu_deep {T : TX} {N L : Nat} {t8 : SX8} {d : Nat} (hg : GL T N L) (hd : 30 < d) (hd2 : d < 1000) : UU T N L t8 d 1 1 := by
  have hn := hg.2.1
  have hN : N ≤ 3001 := by have := hg.1.2.1; omega
  intro t ht
  have nle : ¬ nI d ≤ 30 := fun c => by have := (nI_leI (b := 30) (by omega) (by omega)).mp c; omega
  refine ⟨(t, none), ⟨fun e he => (by cases he), Nat.le_refl _, ht⟩, fun n hn2 σ u post h hY hF => ?_, fun n hn2 τ q post h hY hF => ?_⟩
  · obtain ⟨n', rfl⟩ : ∃ n', n = n' + 1 := ⟨n - 1, by omega⟩
    refine ⟨fun c => absurd c nle, fun _ => c_fail h (fun σ' b => ?_)⟩
    exact ⟨fun c => absurd c (b.ne hn), fun _ => hF rfl σ' b⟩
  · obtain ⟨n', rfl⟩ : ∃ n', n = n' + 1 := ⟨n - 1, by omega⟩
    obtain ⟨a1, a2, a3, a4, a5, a6⟩ := h
    refine ⟨fun c => absurd a1 c, fun _ => ⟨fun c => absurd c nle, fun _ => ⟨bz1, fun c => absurd c (by decide), fun _ => m_node a5 (by omega) ?_⟩⟩⟩
    refine hF rfl _ (q + 1) q ⟨rfl, a2, a3, a4, a5.nd 0 0, ?_⟩ ⟨rfl, rfl, rfl, rfl, rfl⟩ ?_ (Nat.le_refl _) (by omega) pk_us
    · show q + 1 ≤ t + 2
      omega
    · exact mNd_hp (((τ.1.1.1, ((τ.1.1.2.1.1, (1, τ.1.1.2.1.2.2)), τ.1.1.2.2)), τ.1.2), τ.2) (Nat.le_refl q) _ _
/-- the class's UNARY where there is no fault, by the kind of its token -/
theorem c_un {T : TX} {N L : Nat} {t8 : SX8} {t u d n : Nat} {σ : WSX7} {post : Int32 → WSX7 → Prop} (h : CI T N L t8 σ t u) (hd : d ≤ 30) (K : Nat) (hk : TK T t = K)
    (h2 : K = 2 → wp_X9_next (σ.1.2, σ.2.1) (fun τ7 => wg_rd n 10 ((σ.1.1, τ7.1), (τ7.2, σ.2.2)) [nI (PL T t), nI d] (fun _ τ9 => post 0 τ9)))
    (h3 : K = 3 → wp_X9_number (σ.1.2, σ.2.1) (fun r11 τ12 => wp_X4_add σ.2.2 3 (nI (PL T t)) r11 (fun r13 τ14 => wp_X9_next τ12 (fun τ16 => post 0 ((σ.1.1, τ16.1), (τ16.2, τ14))))))
    (hU : isU K → wp_X9_next (σ.1.2, σ.2.1) (fun τ19 => wg_rd n 9 ((σ.1.1, τ19.1), (τ19.2, σ.2.2)) [nI d + 1] (fun _ τ21 => wp_X4_addAround τ21.2.2 (nI (ku K)) (nI (PL T t)) (-1) (fun τ23 => post 0 (τ21.1, (τ21.2.1, τ23))))))
    (h40 : K = 40 → wp_X9_next (σ.1.2, σ.2.1) (fun τ27 => wg_rd n 7 ((σ.1.1, τ27.1), (τ27.2, σ.2.2)) [nI d + 1] (fun _ τ29 => wp_X7_take τ29 41 (fun r30 τ31 => post 0 τ31))))
    (hE : ¬ K = 2 → ¬ K = 3 → ¬ isU K → ¬ K = 40 → wp_X7_fail σ (fun τ45 => post 0 τ45)) : wg_rd (n + 1) 9 σ [nI d] post := by
  have hr := (TK_r T t).1
  rw [hk] at hr
  obtain ⟨a1, a2, a3, a4, a5, a6, a7⟩ := id h
  have le : nI d ≤ 30 := nI_le (b := 30) hd (by omega)
  have eq : ∀ b : Nat, b < 256 → (nI K = nI b ↔ K = b) := fun b hb => nI_eq (by omega) (by omega)
  refine ⟨fun _ => ⟨fun _ => c_place a2 a3 a4 (c_kind a2 a3 a4 ?_), fun c => absurd a1 c⟩, fun c => absurd le c⟩
  rw [hk]
  have un : K = 33 ∨ K = 126 ∨ K = 45 → wp_X9_next (σ.1.2, σ.2.1) (fun τ19 => wg_rd n 9 ((σ.1.1, τ19.1), (τ19.2, σ.2.2)) [nI d + 1] (fun _ τ21 => ((¬ nI K = (45 : Int32) → wp_X7_unary_126 (wg_rd n) (post 0) τ21 (nI (PL T t)) (nI K)) ∧ (nI K = (45 : Int32) → wp_X7_unary_126 (wg_rd n) (post 0) τ21 (nI (PL T t)) (29 : Int32))))) := by
    intro q
    have := hU (by unfold isU; omega)
    have e : (fun (_ : Int32) (τ21 : WSX7) => ((¬ nI K = (45 : Int32) → wp_X7_unary_126 (wg_rd n) (post 0) τ21 (nI (PL T t)) (nI K)) ∧ (nI K = (45 : Int32) → wp_X7_unary_126 (wg_rd n) (post 0) τ21 (nI (PL T t)) (29 : Int32)))) = (fun _ τ21 => wp_X4_addAround τ21.2.2 (nI (ku K)) (nI (PL T t)) (-1) (fun τ23 => post 0 (τ21.1, (τ21.2.1, τ23)))) := by
      funext _ τ21
      unfold ku
      by_cases z : K = 45
      · have z2 : nI K = (45 : Int32) := (eq 45 (by omega)).mpr z
        rw [if_pos z]
        apply propext
        constructor
        · intro w
          exact w.2 z2
        · intro w
          exact ⟨fun c => absurd z2 c, fun _ => w⟩
      · have z2 : ¬ nI K = (45 : Int32) := fun w => z ((eq 45 (by omega)).mp w)
        rw [if_neg z]
        apply propext
        constructor
        · intro w
          exact w.1 z2
        · intro w
          exact ⟨fun _ => w, fun c => absurd c z2⟩
    rw [e]
    exact this
  refine ⟨fun c => h2 ((eq 2 (by omega)).mp c), fun c2 => ⟨fun c => h3 ((eq 3 (by omega)).mp c), fun c3 => ⟨fun c => un (Or.inl ((eq 33 (by omega)).mp c)), fun c33 => ⟨fun c => h40 ((eq 40 (by omega)).mp c), fun c40 => ⟨fun c => un (Or.inr (Or.inr ((eq 45 (by omega)).mp c))), fun c45 => ⟨fun c => un (Or.inr (Or.inl ((eq 126 (by omega)).mp c))), fun c126 => ?_⟩⟩⟩⟩⟩⟩
  refine hE (fun q => c2 ((eq 2 (by omega)).mpr q)) (fun q => c3 ((eq 3 (by omega)).mpr q)) ?_ (fun q => c40 ((eq 40 (by omega)).mpr q))
  rintro (q | q | q)
  · exact c45 ((eq 45 (by omega)).mpr q)
  · exact c126 ((eq 126 (by omega)).mpr q)
  · exact c33 ((eq 33 (by omega)).mpr q)
/-- the reference's UNARY where nothing is bad, by the kind of its token -/
theorem m_un {T : TX} {N : Nat} {t q d n : Nat} {τ : SX12} {post : Int32 → SX12 → Prop} (hN : N ≤ 3001) (h : MI T N τ t q) (hd : d ≤ 30) (K : Nat) (hk : TK T t = K) (k1 : Int32) (hk1 : k1 = if K = 45 then 304 else nI (kM K)) (τ1 : SX12) (e1 : τ1 = mNd (((τ.1.1.1, ((τ.1.1.2.1.1, (0, τ.1.1.2.1.2.2)), τ.1.1.2.2)), τ.1.2), τ.2) q k1 τ.1.1.2.1.1)
    (h2 : K = 2 → ((¬ kM (TK T (t + 1)) = 91 → post (nI q) (((τ1.1.1.1, (((nI (t + 1)), τ1.1.1.2.1.2), τ1.1.1.2.2)), τ1.1.2), τ1.2)) ∧ (kM (TK T (t + 1)) = 91 → wp_X12_node (((τ1.1.1.1, (((nI (t + 1)), τ1.1.1.2.1.2), ((upd τ1.1.1.2.2.1 q 303), τ1.1.1.2.2.2))), τ1.1.2), τ1.2) 91 (nI (t + 1)) (fun r17 τ18 => wp_X12_add τ18 (nI q) r17 (fun τ20 => (∀ y21 : Int32, y21 = (τ20.1.1.2.1.1 + (1 : Int32)) → wg_st n 2 (((τ20.1.1.1, ((y21, τ20.1.1.2.1.2), τ20.1.1.2.2)), τ20.1.2), τ20.2) [nI d + 1] (fun r22 τ23 => wp_X12_add τ23 (nI q) r22 (fun τ25 => wp_X12_take τ25 (93 : Int32) (fun r26 τ27 => post (nI q) τ27)))))))))
    (h3 : K = 3 → post (nI q) (((τ1.1.1.1, (((nI (t + 1)), τ1.1.1.2.1.2), τ1.1.1.2.2)), τ1.1.2), τ1.2))
    (hU : isU K → wg_st n 4 (((τ1.1.1.1, (((nI (t + 1)), τ1.1.1.2.1.2), τ1.1.1.2.2)), τ1.1.2), τ1.2) [nI d + 1] (fun r5 τ6 => wp_X12_add τ6 (nI q) r5 (fun τ8 => post (nI q) τ8)))
    (h40 : K = 40 → wg_st n 2 (((τ1.1.1.1, (((nI (t + 1)), τ1.1.1.2.1.2), τ1.1.1.2.2)), τ1.1.2), τ1.2) [nI d + 1] (fun r10 τ11 => wp_X12_take τ11 (41 : Int32) (fun r12 τ13 => post r10 τ13)))
    (hE : ¬ K = 2 → ¬ K = 3 → ¬ isU K → ¬ K = 40 → post (nI q) (((τ1.1.1.1, ((τ1.1.1.2.1.1, (1, τ1.1.1.2.1.2.2)), τ1.1.1.2.2)), τ1.1.2), τ1.2)) (ht1 : K = 2 → t + 1 < N) : wg_st (n + 1) 4 τ [nI d] post := by
  have hr := TK_r T t
  rw [hk] at hr
  obtain ⟨a1, a2, a3, a4, a5, a6⟩ := id h
  have le : nI d ≤ 30 := nI_le (b := 30) hd (by omega)
  have eq : ∀ b : Nat, (b ≤ 131 ∧ (b ≤ 10 ∨ 33 ≤ b)) → (nI (kM K) = nI (kM b) ↔ K = b) := fun b hb => ⟨fun z => kM_inj hr.1 hr.2 hb.1 hb.2 z, fun z => by rw [z]⟩
  have k45 : (nI (kM K) = (45 : Int32)) ↔ K = 45 := eq 45 (by omega)
  have k126 : (nI (kM K) = (126 : Int32)) ↔ K = 126 := eq 126 (by omega)
  have k33 : (nI (kM K) = (33 : Int32)) ↔ K = 33 := eq 33 (by omega)
  have k40 : (nI (kM K) = (40 : Int32)) ↔ K = 40 := eq 40 (by omega)
  have kk1 : (nI (kM K) = (1 : Int32)) ↔ K = 2 := eq 2 (by omega)
  have kk2 : (nI (kM K) = (2 : Int32)) ↔ K = 3 := eq 3 (by omega)
  refine ⟨fun c => absurd a1 c, fun _ => ⟨fun _ => ⟨bz0, fun _ => ?_, fun c => absurd rfl c⟩, fun c => absurd le c⟩⟩
  rw [a2, nI_clamp (by omega), m_tok a4 a3, hk]
  have body : wp_X12_unary_64 (wg_st n) post (((τ.1.1.1, ((τ.1.1.2.1.1, (0, τ.1.1.2.1.2.2)), τ.1.1.2.2)), τ.1.2), τ.2) (nI d) (nI (kM K)) k1 := by
    unfold wp_X12_unary_64
    refine m_node a5 (by omega) ?_
    have e2 : τ1 = mNd (((τ.1.1.1, ((τ.1.1.2.1.1, (0, τ.1.1.2.1.2.2)), τ.1.1.2.2)), τ.1.2), τ.2) q k1 ((((τ.1.1.1, ((τ.1.1.2.1.1, (0, τ.1.1.2.1.2.2)), τ.1.1.2.2)), τ.1.2), τ.2) : SX12).1.1.2.1.1 := e1
    rw [← e2]
    have y1 : τ1.1.1.2.1.1 + 1 = nI (t + 1) := by
      rw [e1]
      show τ.1.1.2.1.1 + 1 = _
      rw [a2, nI_1]
    have u90 : isU K → wp_X12_unary_90 (wg_st n) post τ1 (nI d) (nI q) := by
      intro z y ey
      rw [ey, y1]
      exact hU z
    refine ⟨fun c => u90 (Or.inl (k45.mp c)), fun c45 => ⟨fun c => u90 (Or.inr (Or.inl (k126.mp c))), fun c126 => ⟨fun c33 => ⟨fun c3 => ⟨fun c1 => ⟨fun c40 => ?_, fun c y ey => ?_⟩, fun c y ey => ?_⟩, fun c y ey => ?_⟩, fun c => u90 (Or.inr (Or.inr (k33.mp c)))⟩⟩⟩
    · refine hE (fun z => c1 (kk1.mpr z)) (fun z => c3 (kk2.mpr z)) ?_ (fun z => c40 (k40.mpr z))
      rintro (z | z | z)
      · exact c45 (k45.mpr z)
      · exact c126 (k126.mpr z)
      · exact c33 (k33.mpr z)
    · rw [ey, y1]
      exact h40 (k40.mp c)
    · have K2 := kk1.mp c
      have t1 := ht1 K2
      have tk : τ1.1.1.1.2.1 (t + 1) = nI (kM (TK T (t + 1))) := by
        rw [e1]
        exact m_tok a4 t1
      rw [ey, y1, nI_clamp (by omega), tk, nI_clamp (by omega)]
      obtain ⟨g1, g2⟩ := h2 K2
      have hr1 := TK_r T (t + 1)
      have kb : kM (TK T (t + 1)) < 2 ^ 31 := by
        unfold kM
        repeat' split
        all_goals omega
      refine ⟨in_k (by omega) (by omega), fun c2 => g1 (fun z => c2 (by rw [z]; rfl)), fun c2 => ⟨in_k (by omega) (by omega), fun y2 ey2 => ?_⟩⟩
      rw [ey2]
      exact g2 ((nI_eq (b := 91) kb (by omega)).mp c2)
    · rw [ey, y1]
      exact h3 (kk2.mp c)
  refine ⟨in_k (by omega) (by omega), fun y ey => ?_⟩
  rw [ey]
  refine ⟨fun c => ?_, fun c => ?_⟩
  · have z : ¬ K = 45 := fun w => c (k45.mpr w)
    rw [if_neg z] at hk1
    rw [hk1, a2] at body
    exact body
  · have z : K = 45 := k45.mp c
    rw [if_pos z] at hk1
    rw [hk1, a2] at body
    exact body
end Unary2
