section Load3
theorem one_n0 : ¬ (1 : Int32) = 0 := by decide
theorem c_clear {σ : SX4} {m bs : Nat} {post : SX4 → Prop} (hm : m ≤ 3000) (hl : σ.1.1.1 < 2 ^ 31) (hb : 9 * m ≤ bs) (hp : ∀ (σ' : SX4) (L : Nat), NW σ' 0 L → m ≤ L → post σ') : wp_X4_clear bs σ (nI m) post := by
  refine ⟨fun c => ?_, fun c y ey => ?_⟩
  · have c := (nI_leI (by omega) hl).mp c
    exact hp _ σ.1.1.1 ⟨rfl, rfl, Nat.zero_le _, hl, fun j hj => absurd hj (Nat.not_lt_zero j)⟩ c
  · rw [nI_clamp (by omega)] at ey
    rw [ey]
    exact ⟨nI_pos (by omega), by omega, hb, hp _ m ⟨rfl, rfl, Nat.zero_le _, by omega, fun j hj => absurd hj (Nat.not_lt_zero j)⟩ (Nat.le_refl _)⟩
theorem cut_eq {m n : Nat} (h : m ≤ n) (hn : n < 2 ^ 31) : (if (0 : Int32) < (if nI n < nI m then nI n else nI m) then (if nI n < nI m then nI n else nI m) else (0 : Int32)) = nI m := by
  rw [if_neg (nI_nlt h hn)]
  by_cases c : m = 0
  · rw [c]
    rfl
  · rw [if_pos (show (0 : Int32) < nI m from nI_lt (a := 0) (by omega) (by omega))]
/-- what a load leaves of the class -/
def LDC (σ σ' : WSX11) : Prop := σ'.1.2.1 = σ.1.2.1 ∧ σ'.1.1.2.1.2 = 0 ∧ σ'.1.1.2.2.1.1.1 < 2 ^ 31 ∧ σ'.1.2.2.1.1.1.1 < 2 ^ 31 ∧ σ'.2.2.1.2.1.2 = 0 ∧ σ'.2.2.1.1.1.2 = σ.2.2.1.1.1.2
theorem c_load {σ : WSX11} {T : TX} {n : Nat} {post : Int32 → WSX11 → Prop} (h1 : σ.1.1.2.1.2 = nI n) (hmn : T.2 ≤ n) (hn : n ≤ 3000) (hTx : ∀ k, k < T.2 → T.1 k < 256 ∧ σ.1.1.2.1.1 k &&& 255 = nI (T.1 k)) (hl9 : σ.1.1.2.2.1.1.1 < 2 ^ 31) (hl4 : σ.1.2.2.1.1.1.1 < 2 ^ 31)
    (H0 : ∀ N o, LT T N → RDF T N o → RDM T N o → o.2 = none → ∀ σ', LDC σ σ' → σ'.1.1.1 = (0, (nI (PL T o.1), 0)) → post (-2) σ')
    (H1 : ∀ N o ds e z, LT T N → RDF T N o → RDM T N o → o.2 = some (ds, e) → jp T ds e = .error z → ∀ σ', LDC σ σ' → σ'.1.1.1 = (0, (nI (PL T z.2), nI z.1)) → post (-3) σ')
    (H2 : ∀ N o ds e, LT T N → RDF T N o → RDM T N o → o.2 = some (ds, e) → jp T ds e = .ok ds → ∀ σ', LDC σ σ' → σ'.1.1.1 = (1, (-1, -1)) → (∀ k, k < 200 → σ'.2.2.1.2.1.1 k = 0) → (∀ q, 1 + dnS ds ≤ q → q ≤ 9000 → ∃ u s t1 t' L M, CPG T N ds e u s t1 t' L M q σ'.1.2.2.1 σ'.1.2.2.2 ∧ ∀ j, 512 ≤ j → j < 4096 → σ'.2.2.1.1.1.1.1 j = M j) → post 0 σ') : wp_X11_load (12 * T.2 + 3) σ (nI T.2) post := by
  refine ⟨fun c => absurd c (nI_pos (by omega)), fun _ => ⟨fun _ => ?_, fun c => absurd ?_ c⟩⟩
  · intro y1 e1
    have e1 : y1 = nI T.2 := by
      rw [e1, h1]
      exact cut_eq hmn (by omega)
    rw [e1, nI_clamp (by omega)]
    refine ⟨by omega, c_clear (by omega) hl4 (by omega) (fun n4 L hnw hmL => ?_)⟩
    intro yg eg
    refine ⟨by omega, ?_⟩
    have htc : TC (σ.1.1.2.1.1, nI T.2) T := ⟨rfl, by omega, hTx⟩
    refine c_read (T := T) (σ := (σ.1.1.2.2, (σ.1.1.2.1.1, nI T.2))) htc hl9 (by omega) (fun σ9 N hN hlc hcur h8 => ?_)
    have hL : L < 2 ^ 31 := hnw.2.2.2.1
    have hg : GL T N L := ⟨hN, by omega, hmL, hL⟩
    have hN3 : N ≤ 3001 := by have := hN.2.1; omega
    obtain ⟨o, hrf, hrc, hrm⟩ := rd_both (t8 := (σ.1.1.2.1.1, nI T.2)) hg
    refine hrc ((σ.2.1.1, σ9.1), (σ9.2, n4)) _ hlc hcur hnw h8 (fun ds e ho σ7 b1 b2 b3 b4 b5 b6 => ?_) (fun ho σ7 hcf => ?_)
    · refine ⟨fun c => absurd rfl c, fun _ => ?_⟩
      obtain ⟨⟨t1, wd, ws, xs⟩, u3⟩ := hrf.1 ds e ho
      have nc0 : NC T [] ((σ.1.2.2.2.1, ((σ.1.2.2.2.2.1.1, (0 : Int32)), ((0 : Int32), ((0 : Int32), (0 : Int32)))))) := ⟨rfl, rfl, fun k hk => absurd hk (Nat.not_lt_zero k), rfl, rfl, fun k hk => absurd hk (Nat.not_lt_zero k)⟩
      refine c_judge (T := T) (N := N) (L := L) (ds := ds) (e := e) (u := szD ds + szS T e 0) hN3 wd ws b1 u3 (by show TC σ7.2.1 T; rw [b2]; exact htc) nc0 b4 b5 b6 rfl (fun g σ1 hjp hv q1 q2 nc jn cjs => ?_) (fun z σ1 hjp jx => ?_)
      · obtain ⟨hgd, hjs⟩ := jp_ok hjp
        rw [hgd] at hjp hv nc cjs hjs
        have q1' : σ1.1.1.1 = -1 := by rw [q1]
        refine ⟨fun c => absurd rfl c, fun _ => ⟨fun c => absurd rfl c, fun _ => ⟨bz1, fun c => absurd rfl c, fun _ => ⟨fun c => absurd c one_n0, fun _ => ⟨fun c => absurd c one_n0, fun _ => ?_⟩⟩⟩⟩⟩
        have nw1 : NW0 σ1.1.2 (szD ds + szS T e 0) L := jn.nw b1.w
        have cb1 : CB T σ1.1.2 e 0 (szD ds) := CB.jn jn e 0 _ b5 (fun c => absurd c (by omega)) (by omega)
        refine c_write (T := T) (N := N) (g := ds) (u := szD ds + szS T e 0) (L := L) (e := e) (s := szD ds) (t := t1) (t' := o.1) hv hN.2.2.2 u3 nw1 nc (fun j hj => ?_) ws xs cb1 cjs rfl hjs (room_ok hN (by omega) hv wd ws xs hrf.2) (fun j hj => ?_) (fun σ0 ti ba w1 w2 w3 w4 w5 w6 => ?_)
        · have ek : σ1.1.2.1.1.2 = σ7.2.2.1.1.2 := jn.1.2.1
          show σ1.1.2.1.1.2 j = 11 ∨ σ1.1.2.1.1.2 j = 12
          rw [ek]
          exact CD_kd ds 0 b4 j (Nat.zero_le _) (by omega)
        · have ek : σ1.1.2.2.1.2.2 = σ7.2.2.2.1.2.2 := jn.1.2.2.2.2.2.2.1
          show σ1.1.2.2.1.2.2 j = -1
          rw [ek]
          exact (b1.2.2.2.2 j hj).2
        · have eL : σ0.1.2.1.1.1 = L := by
            rw [w1]
            exact nw1.2.1
          refine H2 N o ds e hN hrf hrm ho hjp _ ⟨rfl, ?_, b3, ?_, rfl, w4⟩ ?_ (fun k hk => ?_) (fun q hq1 hq2 => ?_)
          · show σ0.2.2.1.2 = 0
            rw [w3]
          · show σ0.1.2.1.1.1 < 2 ^ 31
            rw [eL]
            exact hL
          · show ((1 : Int32), (σ1.1.1.1, (-1 : Int32))) = _
            rw [q1']
          · show yg k = 0
            rw [eg]
            unfold aw_fill
            rw [if_pos hk]
          · refine ⟨szD ds + szS T e 0, szD ds, t1, o.1, L, σ0.2.2.2.1.1.1, ⟨hv, ?_, ?_, u3, ?_, ?_, ws, xs, ?_, hjs, rfl, hN3, wd, hq1, hq2⟩, fun _ _ _ => rfl⟩
            · show NC T ds σ0.2.1
              rw [w2]
              exact nc
            · show NW0 σ0.1.2 _ L
              rw [w1]
              exact nw1
            · show PRG T ds e (szD ds) σ0.2.2.2.1.1.1 σ0.1.2.2.1.2.2
              have : σ0.1.2.2.1.2.2 = ba := by rw [w1]
              rw [this]
              exact w5
            · show BI _ σ0.1.2.2.1.2.2 4096
              have : σ0.1.2.2.1.2.2 = ba := by rw [w1]
              rw [this]
              exact w6
            · show CB T σ0.1.2 e 0 (szD ds)
              have w1' : σ0.1.2 = (σ1.1.2.1, ((σ1.1.2.2.1.1, (ti, ba)), σ1.1.2.2.2)) := w1
              rw [w1']
              exact CB.fr (σ := σ1.1.2) (σ' := (σ1.1.2.1, ((σ1.1.2.2.1.1, (ti, ba)), σ1.1.2.2.2))) (lo := 0) (hi := szD ds + szS T e 0) (fun j _ _ => ⟨rfl, rfl, rfl, rfl, rfl⟩) (fun j _ _ => rfl) e 0 _ (by omega) cb1 (Nat.zero_le _) (Nat.le_refl _)
      · obtain ⟨x1, ⟨ux, x2⟩, x3, x4, x5⟩ := jx
        refine ⟨fun c => absurd rfl c, fun _ => ⟨fun _ => ⟨bz0, fun c => absurd rfl c, fun _ => ⟨fun _ => ⟨fun _ => ⟨fun c => absurd rfl c, fun _ => ?_⟩, fun c => absurd rfl c⟩, fun c => absurd rfl c⟩⟩, fun c => absurd c (nI_ne0 x4 (by omega))⟩⟩
        refine H1 N o ds e z hN hrf hrm ho hjp _ ⟨rfl, rfl, b3, ?_, rfl, rfl⟩ ?_
        · show σ1.1.2.1.1.1 < 2 ^ 31
          rw [x2.2.1]
          exact hL
        · show ((0 : Int32), (σ1.1.1.1, nI z.1)) = _
          rw [x1]
    · obtain ⟨f1, ⟨uf, f2⟩, f3, f4⟩ := hcf
      have hne : ¬ nI (PL T o.1) = (-1 : Int32) := nI_nem1 (by have := PL_le T o.1; omega)
      refine ⟨fun _ => ⟨fun _ => ⟨bz0, fun _ => ⟨fun _ => ⟨fun _ => ⟨fun _ => ?_, fun c => absurd c hne⟩, fun c => absurd rfl c⟩, fun c => absurd rfl c⟩, fun c => absurd c hne⟩, fun c => absurd c hne⟩, fun c => absurd c hne⟩
      refine H0 N o hN hrf hrm ho _ ⟨rfl, rfl, f4, ?_, rfl, rfl⟩ rfl
      show σ7.2.2.1.1.1 < 2 ^ 31
      rw [f2.2.1]
      exact hL
  · show nI T.2 ≤ σ.1.1.2.1.2
    rw [h1]
    exact nI_le hmn (by omega)
variable {K : Prop → Prop} {σ : WSX11} {τ : SX12} {n : Nat}
theorem RM.ld {s : SX2} {τ τ' : SX12} (h : RM s τ) (hl : LDR τ τ') : RM s τ' := by
  obtain ⟨h1, h2, h3, h4, h5, h6, h7, h8, h9⟩ := h
  obtain ⟨l1, l2, _⟩ := hl
  have l1 : τ'.2.2.1.2.2.2 = τ.2.2.1.2.2.2 := l1
  unfold RM
  rw [l1, l2]
  exact ⟨h1, h2, h3, h4, h5, h6, h7, h8, h9⟩
theorem INV.ld {σ' : WSX11} {τ' : SX12} (h : INV σ τ n) (hc : LDC σ σ') (hm : LDR τ τ') (h1 : σ'.1.1.1.2.1 = τ'.2.1.1.2.1) (h2 : σ'.1.1.1.2.2 = τ'.2.1.1.2.2.1) (h3 : RDY σ' τ') : INV σ' τ' 0 := by
  obtain ⟨a1, a2, a3, ⟨a4, a5, a6⟩, a7⟩ := h
  obtain ⟨c1, c2, c3, c4, c5, c6⟩ := hc
  refine ⟨?_, ⟨c2, Nat.zero_le _, hm.2.2.1, fun k hk => absurd hk (Nat.not_lt_zero k)⟩, ⟨h1, h2⟩, ⟨fun j hj => ?_, c3, c4⟩, h3⟩
  · rw [c1]
    exact a1.ld hm
  · rw [c6]
    exact a4 j hj
theorem z_load {a : Int32} (h : INV σ τ n) (hK : ∀ A : Prop, A → K A) : ∃ y8 n', y8 + 12 * n' ≤ 12 * n + 3 ∧ ∀ Q : Int32 → WSX11 → Int32 → SX12 → Prop, (∀ r σ' τ', INV σ' τ' n' → Q r σ' r τ') → wp_X11_load y8 σ a (fun r σ' => K (wp_X12_load τ a (Q r σ'))) := by
  obtain ⟨r1, ⟨h1, hn, h2, tb⟩, r3, ⟨r4, r5, r6⟩, r7⟩ := id h
  have h2' : τ.1.1.1.1.2.1 = nI n := h2
  by_cases c : a < 0
  · exact ⟨0, n, by omega, fun Q hQ => ⟨fun _ => hK _ ⟨fun _ => hQ _ _ _ h, fun z => absurd c z⟩, fun z => absurd c z⟩⟩
  · by_cases c2 : a ≤ nI n
    · obtain ⟨m, hm, rfl⟩ := nI_of c
      have hmn : m ≤ n := (nI_leI hm (by omega)).mp c2
      refine ⟨12 * m + 3, 0, by omega, fun Q hQ => ?_⟩
      have hTx : ∀ k, k < m → (τ.1.1.1.1.1 k).toNatClampNeg < 256 ∧ σ.1.1.2.1.1 k &&& 255 = nI (τ.1.1.1.1.1 k).toNatClampNeg ∧ τ.1.1.1.1.1 k = nI (τ.1.1.1.1.1 k).toNatClampNeg := by
        intro k hk
        obtain ⟨b, b1, b2, b3⟩ := tb k (by omega)
        have e : (τ.1.1.1.1.1 k).toNatClampNeg = b := by
          rw [b3, nI_clamp (by omega)]
        rw [e]
        exact ⟨b1, b2, b3⟩
      have key := c_load (σ := σ) (T := ((fun k => (τ.1.1.1.1.1 k).toNatClampNeg), m)) (n := n) (post := fun r σ' => K (wp_X12_load τ (nI m) (Q r σ'))) h1 hmn hn (fun k hk => ⟨(hTx k hk).1, (hTx k hk).2.1⟩) r5 r6 (fun N o hN hrf hrm ho σ' ldc told => hK _ ?_) (fun N o ds e z hN hrf hrm ho hjp σ' ldc told => hK _ ?_) (fun N o ds e hN hrf hrm ho hjp σ' ldc told giv cpg => hK _ ?_)
      · exact key
      · refine m_load h2 hmn hn rfl (fun k hk => ⟨(hTx k hk).1, (hTx k hk).2.2⟩) hN hrf hrm (fun _ τ' ldr ir tp tw => ?_) (fun ds e z ho' => ?_) (fun ds e ho' => ?_)
        · refine hQ _ _ _ (h.ld ldc ldr ?_ ?_ ⟨false, 0, ?_, ir, ldc.2.2.2.2.1, by omega, ?_, fun _ => rfl, fun z => ?_⟩)
          · rw [told]
            exact tp.symm
          · rw [told]
            exact tw.symm
          · rw [told]
            rfl
          · exact ldr.2.2.2
          · cases z
        · rw [ho] at ho'
          cases ho'
        · rw [ho] at ho'
          cases ho'
      · refine m_load h2 hmn hn rfl (fun k hk => ⟨(hTx k hk).1, (hTx k hk).2.2⟩) hN hrf hrm (fun ho' => ?_) (fun ds' e' z' ho' hjp' τ' ldr ir tp tw => ?_) (fun ds' e' ho' hjp' => ?_)
        · rw [ho] at ho'
          cases ho'
        · rw [ho] at ho'
          cases ho'
          rw [hjp] at hjp'
          cases hjp'
          refine hQ _ _ _ (h.ld ldc ldr ?_ ?_ ⟨false, 0, ?_, ir, ldc.2.2.2.2.1, by omega, ?_, fun _ => rfl, fun z => ?_⟩)
          · rw [told]
            exact tp.symm
          · rw [told]
            exact tw.symm
          · rw [told]
            rfl
          · exact ldr.2.2.2
          · cases z
        · rw [ho] at ho'
          cases ho'
          rw [hjp] at hjp'
          cases hjp'
      · refine m_load h2 hmn hn rfl (fun k hk => ⟨(hTx k hk).1, (hTx k hk).2.2⟩) hN hrf hrm (fun ho' => ?_) (fun ds' e' z' ho' hjp' => ?_) (fun ds' e' ho' hjp' hv τ' q x ldr ir tp tw rpg q1 q2 inz => ?_)
        · rw [ho] at ho'
          cases ho'
        · rw [ho] at ho'
          cases ho'
          rw [hjp] at hjp'
          cases hjp'
        · rw [ho] at ho'
          cases ho'
          obtain ⟨u, s, t1, t', L, M, cp, hmem⟩ := cpg q q1 q2
          refine hQ _ _ _ (h.ld ldc ldr ?_ ?_ ⟨true, 0, ?_, ir, ldc.2.2.2.2.1, by omega, ?_, fun _ => rfl, fun _ => ⟨_, N, ds, e, u, s, t1, t', L, M, q, x, cp, rpg, fun k hk => (giv k hk).trans (inz k hk).symm, hmem, fun z => absurd z (by omega), fun z => absurd z (by omega)⟩⟩)
          · rw [told]
            exact tp.symm
          · rw [told]
            exact tw.symm
          · rw [told]
            rfl
          · exact ldr.2.2.2
    · refine ⟨0, n, by omega, fun Q hQ => ⟨fun z => absurd z c, fun _ => ⟨fun z => ?_, fun _ => hK _ ⟨fun z => absurd z c, fun _ => ⟨fun z => ?_, fun _ => hQ _ _ _ h⟩⟩⟩⟩⟩
      · have z : a ≤ σ.1.1.2.1.2 := z
        rw [h1] at z
        exact absurd z c2
      · rw [h2'] at z
        exact absurd z c2
end Load3
