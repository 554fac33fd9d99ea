section Load2
/-- how the class reads, if what stands there is o -/
def RDC (T : TX) (N L : Nat) (t8 : SX8) (o : ROP) : Prop := ∀ (σ : WSX7) (post : Int32 → WSX7 → Prop), LC σ.1.2 T N → σ.1.2.2.1.2 = 0 → NW σ.2.2 0 L → σ.2.1 = t8 →
    (∀ ds e, o.2 = some (ds, e) → ∀ σ' : WSX7, NW σ'.2.2 (szD ds + szS T e 0) L → σ'.2.1 = t8 → σ'.1.2.1.1.1 < 2 ^ 31 → CD T σ'.2.2 ds 0 → CB T σ'.2.2 e 0 (szD ds) → CW T σ'.2.2 e 0 (szD ds) → post (-1) σ') →
    (o.2 = none → ∀ σ', CF T N L t8 σ' o.1 → post (nI (PL T o.1)) σ') → wp_X7_read σ post
def RDM (T : TX) (N : Nat) (o : ROP) : Prop := ∀ (τ : SX12) (post : Int32 → SX12 → Prop), LM τ T N → τ.1.1.2.1.1 = 0 → τ.1.1.2.1.2.1 = 0 → τ.1.1.2.1.2.2 = 0 →
    (∀ ds e, o.2 = some (ds, e) → ∀ τ' q x, MI T N τ' o.1 q → MOF τ τ' → τ'.1.1.2.2.2.2 0 = lnk ds 1 x → MDx T τ' ds 1 x → 1 + dnS ds ≤ q → MS T τ' e 0 (1 + dnS ds) q x → post (nI 0) τ') →
    (o.2 = none → ∀ τ' q', MB T N 3 τ' o.1 q' → MOF τ τ' → post (nI 0) τ') → wp_X12_program τ post
def RDF (T : TX) (N : Nat) (o : ROP) : Prop := (∀ ds e, o.2 = some (ds, e) → (∃ t1, WFDs T N ds 0 t1 ∧ WFS T N e 0 ∧ XS T e 0 t1 o.1 31) ∧ szD ds + szS T e 0 ≤ 3000) ∧ o.1 < N
theorem rd_both {T : TX} {N L : Nat} {t8 : SX8} (hg : GL T N L) : ∃ o : ROP, RDF T N o ∧ RDC T N L t8 o ∧ RDM T N o := by
  have h0 := hg.1.1
  obtain ⟨o, ⟨f1, f2, f3⟩, c, m⟩ := prog (t8 := t8) hg N 0 (by omega) h0
  refine ⟨o, ⟨fun ds e ho => ?_, f3⟩, fun σ post hlc hcu hnw h8 hY hF => ?_, fun τ post hlm hno hba hnd hY hF => ?_⟩
  · obtain ⟨⟨t1, a1, a2, a3, a4⟩, a5, a6⟩ := f1 ds e ho
    have := PL_le T o.1
    have := hg.2.1
    exact ⟨⟨t1, a1, a3, a4⟩, by omega⟩
  · refine ⟨N + 1, ?_⟩
    refine c (N + 1) 0 (by omega) (Nat.le_refl _) ((-1, σ.1.2), σ.2) 0 post ⟨rfl, hlc, hcu, h0, hnw, Nat.zero_le _, h8⟩ (fun ds e ho σ' b1 b2 b3 b4 b5 b6 b7 b8 b9 => ?_) hF
    rw [Nat.zero_add] at b2 b8 b9
    exact hY ds e ho σ' b2 b3 b4 b7 b8 b9
  · have nq : NQ τ 0 := ⟨hnd, fun j hj => absurd hj (Nat.not_lt_zero j)⟩
    refine m_node nq (by omega) ⟨N + 1, ?_⟩
    have hmo := mNd_of τ 0 302 0
    have mi : MI T N (mNd τ 0 302 0) 0 1 := ⟨hba, hno, h0, hmo.lm hlm, nq.nd 302 0, Nat.le_refl _⟩
    refine m 0 post (N + 1) (by omega) (mNd τ 0 302 0) 1 none mi (by omega) (show upd τ.1.1.2.2.2.2 0 (-1) 0 = -1 from pk_us) (fun ds e ho τ' q x b1 b2 b3 b4 b5 b6 b7 => ?_) (fun ho τ' q b1 b2 => ?_)
    · exact hY ds e ho τ' q x b1 (hmo.tr b2) b4 b5 b6 b7
    · exact hF ho τ' q b1 (hmo.tr b2)
theorem jp_z {T : TX} {ds : List DD} {e : Tr} {z : Nat × Nat} (h : jp T ds e = .error z) : 0 < z.1 ∧ z.1 < 100 := by
  unfold jp at h
  split at h
  · rename_i z' hz
    cases h
    exact jD_z ds [] _ hz
  · split at h
    · rename_i z' hz
      cases h
      exact js_z _ _ _ _ hz
    · cases h
/-- what a load leaves of the reference -/
def LDR (τ τ' : SX12) : Prop := τ'.2.2.1.2.2.2 = τ.2.2.1.2.2.2 ∧ τ'.2.2.2 = τ.2.2.2 ∧ τ'.1.1.1.1.2.1 = 0 ∧ τ'.2.1.2.1.2.1 = 0
theorem MDx.fr2 {T : TX} {τ τ' : SX12} {x : Int32} (h1 : τ'.1.1.2.2.1 = τ.1.1.2.2.1) (h2 : τ'.1.1.2.2.2.1 = τ.1.1.2.2.2.1) (h3 : τ'.1.1.2.2.2.2 = τ.1.1.2.2.2.2) (h4 : τ'.1.2.1.1.1 = τ.1.2.1.1.1) : ∀ (ds : List DD) (q : Nat), MDx T τ ds q x → MDx T τ' ds q x := by
  intro ds
  induction ds with
  | nil => intro q _; trivial
  | cons d ds ih =>
    intro q k
    refine ⟨DNk.fr k.1 (fun j _ _ => ⟨by rw [h1], by rw [h2], by rw [h3]⟩) (fun j _ _ => by rw [h4]), ?_, ih _ k.2.2⟩
    rw [h4]
    exact k.2.1
theorem RPG.jr {T : TX} {N q : Nat} {g : List DD} {e : Tr} {x : Int32} {τ τ1 τ' : SX12} (hq : q ≤ 9000) (hd : DR τ τ1) (hj : JR τ1 τ' (1 + dnS g) q) (h1 : TM τ T) (h2 : LM τ T N) (h3 : NM T g τ') (h4 : τ.1.1.2.2.2.2 0 = lnk g 1 x) (h5 : MDx T τ g 1 x) (h6 : MS T τ e 0 (1 + dnS g) q x) (h7 : MJS T g τ' e 0 x) (h8 : τ.2.1.1.1.2.1 = 0) : RPG T N g e q x τ' := by
  have d5 := hd.mdx h5
  have d6 := hj.mst hq (hd.ms hq h6)
  obtain ⟨n, a, b, c, d, e', w, i, p, f, rfl⟩ := hd
  obtain ⟨s, m, o, y, z, rfl, _⟩ := hj
  exact ⟨⟨h1, h2, h3⟩, h4, MDx.fr2 (τ := τ) (τ' := jst (dst τ n a b c d e' w i p f) s m o y z) rfl rfl rfl rfl g 1 h5, d6, h7, h8⟩
theorem m_load {T : TX} {N m n : Nat} {o : ROP} {τ : SX12} {post : Int32 → SX12 → Prop} (hf : τ.1.1.1.1.2.1 = nI n) (hmn : m ≤ n) (hn : n ≤ 3000) (hT : T.2 = m) (hTx : ∀ k, k < m → T.1 k < 256 ∧ τ.1.1.1.1.1 k = nI (T.1 k)) (hN : LT T N) (hrf : RDF T N o) (hrd : RDM T N o)
    (h0 : o.2 = none → ∀ τ', LDR τ τ' → τ'.2.1.1.1.2.2 = 0 → τ'.2.1.1.2.1 = nI (PL T o.1) → τ'.2.1.1.2.2.1 = 0 → post (-2) τ')
    (h1 : ∀ ds e z, o.2 = some (ds, e) → jp T ds e = .error z → ∀ τ', LDR τ τ' → τ'.2.1.1.1.2.2 = 0 → τ'.2.1.1.2.1 = nI (PL T z.2) → τ'.2.1.1.2.2.1 = nI z.1 → post (-3) τ')
    (h2 : ∀ ds e, o.2 = some (ds, e) → jp T ds e = .ok ds → GV T N ds → ∀ τ' q x, LDR τ τ' → τ'.2.1.1.1.2.2 = 1 → τ'.2.1.1.2.1 = -1 → τ'.2.1.1.2.2.1 = -1 → RPG T N ds e q x τ' → 1 + dnS ds ≤ q → q ≤ 9000 → (∀ k, k < 200 → τ'.2.1.1.1.1 k = 0) → post 0 τ') : wp_X12_load τ (nI m) post := by
  have hf' : τ.1.1.1.1.2.1 = nI n := hf
  refine ⟨fun c => absurd c (nI_pos (by omega)), fun _ => ⟨fun _ => ⟨m + 1, ?_⟩, fun c => absurd (by rw [hf']; exact nI_le hmn (by omega)) c⟩⟩
  have fin : ∀ tx : Nat → Int32, (∀ k, k < m → tx k = nI (T.1 k)) → wb_X12_load_21 post (fun a => wp_X12_load_21 post 0 a.1 a.2.1 a.2.2) (((((τ.1.1.1.1.1, (τ.1.1.1.1.2.1, (nI m))), τ.1.1.1.2), τ.1.1.2), τ.1.2), (τ.2.1, ((τ.2.2.1.1, (tx, τ.2.2.1.2.2)), τ.2.2.2))) (nI m) (nI m) := by
    intro tx htx
    refine ⟨fun _ => ?_, fun c => absurd (nI_le (Nat.le_refl m) (by omega)) c⟩
    have tm : TM (((((τ.1.1.1.1.1, (0, (nI m))), τ.1.1.1.2), ((τ.1.1.2.1.1, (τ.1.1.2.1.2.1, 0)), τ.1.1.2.2)), ((τ.1.2.1.1, (0, τ.1.2.1.2.2)), (τ.1.2.2.1, ((0, 0), (0, τ.1.2.2.2.2.2))))), ((((τ.2.1.1.1.1, (τ.2.1.1.1.2.1, 0)), τ.2.1.1.2), ((0, (0, τ.2.1.2.1.2.2)), τ.2.1.2.2)), ((τ.2.2.1.1, (tx, τ.2.2.1.2.2)), τ.2.2.2))) T := ⟨by rw [hT], by omega, fun k hk => ⟨(hTx k (by omega)).1, htx k (by omega)⟩⟩
    generalize hb : ((((((τ.1.1.1.1.1, (0, (nI m))), τ.1.1.1.2), ((τ.1.1.2.1.1, (τ.1.1.2.1.2.1, 0)), τ.1.1.2.2)), ((τ.1.2.1.1, (0, τ.1.2.1.2.2)), (τ.1.2.2.1, ((0, 0), (0, τ.1.2.2.2.2.2))))), ((((τ.2.1.1.1.1, (τ.2.1.1.1.2.1, 0)), τ.2.1.1.2), ((0, (0, τ.2.1.2.1.2.2)), τ.2.1.2.2)), ((τ.2.2.1.1, (tx, τ.2.2.1.2.2)), τ.2.2.2))) : SX12) = τb at tm
    have key : wp_X12_cut τb (fun τ2 => wp_X12_program τ2  (fun r3 τ4 => ((τ4.1.1.2.1.2.1 = 0 → (∃ n7, n7 ≤ 400 ∧ wg_ca n7 0 (τ4.1, ((((τ4.2.1.1.1.1, (r3, τ4.2.1.1.1.2.2)), τ4.2.1.1.2), τ4.2.1.2), τ4.2.2)) [r3, (0 : Int32)] (fun _ τ6 => ((τ6.2.1.2.1.1 = 0 → (∃ n10, wp_X12_load_186  post n10 (τ6.1, ((((τ6.2.1.1.1.1, (τ6.2.1.1.1.2.1, (1 : Int32))), (((-1) : Int32), (((-1) : Int32), τ6.2.1.1.2.2.2))), τ6.2.1.2), τ6.2.2)) (0 : Int32))) ∧ (¬ τ6.2.1.2.1.1 = 0 → (vp_in τ6.2.1.1.2.2.2 3002 ∧ (∀ y11 : Int32, y11 = (τ6.1.1.1.2.2.1 (τ6.2.1.1.2.2.2).toNatClampNeg) → post ((-3) : Int32) (τ6.1, (((τ6.2.1.1.1, (y11, (τ6.2.1.2.1.1, τ6.2.1.1.2.2.2))), τ6.2.1.2), τ6.2.2))))))))) ∧ (¬ τ4.1.1.2.1.2.1 = 0 → (vp_in τ4.1.1.2.1.1 3002 ∧ (∀ y13 : Int32, y13 = (τ4.1.1.1.2.2.1 (τ4.1.1.2.1.1).toNatClampNeg) → post ((-2) : Int32) (τ4.1, ((((τ4.2.1.1.1.1, (r3, τ4.2.1.1.1.2.2)), (y13, ((0 : Int32), τ4.2.1.1.2.2.2))), τ4.2.1.2), τ4.2.2)))))))) := by
      refine m_cut tm (fun τ2 N' hN' hlm hno hba hcu => ?_)
      have eN : N' = N := hN'.uniq hN
      rw [eN] at hlm
      have hN3 : N ≤ 3001 := by have := hN.2.1; omega
      obtain ⟨u1, u2, u3, u4, u5⟩ := hcu
      have nb : τb.1.1.2.1.2.2 = 0 := by rw [← hb]
      have mb : τb.2.2.1.2.2.2 = τ.2.2.1.2.2.2 ∧ τb.2.2.2 = τ.2.2.2 ∧ τb.1.1.1.1.2.1 = 0 ∧ τb.2.1.2.1.2.1 = 0 ∧ τb.2.1.1.1.2.2 = 0 ∧ τb.2.1.2.1.1 = 0 := by
        rw [← hb]
        exact ⟨rfl, rfl, rfl, rfl, rfl, rfl⟩
      have nb2 : τb.1.2.1.2.1 = 0 ∧ τb.1.2.2.2.1.1 = 0 ∧ τb.1.2.2.2.1.2 = 0 ∧ τb.1.2.2.2.2.1 = 0 := by
        rw [← hb]
        exact ⟨rfl, rfl, rfl, rfl⟩
      have ldr : ∀ τ4 : SX12, MOF τ2 τ4 → ∀ τ6 : SX12, τ6.2.2.1.2.2.2 = τ4.2.2.1.2.2.2 → τ6.2.2.2 = τ4.2.2.2 → τ6.1.1.1.1.2.1 = τ4.1.1.1.1.2.1 → τ6.2.1.2.1.2.1 = τ4.2.1.2.1.2.1 → LDR τ τ6 := by
        intro τ4 mo τ6 e1 e2 e3 e4
        have e5 : τ4.2 = τb.2 := mo.1.trans u1
        refine ⟨e1.trans ?_, e2.trans ?_, e3.trans ?_, e4.trans ?_⟩
        · show τ4.2.2.1.2.2.2 = _
          rw [e5]
          exact mb.1
        · rw [e5]
          exact mb.2.1
        · show τ4.1.1.1.1.2.1 = 0
          rw [mo.2.1, u3]
          exact mb.2.2.1
        · show τ4.2.1.2.1.2.1 = 0
          rw [e5]
          exact mb.2.2.2.1
      refine hrd τ2 _ hlm hno hba (u5.trans nb) (fun ds e ho τ4 q x mi mo f0 md qd ms => ?_) (fun ho τ4 q' mbad mo => ?_)
      · obtain ⟨b1, b2, b3, b4, b5, b6⟩ := mi
        obtain ⟨⟨t1, wd, ws, xs⟩, sz3⟩ := hrf.1 ds e ho
        have hq3 : q ≤ 3100 := by omega
        refine ⟨fun _ => ⟨100, by omega, ?_⟩, fun c => absurd b1 c⟩
        have e5 : τ4.2 = τb.2 := mo.1.trans u1
        have tm5 : TM (τ4.1, ((((τ4.2.1.1.1.1, ((nI 0), τ4.2.1.1.1.2.2)), τ4.2.1.1.2), τ4.2.1.2), τ4.2.2)) T := by
          obtain ⟨c1, c2, c3⟩ := tm
          refine ⟨?_, c2, fun k hk => ⟨(c3 k hk).1, ?_⟩⟩
          · show τ4.1.1.1.1.2.2 = _
            rw [mo.2.1, u3]
            exact c1
          · show τ4.2.2.1.2.1 k = _
            rw [e5]
            exact (c3 k hk).2
        have nm5 : NM T [] (τ4.1, ((((τ4.2.1.1.1.1, ((nI 0), τ4.2.1.1.1.2.2)), τ4.2.1.1.2), τ4.2.1.2), τ4.2.2)) := by
          refine ⟨?_, ?_, fun k hk => absurd hk (Nat.not_lt_zero k), ?_, ?_, fun k hk => absurd hk (Nat.not_lt_zero k)⟩
          · show τ4.1.2.1.2.1 = 0
            rw [mo.2.2.1, u2]
            exact nb2.1
          · show τ4.1.2.2.2.1.1 = 0
            rw [mo.2.2.2.1, u2]
            exact nb2.2.1
          · show τ4.1.2.2.2.1.2 = 0
            rw [mo.2.2.2.1, u2]
            exact nb2.2.2.1
          · show τ4.1.2.2.2.2.1 = 0
            rw [mo.2.2.2.1, u2]
            exact nb2.2.2.2
        have why5 : ((τ4.1, ((((τ4.2.1.1.1.1, ((nI 0), τ4.2.1.1.1.2.2)), τ4.2.1.1.2), τ4.2.1.2), τ4.2.2)) : SX12).2.1.2.1.1 = 0 := by
          show τ4.2.1.2.1.1 = 0
          rw [e5]
          exact mb.2.2.2.2.2
        have ir4 : τ4.2.1.1.1.2.2 = 0 := by
          show τ4.2.1.1.1.2.2 = 0
          rw [e5]
          exact mb.2.2.2.2.1
        have ms5 : MS T (τ4.1, ((((τ4.2.1.1.1.1, ((nI 0), τ4.2.1.1.1.2.2)), τ4.2.1.1.2), τ4.2.1.2), τ4.2.2)) e 0 (1 + dnS ds) q x := MS.fr (τ := τ4) e 0 (1 + dnS ds) q x (by omega) (fun _ _ _ => ⟨rfl, rfl, rfl⟩) (fun _ _ _ _ => rfl) ms
        have md5 : MDx T (τ4.1, ((((τ4.2.1.1.1.1, ((nI 0), τ4.2.1.1.1.2.2)), τ4.2.1.1.2), τ4.2.1.2), τ4.2.2)) ds 1 x := MDx.fr2 (τ := τ4) (τ' := (τ4.1, ((((τ4.2.1.1.1.1, ((nI 0), τ4.2.1.1.1.2.2)), τ4.2.1.1.2), τ4.2.1.2), τ4.2.2))) rfl rfl rfl rfl ds 1 md
        refine m_judge (N := N) hN3 wd ws xs ⟨tm5, b4, nm5⟩ b5 hq3 qd f0 md5 ms5 why5 (fun g τ6 hjp hv hjr hnm hwhy hmjs => ?_) (fun z τ6 hjp hjr hwhy hwr => ?_)
        · obtain ⟨hgd, _⟩ := jp_ok hjp
          rw [hgd] at hjp hv hnm hmjs
          obtain ⟨τ1, dr, jr⟩ := hjr
          have rpg : RPG T N ds e q x τ6 := RPG.jr (by omega) dr jr tm5 b4 hnm f0 md5 ms5 hmjs rfl
          refine ⟨fun _ => ⟨201, ?_⟩, fun c => absurd hwhy c⟩
          have ld6 : LDR τ (τ6.1, ((((τ6.2.1.1.1.1, (τ6.2.1.1.1.2.1, 1)), ((-1), ((-1), τ6.2.1.1.2.2.2))), τ6.2.1.2), τ6.2.2)) := by
            obtain ⟨n', a, b, c, d, e', w, i, p, f, rfl⟩ := dr
            obtain ⟨s', m', o', y', z', rfl, _⟩ := jr
            exact ldr τ4 mo _ rfl rfl rfl rfl
          have lp : ∀ (mm k : Nat) (v : Nat → Int32), k + mm = 200 → (∀ j, j < k → v j = 0) → wp_X12_load_186 post (mm + 1) (τ6.1, ((((v, (τ6.2.1.1.1.2.1, 1)), ((-1), ((-1), τ6.2.1.1.2.2.2))), τ6.2.1.2), τ6.2.2)) (nI k) := by
            intro mm
            induction mm with
            | zero =>
              intro k v hk hv0
              have hk : k = 200 := by omega
              rw [hk] at hv0 ⊢
              refine ⟨fun _ => ?_, fun c => absurd (nI_le (a := 200) (b := 200) (by omega) (by omega)) c⟩
              refine h2 ds e ho hjp hv (τ6.1, ((((v, (τ6.2.1.1.1.2.1, 1)), ((-1), ((-1), τ6.2.1.1.2.2.2))), τ6.2.1.2), τ6.2.2)) q x ld6 rfl rfl rfl ?_ qd (by omega) hv0
              exact rpg.fr (by omega) ⟨rfl, rfl, rfl, rfl, rfl, rfl⟩
            | succ mm ih =>
              intro k v hk hv0
              refine ⟨fun c => absurd c (nI_ge (a := k) (b := 200) (by omega) (by omega)), fun _ => ⟨in_k (by omega) (by omega), fun y8 e8 => ?_⟩⟩
              have := ih (k + 1) y8 (by omega) (fun j hj => by
                rw [e8, nI_clamp (by omega)]
                by_cases c : j = k
                · rw [c, pk_us]
                · rw [pk_un c]
                  exact hv0 j (by omega))
              rw [← nI_1 k] at this
              exact this
          exact lp 200 0 τ6.2.1.1.1.1 (by omega) (fun j hj => absurd hj (Nat.not_lt_zero j))
        · have hz := jp_lt wd ws hjp
          have hz1 : 0 < z.1 ∧ z.1 < 100 := jp_z hjp
          obtain ⟨τ1, dr, jr⟩ := hjr
          have hwhy' : τ6.2.1.2.1.1 = nI z.1 := hwhy
          have hwr' : τ6.2.1.1.2.2.2 = nI z.2 := hwr
          refine ⟨fun c => ?_, fun _ => ?_⟩
          · rw [hwhy'] at c
            exact absurd c (nI_ne0 hz1.1 (by omega))
          · have hpl : τ6.1.1.1.2.2.1 z.2 = nI (PL T z.2) := by
              obtain ⟨n', a, b, c, d, e', w, i, p, f, rfl⟩ := dr
              obtain ⟨s', m', o', y', z', rfl, _⟩ := jr
              exact (b4 z.2 hz).2.1
            have ld6 : ∀ y11 : Int32, LDR τ (τ6.1, (((τ6.2.1.1.1, (y11, (τ6.2.1.2.1.1, τ6.2.1.1.2.2.2))), τ6.2.1.2), τ6.2.2)) := by
              obtain ⟨n', a, b, c, d, e', w, i, p, f, rfl⟩ := dr
              obtain ⟨s', m', o', y', z', rfl, _⟩ := jr
              exact fun y11 => ldr τ4 mo _ rfl rfl rfl rfl
            have ir6 : τ6.2.1.1.1.2.2 = 0 := by
              obtain ⟨n', a, b, c, d, e', w, i, p, f, rfl⟩ := dr
              obtain ⟨s', m', o', y', z', rfl, _⟩ := jr
              exact ir4
            refine ⟨?_, fun y11 e11 => ?_⟩
            · rw [hwr']
              exact in_k (by omega) (by omega)
            · rw [hwr', nI_clamp (by omega), hpl] at e11
              exact h1 ds e z ho hjp _ (ld6 y11) ir6 e11 hwhy
      · obtain ⟨b1, b2, b3, b4, b5, b6⟩ := mbad
        have b1' : τ4.1.1.2.1.2.1 = 1 := b1
        have b2' : τ4.1.1.2.1.1 = nI o.1 := b2
        refine ⟨fun c => ?_, fun _ => ?_⟩
        · rw [b1'] at c
          exact absurd c (by decide)
        · have e5 : τ4.2 = τb.2 := mo.1.trans u1
          refine ⟨?_, fun y13 e13 => ?_⟩
          · rw [b2']
            exact in_k (by omega) (by omega)
          · have hpl : τ4.1.1.1.2.2.1 o.1 = nI (PL T o.1) := (b4 o.1 b3).2.1
            rw [b2', nI_clamp (by omega), hpl] at e13
            refine h0 ho _ (ldr τ4 mo _ rfl rfl rfl rfl) ?_ e13 rfl
            show τ4.2.1.1.1.2.2 = 0
            rw [e5]
            exact mb.2.2.2.2.1
    exact key
  have lp : ∀ (mm k : Nat) (tx : Nat → Int32), k + mm = m → (∀ j, j < k → tx j = nI (T.1 j)) → wp_X12_load_21 post (mm + 1) (((((τ.1.1.1.1.1, (τ.1.1.1.1.2.1, (nI m))), τ.1.1.1.2), τ.1.1.2), τ.1.2), (τ.2.1, ((τ.2.2.1.1, (tx, τ.2.2.1.2.2)), τ.2.2.2))) (nI m) (nI k) := by
    intro mm
    induction mm with
    | zero =>
      intro k tx hk htx
      have hk : k = m := by omega
      rw [hk] at htx ⊢
      exact fin tx htx
    | succ mm ih =>
      intro k tx hk htx
      show wb_X12_load_21 post (fun a => wp_X12_load_21 post (mm + 1) a.1 a.2.1 a.2.2) (((((τ.1.1.1.1.1, (τ.1.1.1.1.2.1, (nI m))), τ.1.1.1.2), τ.1.1.2), τ.1.2), (τ.2.1, ((τ.2.2.1.1, (tx, τ.2.2.1.2.2)), τ.2.2.2))) (nI m) (nI k)
      refine ⟨fun c => absurd c (nI_ge (by omega) (by omega)), fun _ => ⟨in_k (by omega) (by omega), in_k (by omega) (by omega), fun y15 e15 => ?_⟩⟩
      have := ih (k + 1) y15 (by omega) (fun j hj => by
        rw [e15, nI_clamp (by omega)]
        by_cases c : j = k
        · rw [c, pk_us]
          exact (hTx k (by omega)).2
        · rw [pk_un c]
          exact htx j (by omega))
      rw [← nI_1 k] at this
      exact this
  exact lp m 0 τ.2.2.1.2.1 (by omega) (fun j hj => absurd hj (Nat.not_lt_zero j))
end Load2
