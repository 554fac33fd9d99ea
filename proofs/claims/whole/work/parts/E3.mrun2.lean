section Mrun2
/-- the words with the first k inputs -/
def inF (l : List (Nat × Bool)) (inp E : Nat → Int32) : Nat → Nat → Int32
  | 0 => E
  | k + 1 => upd (inF l inp E k) (ix l k).1 (inp k)
def zk (k : Nat) (E : Nat → Int32) : Nat → Int32 := fun j => if j < k then 0 else E j
theorem zk_0 (E : Nat → Int32) : zk 0 E = E := by
  funext j
  unfold zk
  rw [if_neg (Nat.not_lt_zero j)]
theorem zk_s (k : Nat) (E : Nat → Int32) : upd (zk k E) k 0 = zk (k + 1) E := by
  funext j
  unfold zk
  by_cases h : j = k
  · rw [h, pk_us, if_pos (Nat.lt_succ_self k)]
  · rw [pk_un h]
    by_cases q : j < k
    · rw [if_pos q, if_pos (by omega)]
    · rw [if_neg q, if_neg (by omega)]
noncomputable def S0 (T : TX) (g : List DD) (inp E : Nat → Int32) (st : Nat) : SR := (inF (iwF T g 0) inp (zk 200 E) (iwF T g 0).length, st, [], none)
theorem m_skip {T : TX} {N k M0 : Nat} {x : Int32} {post : SX12 → Prop} {τ : SX12} (c0 : τ.2.2.1.1.2.1 = 0) (h : ∀ M', M0 < M' → wp_X12_runAll_7 (wg_ra k) post M' τ (bi false) x) : ∀ (ds : List DD) (q M t t' : Nat), WFDs T N ds t t' → MDx T τ ds q x → q + dnS ds ≤ 9000 → ds.length + M0 < M → wp_X12_runAll_7 (wg_ra k) post M τ (bi false) (lnk ds q x) := by
  intro ds
  induction ds with
  | nil =>
    intro q M t t' _ _ _ hM
    exact h M (by simpa using hM)
  | cons d ds ih =>
    intro q M t t' hwd hm hq hM
    obtain ⟨d1, d2, d3⟩ := hwd
    obtain ⟨m1, m2, m3⟩ := hm
    have es : dnS (d :: ds) = dn d + dnS ds := rfl
    have hdn : 2 ≤ dn d := by
      unfold dn
      omega
    have hlen : (d :: ds).length = ds.length + 1 := rfl
    obtain ⟨M', rfl⟩ : ∃ M', M = M' + 1 := ⟨M - 1, by omega⟩
    show wb_X12_runAll_7 (wg_ra k) post (fun a => wp_X12_runAll_7 (wg_ra k) post M' a.1 a.2.1 a.2.2) τ (bi false) (nI q)
    have k0 : τ.1.1.2.2.1 q = nI (kM (TK T d.1)) := m1.1
    refine ⟨fun c => absurd c (nI_nem1 (by omega)), fun _ => ⟨fun c => absurd c0 c, fun _ => ⟨in_k (by omega) (by omega), ?_⟩⟩⟩
    rw [nI_clamp (by omega), k0]
    have go : wp_X12_runAll_59 (wg_ra k) (fun a => wp_X12_runAll_7 (wg_ra k) post M' a.1 a.2.1 a.2.2) post τ (bi false) (nI q) := by
      refine ⟨in_k (by omega) (by omega), fun y ey => ?_⟩
      rw [nI_clamp (by omega)] at ey
      have ey : y = lnk ds (q + dn d) x := ey.trans m2
      rw [ey]
      exact ih (q + dn d) M' _ _ d3 m3 (by omega) (by omega)
    rcases d2.1 with z | z
    · rw [z]
      exact ⟨fun _ => go, fun c => absurd rfl c⟩
    · rw [z]
      exact ⟨fun c => absurd c (by decide), fun _ => ⟨in_k (by omega) (by omega), fun _ => go, fun c => absurd rfl c⟩⟩
theorem iw_len {T : TX} {N : Nat} {g : List DD} (hv : GV T N g) : (iwF T g 0).length ≤ 200 ∧ ∀ j, j < (iwF T g 0).length → (ix (iwF T g 0) j).1 < wds T g := by
  have h := iwF_len T g 0
  have h2 := hv.2
  refine ⟨by omega, fun j hj => ?_⟩
  have := (iwF_word T g 0 _ (ix_mem hj)).2
  omega
theorem m_run {T : TX} {N q t1 t' : Nat} {g : List DD} {e : Tr} {x : Int32} {τ : SX12} {st : Nat} {post : Int32 → SX12 → Prop} (hv : GV T N g) (hN : N ≤ 3001) (hws : WFS T N e 0) (hjs : js T g e 0 false = .ok ()) (hxs : XS T e 0 t1 t' 31) (hj : MJI T N g τ) (hwd : WFDs T N g 0 t1) (hq9 : q ≤ 9000) (hg9 : 1 + dnS g ≤ q) (hf : τ.1.1.2.2.2.2 0 = lnk g 1 x) (hm : MDx T τ g 1 x) (hms : MS T τ e 0 (1 + dnS g) q x) (hmj : MJS T g τ e 0 x) (hb : τ.2.1.1.1.2.1 = 0) (hr : τ.2.1.1.1.2.2 = 1) (hst : st ≤ 2000)
    (hp : ∀ τ', QR (τ.1, (τ.2.1, ((((nI st), τ.2.2.1.1.2), τ.2.2.1.2), τ.2.2.2))) τ' → RU T st τ' (rs T g e 0 false (S0 T g τ.2.1.1.1.1 τ.2.1.2.1.2.2 st)) → post τ'.2.2.1.1.2.1 (τ'.1, ((τ'.2.1.1, ((τ'.2.1.2.1.1, (1, τ'.2.1.2.1.2.2)), τ'.2.1.2.2)), τ'.2.2))) : wp_X12_run τ (nI st) post := by
  obtain ⟨il1, il2⟩ := iw_len hv
  have hw2 := hv.2
  have hr' : τ.2.1.1.1.2.2 = 1 := hr
  refine ⟨fun c => absurd (hr'.symm.trans c) (by decide), fun _ => ⟨fun c => absurd c (nI_pos (by omega)), fun _ => ⟨fun _ => ⟨201, ?_⟩, fun c => absurd (nI_le hst (by omega)) c⟩⟩⟩
  -- the run itself
  have p3 : ∀ v : Nat → Int32, v = inF (iwF T g 0) τ.2.1.1.1.1 (zk 200 τ.2.1.2.1.2.2) (iwF T g 0).length → ∃ n3, n3 ≤ 400 ∧ wg_ra n3 0 (τ.1, ((τ.2.1.1, ((τ.2.1.2.1.1, (τ.2.1.2.1.2.1, v)), (τ.2.1.2.2.1, (0, 0)))), ((((nI st), (0, (-1))), τ.2.2.1.2), τ.2.2.2))) [τ.2.1.1.1.2.1, 0] (fun _ τ2 => post τ2.2.2.1.1.2.1 (τ2.1, ((τ2.2.1.1, ((τ2.2.1.2.1.1, (1, τ2.2.1.2.1.2.2)), τ2.2.1.2.2)), τ2.2.2))) := by
    intro v ev
    refine ⟨400, Nat.le_refl _, ?_⟩
    show wp_X12_runAll (wg_ra 399) (τ.1, ((τ.2.1.1, ((τ.2.1.2.1.1, (τ.2.1.2.1.2.1, v)), (τ.2.1.2.2.1, (0, 0)))), ((((nI st), (0, (-1))), τ.2.2.1.2), τ.2.2.2))) τ.2.1.1.1.2.1 0 (fun τ2 => post τ2.2.2.1.1.2.1 (τ2.1, ((τ2.2.1.1, ((τ2.2.1.2.1.1, (1, τ2.2.1.2.1.2.2)), τ2.2.1.2.2)), τ2.2.2)))
    have hb' : τ.2.1.1.1.2.1 = nI 0 := hb
    rw [hb']
    refine ⟨in_k (by omega) (by omega), fun y ey => ⟨g.length + bl e + 1, ?_⟩⟩
    rw [nI_clamp (by omega)] at ey
    have ey : y = lnk g 1 x := ey.trans hf
    rw [ey]
    have q0 : QR (τ.1, (τ.2.1, ((((nI st), τ.2.2.1.1.2), τ.2.2.1.2), τ.2.2.2))) (τ.1, ((τ.2.1.1, ((τ.2.1.2.1.1, (τ.2.1.2.1.2.1, v)), (τ.2.1.2.2.1, (0, 0)))), ((((nI st), (0, (-1))), τ.2.2.1.2), τ.2.2.2))) := ⟨v, τ.2.1.2.2.1, 0, 0, 0, -1, τ.2.2.1.2.2.1, rfl⟩
    have r0 : RU T st (τ.1, ((τ.2.1.1, ((τ.2.1.2.1.1, (τ.2.1.2.1.2.1, v)), (τ.2.1.2.2.1, (0, 0)))), ((((nI st), (0, (-1))), τ.2.2.1.2), τ.2.2.2))) (S0 T g τ.2.1.1.1.1 τ.2.1.2.1.2.2 st) := by
      refine ⟨ev, Nat.le_refl _, rfl, ?_, rfl, Nat.zero_le _, fun k hk => absurd hk (Nat.not_lt_zero k), rfl, rfl⟩
      show (0 : Int32) = nI (st - st)
      rw [Nat.sub_self]
      rfl
    have hj0 : MJI T N g (τ.1, (τ.2.1, ((((nI st), τ.2.2.1.1.2), τ.2.2.1.2), τ.2.2.2))) := hj
    have ms0 : MS T (τ.1, (τ.2.1, ((((nI st), τ.2.2.1.1.2), τ.2.2.1.2), τ.2.2.2))) e 0 (1 + dnS g) q x := MS.fr (τ := τ) e 0 (1 + dnS g) q x hq9 (fun _ _ _ => ⟨rfl, rfl, rfl⟩) (fun _ _ _ _ => rfl) hms
    have mj0 : MJS T g (τ.1, (τ.2.1, ((((nI st), τ.2.2.1.1.2), τ.2.2.1.2), τ.2.2.2))) e 0 x := MJS.fr (τ := τ) (τ' := (τ.1, (τ.2.1, ((((nI st), τ.2.2.1.1.2), τ.2.2.1.2), τ.2.2.2)))) rfl rfl e 0 (1 + dnS g) q x hq9 hms (fun _ _ _ => ⟨rfl, rfl⟩) hmj
    have md0 : MDx T (τ.1, ((τ.2.1.1, ((τ.2.1.2.1.1, (τ.2.1.2.1.2.1, v)), (τ.2.1.2.2.1, (0, 0)))), ((((nI st), (0, (-1))), τ.2.2.1.2), τ.2.2.2))) g 1 x := by
      have gen : ∀ (ds : List DD) (q : Nat), MDx T τ ds q x → MDx T (τ.1, ((τ.2.1.1, ((τ.2.1.2.1.1, (τ.2.1.2.1.2.1, v)), (τ.2.1.2.2.1, (0, 0)))), ((((nI st), (0, (-1))), τ.2.2.1.2), τ.2.2.2))) ds q x := by
        intro ds
        induction ds with
        | nil => intro q _; trivial
        | cons d ds ih =>
          intro q k
          exact ⟨k.1, k.2.1, ih _ k.2.2⟩
      exact gen g 1 hm
    refine m_skip (T := T) (N := N) (M0 := bl e) rfl (fun M' hM' => ?_) g 1 _ 0 t1 hwd md0 (by omega) (by omega)
    exact run_all hv hN hst (tsz e + 1) e 399 (1 + dnS g) q t1 t' 31 M' false x _ _ _ (by omega) hws hjs hxs (by omega) (q0.ms hq9 ms0) (q0.mjs hq9 ms0 mj0) hq9 (q0.mji hj0) r0 hM' (fun τ' q1 r1 => hp τ' (q0.tr q1) r1)
  -- the inputs
  have p2 : ∀ (m k : Nat) (v : Nat → Int32), k + m = (iwF T g 0).length → v = inF (iwF T g 0) τ.2.1.1.1.1 (zk 200 τ.2.1.2.1.2.2) k → wp_X12_run_44 post (m + 1) (τ.1, ((τ.2.1.1, ((τ.2.1.2.1.1, (τ.2.1.2.1.2.1, v)), τ.2.1.2.2)), τ.2.2)) (nI st) (nI k) := by
    have hin : τ.1.2.2.2.1.2 = nI (iwF T g 0).length := hj.2.2.2.2.2.1
    intro m
    induction m with
    | zero =>
      intro k v hk ev
      show wb_X12_run_44 post (fun a => wp_X12_run_44 post 0 a.1 a.2.1 a.2.2) (τ.1, ((τ.2.1.1, ((τ.2.1.2.1.1, (τ.2.1.2.1.2.1, v)), τ.2.1.2.2)), τ.2.2)) (nI st) (nI k)
      have hk : k = (iwF T g 0).length := by omega
      refine ⟨fun _ => p3 v (by rw [ev, hk]), fun c => absurd ?_ c⟩
      show τ.1.2.2.2.1.2 ≤ nI k
      rw [hin]
      exact nI_le (by omega) (by omega)
    | succ m ih =>
      intro k v hk ev
      have hiw : τ.1.2.2.2.2.2 k = nI (ix (iwF T g 0) k).1 := hj.2.2.2.2.2.2.2 k (by omega)
      have hix := il2 k (by omega)
      show wb_X12_run_44 post (fun a => wp_X12_run_44 post (m + 1) a.1 a.2.1 a.2.2) (τ.1, ((τ.2.1.1, ((τ.2.1.2.1.1, (τ.2.1.2.1.2.1, v)), τ.2.1.2.2)), τ.2.2)) (nI st) (nI k)
      refine ⟨fun c => ?_, fun _ => ⟨in_k (by omega) (by omega), in_k (by omega) (by omega), ?_⟩⟩
      · have c : τ.1.2.2.2.1.2 ≤ nI k := c
        rw [hin] at c
        exact absurd c (nI_ge (by omega) (by omega))
      · show vp_in (τ.1.2.2.2.2.2 (nI k).toNatClampNeg) 200 ∧ ∀ y4 : Nat → Int32, y4 = upd v (τ.1.2.2.2.2.2 (nI k).toNatClampNeg).toNatClampNeg (τ.2.1.1.1.1 (nI k).toNatClampNeg) → wp_X12_run_44 post (m + 1) (τ.1, ((τ.2.1.1, ((τ.2.1.2.1.1, (τ.2.1.2.1.2.1, y4)), τ.2.1.2.2)), τ.2.2)) (nI st) (nI k + 1)
        rw [nI_clamp (by omega), hiw, nI_clamp (show (ix (iwF T g 0) k).1 < 2 ^ 31 by omega), nI_1]
        refine ⟨in_k (by omega) (by omega), fun y4 e4 => ih (k + 1) y4 (by omega) ?_⟩
        rw [e4, ev]
        rfl
  -- zeros
  have p1 : ∀ (m k : Nat) (v : Nat → Int32), k + m = 200 → v = zk k τ.2.1.2.1.2.2 → wp_X12_run_22 post (m + 1) (τ.1, ((τ.2.1.1, ((τ.2.1.2.1.1, (τ.2.1.2.1.2.1, v)), τ.2.1.2.2)), τ.2.2)) (nI st) (nI k) := by
    intro m
    induction m with
    | zero =>
      intro k v hk ev
      show wb_X12_run_22 post (fun a => wp_X12_run_22 post 0 a.1 a.2.1 a.2.2) (τ.1, ((τ.2.1.1, ((τ.2.1.2.1.1, (τ.2.1.2.1.2.1, v)), τ.2.1.2.2)), τ.2.2)) (nI st) (nI k)
      have hk : k = 200 := by omega
      refine ⟨fun _ => ⟨(iwF T g 0).length + 1, p2 (iwF T g 0).length 0 v (by omega) (by rw [ev, hk]; rfl)⟩, fun c => absurd ?_ c⟩
      rw [hk]
      exact nI_le (a := 200) (b := 200) (by omega) (by omega)
    | succ m ih =>
      intro k v hk ev
      show wb_X12_run_22 post (fun a => wp_X12_run_22 post (m + 1) a.1 a.2.1 a.2.2) (τ.1, ((τ.2.1.1, ((τ.2.1.2.1.1, (τ.2.1.2.1.2.1, v)), τ.2.1.2.2)), τ.2.2)) (nI st) (nI k)
      refine ⟨fun c => absurd c (nI_ge (a := k) (b := 200) (by omega) (by omega)), fun _ => ⟨in_k (by omega) (by omega), ?_⟩⟩
      show ∀ y7 : Nat → Int32, y7 = upd v (nI k).toNatClampNeg 0 → wp_X12_run_22 post (m + 1) (τ.1, ((τ.2.1.1, ((τ.2.1.2.1.1, (τ.2.1.2.1.2.1, y7)), τ.2.1.2.2)), τ.2.2)) (nI st) (nI k + 1)
      rw [nI_clamp (by omega), nI_1]
      intro y7 e7
      refine ih (k + 1) y7 (by omega) ?_
      rw [e7, ev, zk_s]
  exact p1 200 0 τ.2.1.2.1.2.2 (by omega) (zk_0 _).symm
end Mrun2
