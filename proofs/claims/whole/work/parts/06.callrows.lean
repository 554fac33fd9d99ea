
section AwCalls
def aw_kf (n : Nat) (is bad : List Nat) : aw_W → Nat → Bool
  | [], _ => true
  | x :: l, i => ((aw_ix is i).isSome || aw_kpe n bad x) && aw_kf n is bad l (i + 1)
theorem aw_kf_ok {n : Nat} {is bad : List Nat} : ∀ (l : aw_W) (k : Nat), aw_kf n is bad l k = true → ∀ i x, l[i]? = some x → k + i ∉ is → aw_kpe n bad x = true
  | [], _, _, i, x, h, _ => by simp at h
  | a :: l, k, h, i, x, hx, hn => by
    simp only [aw_kf, Bool.and_eq_true, Bool.or_eq_true] at h
    cases i with
    | zero =>
      simp at hx
      subst hx
      rcases h.1 with h1 | h1
      · rw [aw_ix_none is k (by simpa using hn)] at h1
        cases h1
      · exact h1
    | succ i => exact aw_kf_ok l (k + 1) h.2 i x (by simpa using hx) (by rw [show k + 1 + i = k + (i + 1) by omega]; exact hn)
def aw_keep (w : aw_W) (is bad : List Nat) : Bool := aw_kf w.length is bad w 0
def aw_chk (w : aw_W) (is : List Nat) (wc : aw_W) (n0 n1 : Nat) (lv : List (Nat × Value)) (st : List Value) : Bool := wc.all (aw_oke is.length) && (va_nd is && (aw_keep w is (is.drop n1) && ((lv.all (fun q => aw_kpv w.length (is.drop n1) q.2)) && (st.all (aw_kpv w.length (is.drop n1)) && ((is.drop n1).all (fun k => Nat.ble n0 k) && (Nat.ble (st.map fun v => v.category).sum 8 && Nat.ble n1 is.length))))))
abbrev aw_e0 : va_E := .inl (0, 0, .inl (fun _ => 0))
def aw_chk2 (is : List Nat) (wc : aw_W) (v : Option Value) : Bool := Nat.ble is.length wc.length && (wc.all (aw_oke wc.length) && (match v with | some x => aw_okv wc.length x | none => true))
variable {p : Program} {e : Env} {R : Room} {s : State} {m : MethodId} {args : Array Value} {below : List Frame} {meth : Method} {c : Code} {H : Heap} {locs : List Loc} {cells slots : Nat}
variable {G : aw_G} {M : aw_M} {d mc ms n0 pc : Nat} {lv : List (Nat × Value)} {st : List Value} {w : aw_W} {post : Option Value → aw_W → Prop} {is : List Nat} {wc : aw_W} {n1 mc1 ms1 d1 : Nat} {postc : Option Value → aw_W → Prop}
theorem aw_after {A : Nat → Prop} {ad0 ad : List Nat} {ls : Array Slot} {st0 : List Value} {a : Array Value}
    (X : aw_X G M d p R s m args meth c) (h0 : ad.take ad0.length = ad0) (h1 : ad0.length ≤ n0) (h2 : cells + (mc1 + mc) ≤ R.cells) (h3 : slots + (ms1 + ms) ≤ R.slots) (hP : aw_P G A ad w H) (hS : va_S A s.heap H locs) (hA : ∀ q, s.heap.size ≤ q → A q) (hE : aw_E G A s s.heap) (hl : lv_has ls M.2.2.1 (lv.map (aw_l G ad)))
    (hr : va_Run p G.1 e R s m args below meth c H locs cells slots mc1 ms1 (F0 m pc ls st0) (st.map (aw_v G ad)) (aw_Q G (va_A (aw_c G (is.map (fun i => ad.getD i 0)) wc) H.size) ((is.map (fun i => ad.getD i 0)).take n1) postc a) (va_A (aw_c G (is.map (fun i => ad.getD i 0)) wc) H.size))
    (hsel : is.map (fun i => w[i]?) = wc.map (fun x => some (aw_re is x))) (hchk : aw_chk w is wc n0 n1 lv st = true)
    (kk : ∀ (v : Option Value) (wc' : aw_W), postc v wc' → ∃ (w' : aw_W) (st' : List Value), aw_chk2 is wc' v = true ∧ aw_mf aw_e0 is (wc'.map (aw_re (aw_is w.length is wc'.length))) w 0 ++ (wc'.map (aw_re (aw_is w.length is wc'.length))).drop is.length = w' ∧ (v.map (aw_r (aw_is w.length is wc'.length))).toList ++ st = st' ∧ AW G M d mc ms n0 post (pc + 3) lv st' w') :
    W p G.1 e R s m args below meth c H locs cells slots (MQ below (aw_Q G A ad0 post) args s R.cells R.slots A) (F0 m pc ls st0) := by
  simp only [aw_chk, Bool.and_eq_true] at hchk
  obtain ⟨hok, hnd, hkw, hkl, hks, hn0, -, hn1⟩ := hchk
  have hn1 : n1 ≤ is.length := Nat.le_of_ble_eq_true hn1
  have hcut := aw_cut (G := G) hP.1 hsel hok
  have hF : ∀ q, va_A (aw_c G (is.map (fun i => ad.getD i 0)) wc) H.size q → A q := va_free hP.2.2 hS hA is hcut
  intro T hT XX
  obtain ⟨v0, st₀, t, T', L, e0, X', hL, e1, e2, ⟨⟨v, wc', ad', hv, hpo, htk, hPc⟩, hz, hk⟩, stp⟩ := hr T hT XX
  obtain rfl : v0 = v.map (aw_v G ad') := by simpa using hv
  rw [e0] at hz hk
  obtain ⟨w', st', hc2, ew, est, kA⟩ := kk v wc' hpo
  simp only [aw_chk2, Bool.and_eq_true] at hc2
  obtain ⟨hlen, hok', hvok⟩ := hc2
  have hlen : is.length ≤ wc'.length := Nat.le_of_ble_eq_true hlen
  have htk : ad'.take n1 = (is.map (fun i => ad.getD i 0)).take n1 := by
    rw [List.length_take, List.length_map, Nat.min_eq_left hn1] at htk
    exact htk
  have hkeep : ∀ i, i < w.length → i ∉ is → ∀ x, w[i]? = some x → aw_kpe w.length (is.drop n1) x = true := by
    intro i hi hni x hx
    exact aw_kf_ok w 0 hkw i x hx (by simpa using hni)
  have hPn := aw_joined (H1 := T'.heap) (n1 := n1) hP hsel hok hnd (fun q q1 q2 => by rw [e1]; exact hk q q1 q2) hF ⟨hPc.1, by rw [e1]; exact hPc.2.1, hPc.2.2⟩ htk hlen hok' hkeep
  rw [aw_mg_mf aw_e0, ew] at hPn
  have hlad : is.length ≤ ad'.length := by rw [hPc.1]; exact hlen
  have hstay := aw_stay (n1 := n1) hP.1 hsel hlad hnd htk
  have hlv : lv.map (aw_l G (aw_mg 0 ad is ad')) = lv.map (aw_l G ad) := List.map_congr_left fun q hq => by
    have := List.all_eq_true.mp hkl q hq
    simp only [aw_l]
    rw [aw_v_congr this hstay]
  have h0' : (aw_mg 0 ad is ad').take ad0.length = ad0 := by
    have hla : ad0.length ≤ ad.length := by
      have := congrArg List.length h0
      rw [List.length_take] at this
      omega
    rw [← h0]
    rw [List.length_take, Nat.min_eq_left hla]
    apply List.ext_getElem?
    intro k
    rw [List.getElem?_take, List.getElem?_take]
    split
    · rename_i hk9
      have hkw9 : k < w.length := by rw [← hP.1]; omega
      have hnk : k ∉ is.drop n1 := fun hm => by
        have := Nat.le_of_ble_eq_true (List.all_eq_true.mp hn0 k hm)
        omega
      have h9 := hstay k hkw9 hnk
      have l1 : k < ad.length := by omega
      have l2 : k < (aw_mg 0 ad is ad').length := by rw [aw_mg_len hlad]; omega
      rw [List.getElem?_eq_getElem l1, List.getElem?_eq_getElem l2]
      simpa [List.getD, l1, l2] using h9
    · rfl
  have hS' : va_S A s.heap T'.heap (locs ++ L) := ⟨Nat.le_trans hS.1 (by rw [e1]; exact hz), fun q q1 q2 => by
      rw [e1, hk q (Nat.lt_of_lt_of_le q1 hS.1) (fun z => q2 (hF q z))]
      exact hS.2.1 q q1 q2, fun q hq => by
      rcases List.mem_append.mp hq with h | h
      · exact hS.2.2 q h
      · exact hF _ (hL q h)⟩
  obtain ⟨t2, a1, b1⟩ := kA p e R s m args below meth c A ad0 (aw_mg 0 ad is ad') T'.heap (locs ++ L) (cells + mc1) (slots + ms1) ls X h0' h1 (by omega) (by omega) hPn hS' hA hE (by rw [hlv]; exact hl) T' rfl X'
  refine ⟨t2, stp t2 ?_, b1⟩
  have estk : st'.map (aw_v G (aw_mg 0 ad is ad')) = (v.map (aw_v G ad')).toList ++ st.map (aw_v G ad) := by
    rw [← est, List.map_append, aw_map_congr hks hstay]
    congr 1
    cases v with
    | none => rfl
    | some x =>
      have hisl : (aw_is w.length is wc'.length).length = wc'.length := by simp [aw_is]; omega
      have hcomp : (aw_is w.length is wc'.length).map (fun i => (aw_mg 0 ad is ad').getD i 0) = ad' := aw_comp hP.1 hsel hPc.1 hlen hnd
      simp only [Option.map_some, Option.toList_some, List.map_cons, List.map_nil]
      rw [aw_v_comp (by rw [hisl]; exact hvok), hcomp]
  rw [← estk]
  exact a1
def aw_L (own : String) (idx : Nat) (Mc : aw_M) (n : Nat) : Prop := Cond.methodLink own idx Mc.1 ∈ aw_T ∧ Cond.initialized Mc.1.cls ∈ aw_T ∧ Cond.code Mc.1 Mc.2.1 Mc.2.2.1 Mc.2.2.2 ∈ aw_T ∧ (Mc.1.cls ≠ "java/lang/invoke/MethodHandle" ∧ Mc.1.cls ≠ "java/lang/invoke/VarHandle" ∧ (parseMethodDescriptor Mc.1.desc).map (fun d => d.parameters.length) = some n) ∧ Mc.2.2.1 ≤ 21
theorem aw_pcs {A : Nat → Prop} {ad : List Nat} {vs vsc : List Value} (X : aw_X G M d p R s m args meth c) (hP : aw_P G A ad w H) (hS : va_S A s.heap H locs) (hA : ∀ q, s.heap.size ≤ q → A q) (hE : aw_E G A s s.heap) (hsel : is.map (fun i => w[i]?) = wc.map (fun x => some (aw_re is x))) (hok : wc.all (aw_oke is.length) = true) (hnd : va_nd is = true) (hvs : vs = vsc.map (aw_r is)) (hvok : vsc.all (aw_okv is.length) = true) :
    PreS s H (va_Pc (vsc.map (aw_v G (is.map (fun i => ad.getD i 0)))) (fun U => U.heap.size = H.size ∧ aw_K G U ∧ aw_P G (fun _ => True) (is.map (fun i => ad.getD i 0)) wc U.heap ∧ aw_E G (va_A (aw_c G (is.map (fun i => ad.getD i 0)) wc) H.size) U U.heap)) (vs.map (aw_v G ad)) := by
  have hcut := aw_cut (G := G) hP.1 hsel hok
  have hlen2 : is.length = wc.length := by have := congrArg List.length hsel; simpa using this
  refine ⟨fun a U g mk q => ?_, fun U hU hW => ⟨?_, by rw [hU], X.2.2.2.2.2.2.2.2.2.2.warm hW, ⟨by simpa using hlen2, ?_, ?_⟩, ?_⟩⟩
  · obtain ⟨q0, q1, q2, q3, q4⟩ := q
    exact ⟨q0, q1, aw_K.same rfl q2, q3, q4.moved (Vm.Alike.refl U.vm)⟩
  · rw [hvs, aw_map_comp hvok]
  · rw [hU]
    refine hP.2.1.sub is ?_
    have : is.filterMap (fun i => (aw_c G ad w)[i]?) = (is.map (fun i => (aw_c G ad w)[i]?)).filterMap id := by simp [List.filterMap_map, Function.comp_def]
    rw [this, hcut]
    simp [List.filterMap_map]
  · exact (hP.2.2.sub is hnd hcut).weaken (fun _ _ _ _ => trivial)
  · rw [hU]
    exact ((hE.kept hS.2.1).narrow (va_free hP.2.2 hS hA is hcut)).moved hW.alike
theorem aw_callB {idx n : Nat} {Mc : aw_M} (X : aw_X G M d p R s m args meth c) (hL : aw_L M.1.cls idx Mc n) (hd1 : d1 + 1 ≤ d) : CallB R s args M.1.cls idx Mc.1 Mc.2.1 Mc.2.2.1 Mc.2.2.2 (aw_ws Mc) (aw_R d1 mc1 ms1) mc1 ms1 n := by
  have hts := X.2.2.2.2.1
  have hfr := X.2.2.2.2.2.2.2.2.1
  have hlo := X.2.2.2.2.2.2.2.2.2.1
  have h21 := hL.2.2.2.2
  exact callB_of n hts (aw_good hL.2.2.1) rfl rfl rfl (hts _ hL.2.1) (hts _ hL.1) hL.2.2.2.1 ⟨by show d1 + 1 ≤ R.frames; omega, by show 8 + (Mc.2.2.1 + 11) + 40 * d1 ≤ R.locals; omega⟩
theorem aw_callS {idx n : Nat} {Mc : aw_M} {st0 As vsc : List Value} (hL : aw_L M.1.cls idx Mc n) (hstat : Cond.static Mc.1 ∈ aw_T) (hd1 : d1 + 1 ≤ d) (hC : AC G Mc d1 mc1 ms1 n1 vsc wc postc) (is : List Nat)
    (hvs : As = vsc.map (aw_r is)) (hvok : vsc.all (aw_okv is.length) = true) (hn : As.length = n) (hst : st0 = As.reverse ++ st) (hd : decode M.2.1 pc = .ok (.invokestatic idx, 3))
    (hsel : is.map (fun i => w[i]?) = wc.map (fun x => some (aw_re is x))) (hchk : aw_chk w is wc n0 n1 lv st = true)
    (kk : ∀ (v : Option Value) (wc' : aw_W), postc v wc' → ∃ (w' : aw_W) (st' : List Value), aw_chk2 is wc' v = true ∧ aw_mf aw_e0 is (wc'.map (aw_re (aw_is w.length is wc'.length))) w 0 ++ (wc'.map (aw_re (aw_is w.length is wc'.length))).drop is.length = w' ∧ (v.map (aw_r (aw_is w.length is wc'.length))).toList ++ st = st' ∧ AW G M d mc ms n0 post (pc + 3) lv st' w') : AW G M d (mc1 + mc) (ms1 + ms) n0 post pc lv st0 w := by
  intro p e R s m args below meth c A ad0 ad H locs cells slots ls X h0 h1 h2 h3 hP hS hA hE hl
  have hchk0 := hchk
  simp only [aw_chk, Bool.and_eq_true] at hchk0
  obtain ⟨hok, hnd, -, -, -, -, hsum, -⟩ := hchk0
  have hst2 : ((st.map (aw_v G ad)).map fun v => v.category).sum = (st.map fun v => v.category).sum := by simp [Function.comp_def, aw_cat]
  have hps := aw_pcs X hP hS hA hE hsel hok hnd hvs hvok
  refine aw_after (st0 := st0.map (aw_v G ad)) X h0 h1 h2 h3 hP hS hA hE hl (va_runS (As := As.map (aw_v G ad)) (n := n) ⟨X.1, X.2.1, X.2.2.1, X.2.2.2.1, X.2.2.2.2.1⟩ (hC (is.map (fun i => ad.getD i 0)) H.size) ⟨aw_callB X hL hd1, X.2.2.2.2.1 _ hstat⟩ hps rfl (by simpa using hn) hl.1 (by subst hst; simp) (lv_room (by rw [hst2]; exact Nat.le_of_ble_eq_true hsum)) hd ⟨by omega, by omega⟩) hsel hchk kk
theorem aw_callI {idx n q q0 : Nat} {Mc : aw_M} {st0 As vsc : List Value} (hL : aw_L M.1.cls idx Mc n) (hin : Cond.instanceMethod Mc.1 ∈ aw_T) (hnm : Mc.1.name = "<init>" ∧ Mc.2.2.2 = none) (hd1 : d1 + 1 ≤ d) (hC : AC G Mc d1 mc1 ms1 n1 (.ref q0 :: vsc) wc postc) (is : List Nat)
    (hvs : .ref q :: As = (Value.ref q0 :: vsc).map (aw_r is)) (hvok : (Value.ref q0 :: vsc).all (aw_okv is.length) = true) (hn : As.length = n) (hst : st0 = As.reverse ++ .ref q :: st) (hd : decode M.2.1 pc = .ok (.invokespecial idx, 3))
    (hsel : is.map (fun i => w[i]?) = wc.map (fun x => some (aw_re is x))) (hchk : aw_chk w is wc n0 n1 lv st = true)
    (kk : ∀ (v : Option Value) (wc' : aw_W), postc v wc' → ∃ (w' : aw_W) (st' : List Value), aw_chk2 is wc' v = true ∧ aw_mf aw_e0 is (wc'.map (aw_re (aw_is w.length is wc'.length))) w 0 ++ (wc'.map (aw_re (aw_is w.length is wc'.length))).drop is.length = w' ∧ (v.map (aw_r (aw_is w.length is wc'.length))).toList ++ st = st' ∧ AW G M d mc ms n0 post (pc + 3) lv st' w') : AW G M d (mc1 + mc) (ms1 + ms) n0 post pc lv st0 w := by
  intro p e R s m args below meth c A ad0 ad H locs cells slots ls X h0 h1 h2 h3 hP hS hA hE hl
  have hchk0 := hchk
  simp only [aw_chk, Bool.and_eq_true] at hchk0
  obtain ⟨hok, hnd, -, -, -, -, hsum, -⟩ := hchk0
  have hst2 : ((st.map (aw_v G ad)).map fun v => v.category).sum = (st.map fun v => v.category).sum := by simp [Function.comp_def, aw_cat]
  have hps := aw_pcs X hP hS hA hE hsel hok hnd hvs hvok
  have hcb := aw_callB (mc1 := mc1) (ms1 := ms1) X hL hd1
  rw [hnm.2] at hcb
  refine aw_after (st0 := st0.map (aw_v G ad)) X h0 h1 h2 h3 hP hS hA hE hl (va_runI (b := ad.getD q 0) (As := As.map (aw_v G ad)) (n := n) ⟨X.1, X.2.1, X.2.2.1, X.2.2.2.1, X.2.2.2.2.1⟩ (hC (is.map (fun i => ad.getD i 0)) H.size) ⟨hcb, hnm.1, X.2.2.2.2.1 _ hin⟩ hps rfl (by simpa using hn) hl.1 (by subst hst; simp [aw_v]) (lv_room (by rw [hst2]; exact Nat.le_of_ble_eq_true hsum)) hd ⟨by omega, by omega⟩) hsel hchk kk
theorem aw_callV {idx n q q0 ci : Nat} {Mc : aw_M} {st0 As vsc fs : List Value} (hL : aw_L M.1.cls idx Mc n) (hin : Cond.instanceMethod Mc.1 ∈ aw_T) (hse : Cond.selects Mc.1.cls Mc.1 Mc.1 ∈ aw_T) (hcl : ∃ (T0 : u_T) (N0 : Nat), classes[ci]? = some (Mc.1.cls, T0, N0)) (hd1 : d1 + 1 ≤ d) (hC : AC G Mc d1 mc1 ms1 n1 (.ref q0 :: vsc) wc postc) (is : List Nat)
    (hrc : w[q]? = some (.inr (ci, fs))) (hvs : .ref q :: As = (Value.ref q0 :: vsc).map (aw_r is)) (hvok : (Value.ref q0 :: vsc).all (aw_okv is.length) = true) (hn : As.length = n) (hst : st0 = As.reverse ++ .ref q :: st) (hd : decode M.2.1 pc = .ok (.invokevirtual idx, 3))
    (hsel : is.map (fun i => w[i]?) = wc.map (fun x => some (aw_re is x))) (hchk : aw_chk w is wc n0 n1 lv st = true)
    (kk : ∀ (v : Option Value) (wc' : aw_W), postc v wc' → ∃ (w' : aw_W) (st' : List Value), aw_chk2 is wc' v = true ∧ aw_mf aw_e0 is (wc'.map (aw_re (aw_is w.length is wc'.length))) w 0 ++ (wc'.map (aw_re (aw_is w.length is wc'.length))).drop is.length = w' ∧ (v.map (aw_r (aw_is w.length is wc'.length))).toList ++ st = st' ∧ AW G M d mc ms n0 post (pc + 3) lv st' w') : AW G M d (mc1 + mc) (ms1 + ms) n0 post pc lv st0 w := by
  intro p e R s m args below meth c A ad0 ad H locs cells slots ls X h0 h1 h2 h3 hP hS hA hE hl
  have hchk0 := hchk
  simp only [aw_chk, Bool.and_eq_true] at hchk0
  obtain ⟨hok, hnd, -, -, -, -, hsum, -⟩ := hchk0
  have hst2 : ((st.map (aw_v G ad)).map fun v => v.category).sum = (st.map fun v => v.category).sum := by simp [Function.comp_def, aw_cat]
  have hps := aw_pcs X hP hS hA hE hsel hok hnd hvs hvok
  obtain ⟨T0, N0, hc0⟩ := hcl
  have hrv := va_recv X.2.2.2.2.2.2.2.2.2.2.1 hP.2.1 hc0 (aw_c_get hP.1 hrc)
  refine aw_after (st0 := st0.map (aw_v G ad)) X h0 h1 h2 h3 hP hS hA hE hl (va_runV (b := ad.getD q 0) (As := As.map (aw_v G ad)) (n := n) (C := Mc.1.cls) ⟨X.1, X.2.1, X.2.2.1, X.2.2.2.1, X.2.2.2.2.1⟩ (hC (is.map (fun i => ad.getD i 0)) H.size) ⟨aw_callB X hL hd1, X.2.2.2.2.1 _ hin, X.2.2.2.2.1 _ hse⟩ ⟨hps.1, hrv, hps.2⟩ rfl (by simpa using hn) hl.1 (by subst hst; simp [aw_v]) (lv_room (by rw [hst2]; exact Nat.le_of_ble_eq_true hsum)) hd ⟨by omega, by omega⟩) hsel hchk kk

/-- calls on the whole world, and calls that need none of it -/
theorem aw_self {ad : List Nat} {A : Nat → Prop} (hP : aw_P G A ad w H) (hS : va_S A s.heap H locs) (hA : ∀ q, s.heap.size ≤ q → A q) : ∀ q, va_A (aw_c G ad w) H.size q → A q := by
  intro q hq
  rcases hq with ⟨k, e, h⟩ | h
  · exact hP.2.2.2 k (q, e) h
  · exact hA q (Nat.le_trans hS.1 h)
theorem aw_pre {A : Nat → Prop} {adc : List Nat} {vs : List Value} {wc : aw_W} (X : aw_X G M d p R s m args meth c) (hS : va_S A s.heap H locs) (hE : aw_E G A s s.heap) (hl : adc.length = wc.length) (hP : va_P G.2.1 classes (aw_c G adc wc) H) (hD : va_D A (aw_c G adc wc)) (hF : ∀ q, va_A (aw_c G adc wc) H.size q → A q) :
    PreS s H (va_Pc (vs.map (aw_v G adc)) (fun U => U.heap.size = H.size ∧ aw_K G U ∧ aw_P G (fun _ => True) adc wc U.heap ∧ aw_E G (va_A (aw_c G adc wc) H.size) U U.heap)) (vs.map (aw_v G adc)) := by
  refine ⟨fun a U g mk q => ?_, fun U hU hW => ⟨rfl, by rw [hU], X.2.2.2.2.2.2.2.2.2.2.warm hW, ⟨hl, by rw [hU]; exact hP, hD.weaken (fun _ _ _ _ => trivial)⟩, by rw [hU]; exact ((hE.kept hS.2.1).narrow hF).moved hW.alike⟩⟩
  obtain ⟨q0, q1, q2, q3, q4⟩ := q
  exact ⟨q0, q1, aw_K.same rfl q2, q3, q4.moved (Vm.Alike.refl U.vm)⟩
def aw_chkT (n : Nat) (lv : List (Nat × Value)) (st : List Value) : Bool := (lv.all fun q => aw_okv n q.2) && (st.all (aw_okv n) && Nat.ble (st.map fun v => v.category).sum 8)
theorem aw_v_ext {ad ad' : List Nat} {n : Nat} {v : Value} (hn : ad.length = n) (h : ad'.take n = ad) (hv : aw_okv n v = true) : aw_v G ad' v = aw_v G ad v := by
  cases v with
  | ref k =>
    have hk : k < n := by simpa [aw_okv] using hv
    have e : ad'[k]? = ad[k]? := by rw [← h, List.getElem?_take]; simp [hk]
    simp [aw_v, List.getD, e]
  | _ => rfl
theorem aw_callVT {idx n q ci : Nat} {Mc : aw_M} {st0 As fs : List Value} (hL : aw_L M.1.cls idx Mc n) (hin : Cond.instanceMethod Mc.1 ∈ aw_T) (hse : Cond.selects Mc.1.cls Mc.1 Mc.1 ∈ aw_T) (hcl : ∃ (T0 : u_T) (N0 : Nat), classes[ci]? = some (Mc.1.cls, T0, N0)) (hd1 : d1 + 1 ≤ d) (hC : AC G Mc d1 mc1 ms1 n1 (.ref q :: As) w postc)
    (hn1 : w.length ≤ n1) (hrc : w[q]? = some (.inr (ci, fs))) (hn : As.length = n) (hst : st0 = As.reverse ++ .ref q :: st) (hd : decode M.2.1 pc = .ok (.invokevirtual idx, 3)) (hchk : aw_chkT w.length lv st = true)
    (kk : ∀ (v : Option Value) (w' : aw_W), postc v w' → AW G M d mc ms n0 post (pc + 3) lv (v.toList ++ st) w') : AW G M d (mc1 + mc) (ms1 + ms) n0 post pc lv st0 w := by
  intro p e R s m args below meth c A ad0 ad H locs cells slots ls X h0 h1 h2 h3 hP hS hA hE hl
  simp only [aw_chkT, Bool.and_eq_true] at hchk
  obtain ⟨hokl, hoks, hsum⟩ := hchk
  have hF := aw_self hP hS hA
  have hps := aw_pre (vs := .ref q :: As) X hS hE hP.1 hP.2.1 hP.2.2 hF
  obtain ⟨T0, N0, hc0⟩ := hcl
  have hrv := va_recv X.2.2.2.2.2.2.2.2.2.2.1 hP.2.1 hc0 (aw_c_get hP.1 hrc)
  have hst2 : ((st.map (aw_v G ad)).map fun v => v.category).sum = (st.map fun v => v.category).sum := by simp [Function.comp_def, aw_cat]
  have hr := va_runV (p := p) (e := e) (R := R) (below := below) (meth := meth) (locs := locs) (cells := cells) (slots := slots) (g := F0 m pc ls (st0.map (aw_v G ad))) (rest := st.map (aw_v G ad)) (b := ad.getD q 0) (As := As.map (aw_v G ad)) (n := n) (C := Mc.1.cls) ⟨X.1, X.2.1, X.2.2.1, X.2.2.2.1, X.2.2.2.2.1⟩ (hC ad H.size) ⟨aw_callB X hL hd1, X.2.2.2.2.1 _ hin, X.2.2.2.2.1 _ hse⟩ ⟨hps.1, hrv, hps.2⟩ rfl (by simpa using hn) hl.1 (by subst hst; simp [aw_v]) (lv_room (by rw [hst2]; exact Nat.le_of_ble_eq_true hsum)) hd ⟨by omega, by omega⟩
  intro T hT XX
  obtain ⟨v0, st₀, t, T', L, e0, X', hL', e1, e2, ⟨⟨v, w', ad', hv, hpo, htk, hPc⟩, hz, hk⟩, stp⟩ := hr T hT XX
  obtain rfl : v0 = v.map (aw_v G ad') := by simpa using hv
  rw [e0] at hz hk
  have hla : ad.take n1 = ad := List.take_of_length_le (by rw [hP.1]; exact hn1)
  rw [hla] at htk
  have hPn : aw_P G A ad' w' T'.heap := ⟨hPc.1, by rw [e1]; exact hPc.2.1, hPc.2.2.weaken (fun _ x _ h => hF x.1 h)⟩
  have hS' : va_S A s.heap T'.heap (locs ++ L) := ⟨Nat.le_trans hS.1 (by rw [e1]; exact hz), fun q q1 q2 => by
      rw [e1, hk q (Nat.lt_of_lt_of_le q1 hS.1) (fun z => q2 (hF q z))]
      exact hS.2.1 q q1 q2, fun q hq => by
      rcases List.mem_append.mp hq with h | h
      · exact hS.2.2 q h
      · exact hF _ (hL' q h)⟩
  have hlv : lv.map (aw_l G ad') = lv.map (aw_l G ad) := List.map_congr_left fun z hz => by
    simp only [aw_l]; rw [aw_v_ext hP.1 (by rw [← hP.1]; exact htk) (List.all_eq_true.mp hokl z hz)]
  have hsv : st.map (aw_v G ad') = st.map (aw_v G ad) := List.map_congr_left fun z hz => aw_v_ext hP.1 (by rw [← hP.1]; exact htk) (List.all_eq_true.mp hoks z hz)
  have h0' : ad'.take ad0.length = ad0 := by
    have hla2 : ad0.length ≤ ad.length := by
      have := congrArg List.length h0
      rw [List.length_take] at this
      omega
    have := congrArg (List.take ad0.length) htk
    rw [List.take_take, Nat.min_eq_left hla2] at this
    rw [this]; exact h0
  obtain ⟨t2, a1, b1⟩ := kk v w' hpo p e R s m args below meth c A ad0 ad' T'.heap (locs ++ L) (cells + mc1) (slots + ms1) ls X h0' h1 (by omega) (by omega) hPn hS' hA hE (by rw [hlv]; exact hl) T' rfl X'
  refine ⟨t2, stp t2 ?_, b1⟩
  have estk : (v.toList ++ st).map (aw_v G ad') = (v.map (aw_v G ad')).toList ++ st.map (aw_v G ad) := by
    rw [List.map_append, hsv]
    cases v <;> rfl
  rw [← estk]
  exact a1
theorem aw_callST {idx n : Nat} {Mc : aw_M} {st0 As : List Value} (hL : aw_L M.1.cls idx Mc n) (hstat : Cond.static Mc.1 ∈ aw_T) (hd1 : d1 + 1 ≤ d) (hC : AC G Mc d1 0 0 0 As [] postc)
    (hvok : As.all (aw_okv 0) = true) (hn : As.length = n) (hst : st0 = As.reverse ++ st) (hd : decode M.2.1 pc = .ok (.invokestatic idx, 3)) (hsum : Nat.ble (st.map fun v => v.category).sum 8 = true)
    (kk : ∀ (v : Option Value) (w' : aw_W), postc v w' → w' = [] ∧ (∀ x, v = some x → aw_okv 0 x = true) ∧ AW G M d mc ms n0 post (pc + 3) lv (v.toList ++ st) w) : AW G M d mc ms n0 post pc lv st0 w := by
  intro p e R s m args below meth c A ad0 ad H locs cells slots ls X h0 h1 h2 h3 hP hS hA hE hl
  have hnoref : ∀ (a1 a2 : List Nat) (v : Value), aw_okv 0 v = true → aw_v G a1 v = aw_v G a2 v := by
    intro a1 a2 v h
    cases v with
    | ref k => simp [aw_okv] at h
    | _ => rfl
  have hAs : As.map (aw_v G ad) = As.map (aw_v G []) := List.map_congr_left fun v hv => hnoref _ _ v (List.all_eq_true.mp hvok v hv)
  have hF : ∀ q, va_A (aw_c G [] []) H.size q → A q := by
    intro q hq
    rcases hq with ⟨k, e, h⟩ | h
    · simp [aw_c] at h
    · exact hA q (Nat.le_trans hS.1 h)
  have hps := aw_pre (adc := []) (wc := []) (vs := As) X hS hE rfl (fun k q h => by simp [aw_c] at h) ⟨fun i j p q h => by simp [aw_c] at h, fun k q h => by simp [aw_c] at h⟩ hF
  have hst2 : ((st.map (aw_v G ad)).map fun v => v.category).sum = (st.map fun v => v.category).sum := by simp [Function.comp_def, aw_cat]
  have hr := va_runS (p := p) (e := e) (R := R) (below := below) (meth := meth) (locs := locs) (cells := cells) (slots := slots) (g := F0 m pc ls (st0.map (aw_v G ad))) (rest := st.map (aw_v G ad)) (As := As.map (aw_v G [])) (n := n) ⟨X.1, X.2.1, X.2.2.1, X.2.2.2.1, X.2.2.2.2.1⟩ (hC [] H.size) ⟨aw_callB X hL hd1, X.2.2.2.2.1 _ hstat⟩ hps rfl (by simpa using hn) hl.1 (by rw [← hAs]; subst hst; simp) (lv_room (by rw [hst2]; exact Nat.le_of_ble_eq_true hsum)) hd ⟨by omega, by omega⟩
  intro T hT XX
  obtain ⟨v0, st₀, t, T', L, e0, X', hL', e1, e2, ⟨⟨v, w', ad', hv, hpo, -, hPc⟩, hz, hk⟩, stp⟩ := hr T hT XX
  obtain rfl : v0 = v.map (aw_v G ad') := by simpa using hv
  rw [e0] at hz hk
  obtain ⟨-, hvv, kA⟩ := kk v w' hpo
  have hk2 : ∀ (k : Nat) (x : Nat × va_E), (aw_c G ad w)[k]? = some x → T'.heap[x.1]? = H[x.1]? := by
    intro k x hx
    have hlt := (hP.2.1 k x hx).lt
    rw [e1]
    refine hk x.1 hlt (fun z => ?_)
    rcases z with ⟨k2, e9, h⟩ | h
    · simp [aw_c] at h
    · omega
  have hPn : aw_P G A ad w T'.heap := ⟨hP.1, hP.2.1.kept hk2, hP.2.2⟩
  have hS' : va_S A s.heap T'.heap (locs ++ L) := ⟨Nat.le_trans hS.1 (by rw [e1]; exact hz), fun q q1 q2 => by
      rw [e1, hk q (Nat.lt_of_lt_of_le q1 hS.1) (fun z => q2 (hF q z))]
      exact hS.2.1 q q1 q2, fun q hq => by
      rcases List.mem_append.mp hq with h | h
      · exact hS.2.2 q h
      · exact hF _ (hL' q h)⟩
  obtain ⟨t2, a1, b1⟩ := kA p e R s m args below meth c A ad0 ad T'.heap (locs ++ L) (cells + 0) (slots + 0) ls X h0 h1 (by omega) (by omega) hPn hS' hA hE hl T' rfl X'
  refine ⟨t2, stp t2 ?_, b1⟩
  have estk : (v.toList ++ st).map (aw_v G ad) = (v.map (aw_v G ad')).toList ++ st.map (aw_v G ad) := by
    rw [List.map_append]
    cases v with
    | none => rfl
    | some x => simp only [Option.map_some, Option.toList_some, List.map_cons, List.map_nil]; rw [hnoref ad ad' x (hvv x rfl)]
  rw [← estk]
  exact a1
end AwCalls

