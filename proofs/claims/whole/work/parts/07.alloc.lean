
section AwAlloc
variable {p : Program} {e : Env} {R : Room} {s : State} {m : MethodId} {args : Array Value} {below : List Frame} {meth : Method} {c : Code} {H : Heap} {locs : List Loc} {cells slots : Nat}
variable {G : aw_G} {M : aw_M} {d mc ms n0 pc : Nat} {lv : List (Nat × Value)} {st : List Value} {w : aw_W} {post : Option Value → aw_W → Prop} {is : List Nat} {wc : aw_W} {n1 mc1 ms1 d1 : Nat} {postc : Option Value → aw_W → Prop}
theorem aw_v_push {ad : List Nat} {q n : Nat} {v : Value} (hn : n = ad.length) (h : aw_okv n v = true) : aw_v G (ad ++ [q]) v = aw_v G ad v := by
  cases v with
  | ref k =>
    have hk : k < ad.length := by rw [← hn]; simpa [aw_okv] using h
    simp [aw_v, List.getD, List.getElem?_append_left hk]
  | _ => rfl
theorem aw_map_push {ad : List Nat} {q n : Nat} {vs : List Value} (hn : n = ad.length) (h : vs.all (aw_okv n) = true) : vs.map (aw_v G (ad ++ [q])) = vs.map (aw_v G ad) := List.map_congr_left fun v hv => aw_v_push hn (List.all_eq_true.mp h v hv)
theorem aw_e_push {ad : List Nat} {q n : Nat} {x : va_E} (hn : n = ad.length) (h : aw_oke n x = true) : aw_e G (ad ++ [q]) x = aw_e G ad x := by
  cases x with
  | inl a => rfl
  | inr o => simp only [aw_e]; rw [aw_map_push hn h]
theorem aw_c_push {ad : List Nat} {q : Nat} {x : va_E} (h : ad.length = w.length) (hok : w.all (aw_oke w.length) = true) : aw_c G (ad ++ [q]) (w ++ [x]) = aw_c G ad w ++ [(q, aw_e G (ad ++ [q]) x)] := by
  unfold aw_c
  rw [List.zip_append h, List.map_append]
  congr 1
  apply List.map_congr_left
  intro y hy
  have := List.of_mem_zip hy
  rw [aw_e_push h.symm (List.all_eq_true.mp hok _ this.2)]
def aw_chkA (w : aw_W) (lv : List (Nat × Value)) (st : List Value) : Bool := w.all (aw_oke w.length) && ((lv.all fun q => aw_okv w.length q.2) && st.all (aw_okv w.length))
theorem aw_take_push {ad ad0 : List Nat} {q : Nat} (h0 : ad.take ad0.length = ad0) : (ad ++ [q]).take ad0.length = ad0 := by
  have hla : ad0.length ≤ ad.length := by
    have := congrArg List.length h0
    rw [List.length_take] at this
    omega
  rw [List.take_append_of_le_length hla]
  exact h0

theorem aw_newa_int {N' q : Nat} {w' : aw_W} {n : Int32} (harr : Cond.arrayClass .int ∈ aw_T) (hn : ¬ n < 0) (hN : n.toNatClampNeg = N') (hby : N' ≤ 100000) (hchk : aw_chkA w lv st = true) (hq : w.length = q) (hw : w ++ [.inl (G.2.2.1, N', .inl (fun _ => 0))] = w') (hd : decode M.2.1 pc = .ok (.newarray .int, 2)) (kk : AW G M d mc ms n0 post (pc + 2) lv (.ref q :: st) w') : AW G M d (1 + mc) (N' + ms) n0 post pc lv (.int n :: st) w := by
  intro p e R s m args below meth c A ad0 ad H locs cells slots ls X h0 h1 h2 h3 hP hS hA hE hl
  subst hw; subst hq
  simp only [aw_chkA, Bool.and_eq_true] at hchk
  obtain ⟨hok, hokl, hoks⟩ := hchk
  have hb8 : N' * componentBytes .int ≤ 536870912 := Nat.le_trans (Nat.mul_le_mul_left _ (show componentBytes .int ≤ 8 by decide)) (by omega)
  refine va_newa (atype := .int) (N' := N') (a0 := (N', .inl (fun _ => 0))) X.1 X.2.1 (ty := .int) (X.2.2.2.2.1 _ harr) rfl X.2.2.2.2.2.2.2.2.2.2.1 hP.2.1 hP.2.2 hS hA (fun cA => rfl) hn hN hb8 (by omega) (by omega) hd (fun q cA H hK' hP' hD' hS => ?_)
  have hcA : cA = G.2.2.1 := by
    have g1 := (hK'.2 3 (cA, .int) rfl).2
    have g2 := (X.2.2.2.2.2.2.2.2.2.2.1.2 0 (G.2.2.1, .int) rfl).2
    exact Option.some.inj (g1.symm.trans g2)
  subst hcA
  have e1 := aw_c_push (G := G) (ad := ad) (w := w) (q := q) (x := .inl (G.2.2.1, N', .inl (fun _ => 0))) hP.1 hok
  have hwl : (ad ++ [q]).getD w.length 0 = q := by rw [← hP.1]; simp [List.getD]
  have hP2 : aw_P G A (ad ++ [q]) (w ++ [.inl (G.2.2.1, N', .inl (fun _ => 0))]) H := ⟨by simp [hP.1], by rw [e1]; exact hP', by rw [e1]; exact hD'⟩
  have hl2 : lv.map (aw_l G (ad ++ [q])) = lv.map (aw_l G ad) := List.map_congr_left fun z hz => by
    simp only [aw_l]; rw [aw_v_push hP.1.symm (List.all_eq_true.mp hokl z hz)]
  have := kk p e R s m args below meth c A ad0 (ad ++ [q]) H locs (cells + 1) (slots + N') ls X (aw_take_push h0) h1 (by omega) (by omega) hP2 hS hA hE (by rw [hl2]; exact hl)
  rw [List.map_cons, aw_map_push hP.1.symm hoks] at this
  simp only [aw_v, hwl] at this
  exact this
theorem aw_newa_byte {N' q : Nat} {w' : aw_W} {n : Int32} (harr : Cond.arrayClass .byte ∈ aw_T) (hn : ¬ n < 0) (hN : n.toNatClampNeg = N') (hby : N' ≤ 100000) (hchk : aw_chkA w lv st = true) (hq : w.length = q) (hw : w ++ [.inl (G.2.2.2.1, N', .inl (fun _ => 0))] = w') (hd : decode M.2.1 pc = .ok (.newarray .byte, 2)) (kk : AW G M d mc ms n0 post (pc + 2) lv (.ref q :: st) w') : AW G M d (1 + mc) (N' + ms) n0 post pc lv (.int n :: st) w := by
  intro p e R s m args below meth c A ad0 ad H locs cells slots ls X h0 h1 h2 h3 hP hS hA hE hl
  subst hw; subst hq
  simp only [aw_chkA, Bool.and_eq_true] at hchk
  obtain ⟨hok, hokl, hoks⟩ := hchk
  have hb8 : N' * componentBytes .byte ≤ 536870912 := Nat.le_trans (Nat.mul_le_mul_left _ (show componentBytes .byte ≤ 8 by decide)) (by omega)
  refine va_newa (atype := .byte) (N' := N') (a0 := (N', .inl (fun _ => 0))) X.1 X.2.1 (ty := .byte) (X.2.2.2.2.1 _ harr) rfl X.2.2.2.2.2.2.2.2.2.2.1 hP.2.1 hP.2.2 hS hA (fun cA => rfl) hn hN hb8 (by omega) (by omega) hd (fun q cA H hK' hP' hD' hS => ?_)
  have hcA : cA = G.2.2.2.1 := by
    have g1 := (hK'.2 3 (cA, .byte) rfl).2
    have g2 := (X.2.2.2.2.2.2.2.2.2.2.1.2 1 (G.2.2.2.1, .byte) rfl).2
    exact Option.some.inj (g1.symm.trans g2)
  subst hcA
  have e1 := aw_c_push (G := G) (ad := ad) (w := w) (q := q) (x := .inl (G.2.2.2.1, N', .inl (fun _ => 0))) hP.1 hok
  have hwl : (ad ++ [q]).getD w.length 0 = q := by rw [← hP.1]; simp [List.getD]
  have hP2 : aw_P G A (ad ++ [q]) (w ++ [.inl (G.2.2.2.1, N', .inl (fun _ => 0))]) H := ⟨by simp [hP.1], by rw [e1]; exact hP', by rw [e1]; exact hD'⟩
  have hl2 : lv.map (aw_l G (ad ++ [q])) = lv.map (aw_l G ad) := List.map_congr_left fun z hz => by
    simp only [aw_l]; rw [aw_v_push hP.1.symm (List.all_eq_true.mp hokl z hz)]
  have := kk p e R s m args below meth c A ad0 (ad ++ [q]) H locs (cells + 1) (slots + N') ls X (aw_take_push h0) h1 (by omega) (by omega) hP2 hS hA hE (by rw [hl2]; exact hl)
  rw [List.map_cons, aw_map_push hP.1.symm hoks] at this
  simp only [aw_v, hwl] at this
  exact this
theorem aw_newa_boolean {N' q : Nat} {w' : aw_W} {n : Int32} (harr : Cond.arrayClass .boolean ∈ aw_T) (hn : ¬ n < 0) (hN : n.toNatClampNeg = N') (hby : N' ≤ 100000) (hchk : aw_chkA w lv st = true) (hq : w.length = q) (hw : w ++ [.inl (G.2.2.2.2.1, N', .inl (fun _ => 0))] = w') (hd : decode M.2.1 pc = .ok (.newarray .boolean, 2)) (kk : AW G M d mc ms n0 post (pc + 2) lv (.ref q :: st) w') : AW G M d (1 + mc) (N' + ms) n0 post pc lv (.int n :: st) w := by
  intro p e R s m args below meth c A ad0 ad H locs cells slots ls X h0 h1 h2 h3 hP hS hA hE hl
  subst hw; subst hq
  simp only [aw_chkA, Bool.and_eq_true] at hchk
  obtain ⟨hok, hokl, hoks⟩ := hchk
  have hb8 : N' * componentBytes .boolean ≤ 536870912 := Nat.le_trans (Nat.mul_le_mul_left _ (show componentBytes .boolean ≤ 8 by decide)) (by omega)
  refine va_newa (atype := .boolean) (N' := N') (a0 := (N', .inl (fun _ => 0))) X.1 X.2.1 (ty := .boolean) (X.2.2.2.2.1 _ harr) rfl X.2.2.2.2.2.2.2.2.2.2.1 hP.2.1 hP.2.2 hS hA (fun cA => rfl) hn hN hb8 (by omega) (by omega) hd (fun q cA H hK' hP' hD' hS => ?_)
  have hcA : cA = G.2.2.2.2.1 := by
    have g1 := (hK'.2 3 (cA, .boolean) rfl).2
    have g2 := (X.2.2.2.2.2.2.2.2.2.2.1.2 2 (G.2.2.2.2.1, .boolean) rfl).2
    exact Option.some.inj (g1.symm.trans g2)
  subst hcA
  have e1 := aw_c_push (G := G) (ad := ad) (w := w) (q := q) (x := .inl (G.2.2.2.2.1, N', .inl (fun _ => 0))) hP.1 hok
  have hwl : (ad ++ [q]).getD w.length 0 = q := by rw [← hP.1]; simp [List.getD]
  have hP2 : aw_P G A (ad ++ [q]) (w ++ [.inl (G.2.2.2.2.1, N', .inl (fun _ => 0))]) H := ⟨by simp [hP.1], by rw [e1]; exact hP', by rw [e1]; exact hD'⟩
  have hl2 : lv.map (aw_l G (ad ++ [q])) = lv.map (aw_l G ad) := List.map_congr_left fun z hz => by
    simp only [aw_l]; rw [aw_v_push hP.1.symm (List.all_eq_true.mp hokl z hz)]
  have := kk p e R s m args below meth c A ad0 (ad ++ [q]) H locs (cells + 1) (slots + N') ls X (aw_take_push h0) h1 (by omega) (by omega) hP2 hS hA hE (by rw [hl2]; exact hl)
  rw [List.map_cons, aw_map_push hP.1.symm hoks] at this
  simp only [aw_v, hwl] at this
  exact this
theorem aw_new {idx ci q N : Nat} {C : String} {T : u_T} {ty : Nat → FieldType} {fs : List Value} {w' : aw_W} (hC : aw_C ci C T N ty) (hcl : Cond.classLink M.1.cls idx C ∈ aw_T) (hins : Cond.instantiable C N ∈ aw_T) (hini : Cond.initialized C ∈ aw_T) (hfs : ∀ j, j < N → defaultValue (ty j) = vp_V fs j) (hre : ∀ ad : List Nat, aw_e G ad (.inr (ci, fs)) = .inr (ci, fs)) (hchk : aw_chkA w lv st = true) (hq : w.length = q) (hw : w ++ [.inr (ci, fs)] = w') (hd : decode M.2.1 pc = .ok (.new idx, 3)) (kk : AW G M d mc ms n0 post (pc + 3) lv (.ref q :: st) w') : AW G M d (1 + mc) (N + ms) n0 post pc lv st w := by
  intro p e R s m args below meth c A ad0 ad H locs cells slots ls X h0 h1 h2 h3 hP hS hA hE hl
  subst hw; subst hq
  simp only [aw_chkA, Bool.and_eq_true] at hchk
  obtain ⟨hok, hokl, hoks⟩ := hchk
  have hts := X.2.2.2.2.1
  refine va_new (fs := fs) X.1 X.2.1 hts hC.2.1 ty hC.2.2.1 X.2.2.2.1 (hts _ hcl) (hts _ hins) (hts _ hini) X.2.2.2.2.2.2.2.2.2.2.1 hP.2.1 hP.2.2 hS hA hC.1 hfs (by omega) (by omega) hd (fun q H hP' hD' hS => ?_)
  have e1 := aw_c_push (G := G) (ad := ad) (w := w) (q := q) (x := .inr (ci, fs)) hP.1 hok
  rw [hre] at e1
  have hwl : (ad ++ [q]).getD w.length 0 = q := by rw [← hP.1]; simp [List.getD]
  have hP2 : aw_P G A (ad ++ [q]) (w ++ [.inr (ci, fs)]) H := ⟨by simp [hP.1], by rw [e1]; exact hP', by rw [e1]; exact hD'⟩
  have hl2 : lv.map (aw_l G (ad ++ [q])) = lv.map (aw_l G ad) := List.map_congr_left fun z hz => by
    simp only [aw_l]; rw [aw_v_push hP.1.symm (List.all_eq_true.mp hokl z hz)]
  have := kk p e R s m args below meth c A ad0 (ad ++ [q]) H locs (cells + 1) (slots + N) ls X (aw_take_push h0) h1 (by omega) (by omega) hP2 hS hA hE (by rw [hl2]; exact hl)
  rw [List.map_cons, aw_map_push hP.1.symm hoks] at this
  simp only [aw_v, hwl] at this
  exact this
def aw_chkP (is : List Nat) (w' : aw_W) (lv' : List (Nat × Value)) (st' : List Value) (n0 : Nat) : Bool := w'.all (aw_oke is.length) && (va_nd is && ((lv'.all fun q => aw_okv is.length q.2) && (st'.all (aw_okv is.length) && decide (is.take n0 = List.range n0))))
theorem aw_pick (is : List Nat) {lv' : List (Nat × Value)} {st' : List Value} {w' : aw_W} (hsel : is.map (fun i => w[i]?) = w'.map (fun x => some (aw_re is x))) (hlv : lv = lv'.map (fun q => (q.1, aw_r is q.2))) (hst : st = st'.map (aw_r is)) (hchk : aw_chkP is w' lv' st' n0 = true) (kk : AW G M d mc ms n0 post pc lv' st' w') : AW G M d mc ms n0 post pc lv st w := by
  intro p e R s m args below meth c A ad0 ad H locs cells slots ls X h0 h1 h2 h3 hP hS hA hE hl
  simp only [aw_chkP, Bool.and_eq_true, decide_eq_true_eq] at hchk
  obtain ⟨hok, hnd, hokl, hoks, htk⟩ := hchk
  subst hlv; subst hst
  have hcut := aw_cut (G := G) hP.1 hsel hok
  have hlen2 : is.length = w'.length := by have := congrArg List.length hsel; simpa using this
  have hP2 : aw_P G A (is.map (fun i => ad.getD i 0)) w' H := by
    refine ⟨by simpa using hlen2, ?_, hP.2.2.sub is hnd hcut⟩
    refine hP.2.1.sub is ?_
    have : is.filterMap (fun i => (aw_c G ad w)[i]?) = (is.map (fun i => (aw_c G ad w)[i]?)).filterMap id := by simp [List.filterMap_map, Function.comp_def]
    rw [this, hcut]
    simp [List.filterMap_map]
  have hla : ad0.length ≤ ad.length := by
    have := congrArg List.length h0
    rw [List.length_take] at this
    omega
  have h02 : (is.map (fun i => ad.getD i 0)).take ad0.length = ad0 := by
    rw [← List.map_take]
    have e1 : is.take ad0.length = List.range ad0.length := by
      have := congrArg (List.take ad0.length) htk
      rw [List.take_take, Nat.min_eq_left h1, List.take_range, Nat.min_eq_left h1] at this
      exact this
    rw [e1]
    conv => rhs; rw [← h0]
    apply List.ext_getElem?
    intro k
    rw [List.getElem?_map, List.getElem?_take]
    by_cases hk : k < ad0.length
    · have hk2 : k < ad.length := by omega
      simp [hk, List.getElem?_range, List.getD, hk2]
    · simp [hk]
  have hl2 : (lv'.map (fun q => (q.1, aw_r is q.2))).map (aw_l G ad) = lv'.map (aw_l G (is.map (fun i => ad.getD i 0))) := by
    rw [List.map_map]
    exact List.map_congr_left fun z hz => by
      simp only [Function.comp, aw_l]; rw [aw_v_comp (List.all_eq_true.mp hokl z hz)]
  have := kk p e R s m args below meth c A ad0 (is.map (fun i => ad.getD i 0)) H locs cells slots ls X h02 h1 h2 h3 hP2 hS hA hE (by rw [← hl2]; exact hl)
  rw [aw_map_comp hoks]
  exact this
theorem aw_callIN {idx n q q0 : Nat} {host : String} {Mc : aw_M} {st0 As vsc : List Value} (hne : (M.1.cls, idx, Mc.1, host) ∈ aw_nests) (hini : Cond.initialized Mc.1.cls ∈ aw_T) (hco : Cond.code Mc.1 Mc.2.1 Mc.2.2.1 Mc.2.2.2 ∈ aw_T) (hpd : Mc.1.cls ≠ "java/lang/invoke/MethodHandle" ∧ Mc.1.cls ≠ "java/lang/invoke/VarHandle" ∧ (parseMethodDescriptor Mc.1.desc).map (fun d => d.parameters.length) = some n) (h21 : Mc.2.2.1 ≤ 21) (hin : Cond.instanceMethod Mc.1 ∈ aw_T) (hnm : Mc.1.name = "<init>" ∧ Mc.2.2.2 = none) (hd1 : d1 + 1 ≤ d) (hC : AC G Mc d1 mc1 ms1 n1 (.ref q0 :: vsc) wc postc) (is : List Nat)
    (hvs : .ref q :: As = (Value.ref q0 :: vsc).map (aw_r is)) (hvok : (Value.ref q0 :: vsc).all (aw_okv is.length) = true) (hn : As.length = n) (hst : st0 = As.reverse ++ .ref q :: st) (hd : decode M.2.1 pc = .ok (.invokespecial idx, 3))
    (hsel : is.map (fun i => w[i]?) = wc.map (fun x => some (aw_re is x))) (hchk : aw_chk w is wc n0 n1 lv st = true)
    (kk : ∀ (v : Option Value) (wc' : aw_W), postc v wc' → ∃ (w' : aw_W) (st' : List Value), aw_chk2 is wc' v = true ∧ aw_mf aw_e0 is (wc'.map (aw_re (aw_is w.length is wc'.length))) w 0 ++ (wc'.map (aw_re (aw_is w.length is wc'.length))).drop is.length = w' ∧ (v.map (aw_r (aw_is w.length is wc'.length))).toList ++ st = st' ∧ AW G M d mc ms n0 post (pc + 3) lv st' w') : AW G M d (mc1 + mc) (ms1 + ms) n0 post pc lv st0 w := by
  intro p e R s m args below meth c A ad0 ad H locs cells slots ls X h0 h1 h2 h3 hP hS hA hE hl
  have hchk0 := hchk
  simp only [aw_chk, Bool.and_eq_true] at hchk0
  obtain ⟨hok, hnd, -, -, -, -, hsum, -⟩ := hchk0
  have hst2 : ((st.map (aw_v G ad)).map fun v => v.category).sum = (st.map fun v => v.category).sum := by simp [Function.comp_def, aw_cat]
  have hps := aw_pcs X hP hS hA hE hsel hok hnd hvs hvok
  have hts := X.2.2.2.2.1
  have hfr := X.2.2.2.2.2.2.2.2.1
  have hlo := X.2.2.2.2.2.2.2.2.2.1
  have hcb := va_cnB (mc := mc1) (ms := ms1) (rm := aw_R d1 mc1 ms1) (R := R) (host := host) n hts (aw_good hco) rfl rfl rfl (X.2.2.2.2.2.2.2.2.2.2.2.1 _ hne) (hts _ hini) hpd ⟨by show d1 + 1 ≤ R.frames; omega, by show 8 + (Mc.2.2.1 + 11) + 40 * d1 ≤ R.locals; omega⟩
  rw [hnm.2] at hcb
  refine aw_after (st0 := st0.map (aw_v G ad)) X h0 h1 h2 h3 hP hS hA hE hl (va_runIN (b := ad.getD q 0) (As := As.map (aw_v G ad)) (n := n) ⟨X.1, X.2.1, X.2.2.1, X.2.2.2.1, X.2.2.2.2.1⟩ (hC (is.map (fun i => ad.getD i 0)) H.size) ⟨hcb, hnm.1, hts _ hin⟩ hps rfl (by simpa using hn) hl.1 (by subst hst; simp [aw_v]) (lv_room (by rw [hst2]; exact Nat.le_of_ble_eq_true hsum)) hd ⟨by omega, by omega⟩) hsel hchk kk
theorem aw_mmax {idx : Nat} {x y : Int32} (hlk : Cond.methodLink M.1.cls idx Lib.Math.max.name ∈ aw_T) (hstat : Cond.static Lib.Math.max.name ∈ aw_T) (hini : Cond.initialized "java/lang/Math" ∈ aw_T) (hco : Cond.code Lib.Math.max.name Lib.Math.max.code 2 (some .int) ∈ aw_T) (hd0 : 1 ≤ d) (hst : (st.map fun v => v.category).sum ≤ 8) (hd : decode M.2.1 pc = .ok (.invokestatic idx, 3)) (kk : AW G M d mc ms n0 post (pc + 3) lv (.int (if x < y then y else x) :: st) w) : AW G M d mc ms n0 post pc lv (.int y :: .int x :: st) w := by
  intro p e R s m args below meth c A ad0 ad H locs cells slots ls X h0 h1 h2 h3 hP hS hA hE hl
  have hst2 : ((st.map (aw_v G ad)).map fun v => v.category).sum = (st.map fun v => v.category).sum := by simp [Function.comp_def, aw_cat]
  have hts := X.2.2.2.2.1
  have hfr := X.2.2.2.2.2.2.2.2.1
  have hlo := X.2.2.2.2.2.2.2.2.2.1
  exact va_mmax X.1 X.2.1 (by rw [X.2.2.1]; exact hl.1.symm) X.2.2.2.1 (hts _ hlk) (hts _ hstat) (hts _ hini) (hts _ hco) (by omega) (by rw [hst2]; omega) (by omega) (by omega) hd (kk p e R s m args below meth c A ad0 ad H locs cells slots ls X h0 h1 h2 h3 hP hS hA hE hl)
theorem aw_mmin {idx : Nat} {x y : Int32} (hlk : Cond.methodLink M.1.cls idx Lib.Math.min.name ∈ aw_T) (hstat : Cond.static Lib.Math.min.name ∈ aw_T) (hini : Cond.initialized "java/lang/Math" ∈ aw_T) (hco : Cond.code Lib.Math.min.name Lib.Math.min.code 2 (some .int) ∈ aw_T) (hd0 : 1 ≤ d) (hst : (st.map fun v => v.category).sum ≤ 8) (hd : decode M.2.1 pc = .ok (.invokestatic idx, 3)) (kk : AW G M d mc ms n0 post (pc + 3) lv (.int (if y < x then y else x) :: st) w) : AW G M d mc ms n0 post pc lv (.int y :: .int x :: st) w := by
  intro p e R s m args below meth c A ad0 ad H locs cells slots ls X h0 h1 h2 h3 hP hS hA hE hl
  have hst2 : ((st.map (aw_v G ad)).map fun v => v.category).sum = (st.map fun v => v.category).sum := by simp [Function.comp_def, aw_cat]
  have hts := X.2.2.2.2.1
  have hfr := X.2.2.2.2.2.2.2.2.1
  have hlo := X.2.2.2.2.2.2.2.2.2.1
  exact va_mmin X.1 X.2.1 (by rw [X.2.2.1]; exact hl.1.symm) X.2.2.2.1 (hts _ hlk) (hts _ hstat) (hts _ hini) (hts _ hco) (by omega) (by rw [hst2]; omega) (by omega) (by omega) hd (kk p e R s m args below meth c A ad0 ad H locs cells slots ls X h0 h1 h2 h3 hP hS hA hE hl)
theorem aw_mmin_long {idx : Nat} {x y : Int64} (hlk : Cond.methodLink M.1.cls idx Lib.MathLoose.min_long.x ∈ aw_T) (hstat : Cond.static Lib.MathLoose.min_long.x ∈ aw_T) (hini : Cond.initialized "java/lang/Math" ∈ aw_T) (hco : Cond.code Lib.MathLoose.min_long.x Lib.MathLoose.min_long.code 4 (some .long) ∈ aw_T) (hd0 : 1 ≤ d) (hst : (st.map fun v => v.category).sum ≤ 8) (hd : decode M.2.1 pc = .ok (.invokestatic idx, 3)) (kk : AW G M d mc ms n0 post (pc + 3) lv (.long (if y < x then y else x) :: st) w) : AW G M d mc ms n0 post pc lv (.long y :: .long x :: st) w := by
  intro p e R s m args below meth c A ad0 ad H locs cells slots ls X h0 h1 h2 h3 hP hS hA hE hl
  have hst2 : ((st.map (aw_v G ad)).map fun v => v.category).sum = (st.map fun v => v.category).sum := by simp [Function.comp_def, aw_cat]
  have hts := X.2.2.2.2.1
  have hfr := X.2.2.2.2.2.2.2.2.1
  have hlo := X.2.2.2.2.2.2.2.2.2.1
  exact va_mmin_long X.1 X.2.1 (by rw [X.2.2.1]; exact hl.1.symm) X.2.2.2.1 (hts _ hlk) (hts _ hstat) (hts _ hini) (hts _ hco) (by omega) (by rw [hst2]; omega) (by omega) (by omega) hd (kk p e R s m args below meth c A ad0 ad H locs cells slots ls X h0 h1 h2 h3 hP hS hA hE hl)
end AwAlloc
