section AwDefs
/-- an abstract world: cells by their places; a reference in it is a place of it -/
abbrev aw_W : Type := List va_E
/-- a method: its name, bytes, locals, return type -/
abbrev aw_M : Type := MethodName × ByteArray × Nat × Option FieldType
/-- launch, numbers of classes and slots, those of int[], byte[], boolean[], addresses of the constants, the script -/
abbrev aw_G : Type := Launch × va_G × ClassId × ClassId × ClassId × (Nat → Nat) × Nat × (Nat → Int32)
abbrev aw_cs (G : aw_G) : Nat → Nat := G.2.2.2.2.2.1
abbrev aw_sL (G : aw_G) : Nat := G.2.2.2.2.2.2.1
abbrev aw_sx (G : aw_G) : Nat → Int32 := G.2.2.2.2.2.2.2
def aw_tys (G : aw_G) : List (ClassId × FieldType) := [(G.2.2.1, .int), (G.2.2.2.1, .byte), (G.2.2.2.2.1, .boolean)]
def aw_v (G : aw_G) (ad : List Nat) (v : Value) : Value := match v with
  | .ref k => .ref (ad.getD k 0)
  | .retAddr k => .ref (aw_cs G k)
  | x => x
def aw_r (is : List Nat) (v : Value) : Value := match v with
  | .ref k => .ref (is.getD k 0)
  | x => x
def aw_e (G : aw_G) (ad : List Nat) (x : va_E) : va_E := match x with
  | .inl a => .inl a
  | .inr o => .inr (o.1, o.2.map (aw_v G ad))
def aw_re (is : List Nat) (x : va_E) : va_E := match x with
  | .inl a => .inl a
  | .inr o => .inr (o.1, o.2.map (aw_r is))
def aw_c (G : aw_G) (ad : List Nat) (w : aw_W) : va_W := (ad.zip w).map (fun q => (q.1, aw_e G ad q.2))
abbrev aw_l (G : aw_G) (ad : List Nat) (q : Nat × Value) : Nat × Value := (q.1, aw_v G ad q.2)
def aw_T : List Cond := lw_tbl.filter goodWord
def aw_ws (M : aw_M) : List Cond := .code M.1 M.2.1 M.2.2.1 M.2.2.2 :: aw_T
def aw_R (d mc ms : Nat) : Room := { frames := d, cells := mc, slots := ms, locals := 40 * d }
/-- what the tables say, beside the words: classes, array classes, nest mates' links -/
def aw_K (G : aw_G) (U : State) : Prop := va_K G.2.1 classes (aw_tys G) U ∧ (∀ q ∈ aw_nests, va_Nw (.methodLinkNest q.1 q.2.1 q.2.2.1 q.2.2.2) U) ∧ ∀ q ∈ aw_strs, vk_R q.1 q.2.1 q.2.2.1 (aw_cs G q.2.2.2) U
/-- the formatter of the JDK's index checks: null, or a reference -/
def aw_fmt (G : aw_G) : Value := if aw_cs G 300 = 0 then .null else .retAddr 200
def aw_fmtV (G : aw_G) : Value := if aw_cs G 300 = 0 then .null else .ref (aw_cs G 200)
/-- what does not change: the constants' texts, two statics -/
def aw_E (G : aw_G) (A : Nat → Prop) (U : State) (H : Heap) : Prop := vk_S aw_nS aw_lenS aw_bytS (aw_cs G) (fun i => aw_cs G (100 + i)) A U H ∧ va_Z "java/lang/String" "COMPACT_STRINGS" "Z" (.int 1) A U H ∧ va_Z "jdk/internal/util/Preconditions" "SIOOBE_FORMATTER" "Ljava/util/function/BiFunction;" (aw_fmtV G) A U H ∧ va_T .int (aw_cs G 400) (aw_sL G) (fun j => .int (aw_sx G j)) A U H
def aw_P (G : aw_G) (A : Nat → Prop) (ad : List Nat) (w : aw_W) (H : Heap) : Prop := ad.length = w.length ∧ va_P G.2.1 classes (aw_c G ad w) H ∧ va_D A (aw_c G ad w)
def aw_Q (G : aw_G) (A : Nat → Prop) (ad0 : List Nat) (post : Option Value → aw_W → Prop) : Array Value → State → Outcome → State → Prop := fun _ st oc t =>
  (∃ (v : Option Value) (w : aw_W) (ad : List Nat), oc = .returned (v.map (aw_v G ad)) ∧ post v w ∧ ad.take ad0.length = ad0 ∧ aw_P G A ad w t.heap) ∧ va_F A st t
/-- a contract: from the world w, with the arguments vs, the method returns, and post holds of its answer and the world behind it; d frames deep, at most mc cells of ms slots are made; the addresses of the first n0 places stay -/
def AC (G : aw_G) (M : aw_M) (d mc ms n0 : Nat) (vs : List Value) (w : aw_W) (post : Option Value → aw_W → Prop) : Prop :=
  ∀ (ad : List Nat) (sz : Nat), Met G.1 M.1 (aw_ws M) (aw_R d mc ms) (va_Pc (vs.map (aw_v G ad)) (fun U => U.heap.size = sz ∧ aw_K G U ∧ aw_P G (fun _ => True) ad w U.heap ∧ aw_E G (va_A (aw_c G ad w) sz) U U.heap)) (aw_Q G (va_A (aw_c G ad w) sz) (ad.take n0) post) mc ms (va_A (aw_c G ad w) sz)
def aw_X (G : aw_G) (M : aw_M) (d : Nat) (p : Program) (R : Room) (s : State) (m : MethodId) (args : Array Value) (meth : Method) (c : Code) : Prop :=
  p.tables.exec = Jvm.exec ∧ c.code = M.2.1 ∧ c.maxLocals = M.2.2.1 ∧ s.vm.findClass M.1.cls = some m.cls ∧ (∀ w ∈ aw_T, w.before args s = true) ∧ meth.sig.returnType = M.2.2.2 ∧ meth.locks = false ∧ (M.1.name = "<init>" → meth.name = "<init>") ∧ d ≤ R.frames ∧ 40 * d ≤ R.locals ∧ aw_K G s
/-- the walk: at pc, with the locals lv, the stack st, the world w -/
def AW (G : aw_G) (M : aw_M) (d mc ms n0 : Nat) (post : Option Value → aw_W → Prop) (pc : Nat) (lv : List (Nat × Value)) (st : List Value) (w : aw_W) : Prop :=
  ∀ (p : Program) (e : Env) (R : Room) (s : State) (m : MethodId) (args : Array Value) (below : List Frame) (meth : Method) (c : Code) (A : Nat → Prop) (ad0 ad : List Nat) (H : Heap) (locs : List Loc) (cells slots : Nat) (ls : Array Slot),
    aw_X G M d p R s m args meth c → ad.take ad0.length = ad0 → ad0.length ≤ n0 → cells + mc ≤ R.cells → slots + ms ≤ R.slots → aw_P G A ad w H → va_S A s.heap H locs → (∀ q, s.heap.size ≤ q → A q) → aw_E G A s s.heap → lv_has ls M.2.2.1 (lv.map (aw_l G ad)) →
    W p G.1 e R s m args below meth c H locs cells slots (MQ below (aw_Q G A ad0 post) args s R.cells R.slots A) (F0 m pc ls (st.map (aw_v G ad)))
end AwDefs
section AwPre
variable {G : aw_G} {ad : List Nat}
theorem aw_sl_len (vs : List Value) : (lg_sl (vs.map (aw_v G ad))).length = (lg_sl vs).length := by
  induction vs with
  | nil => rfl
  | cons v t ih => cases v <;> simp_all [lg_sl, aw_v, Value.category]
theorem aw_args (vs : List Value) (i : Nat) : lv_args i (vs.map (aw_v G ad)) = (lv_args i vs).map (aw_l G ad) := by
  induction vs generalizing i with
  | nil => rfl
  | cons v t ih => cases v <;> simp_all [lv_args, aw_v, aw_l, Value.category]
end AwPre
section AwBase
variable {G : aw_G} {M : aw_M} {d mc ms n0 pc : Nat} {lv : List (Nat × Value)} {st : List Value} {w : aw_W} {post : Option Value → aw_W → Prop} {ad : List Nat}
theorem aw_cat (v : Value) : (aw_v G ad v).category = v.category := by cases v <;> rfl
theorem aw_c_len (h : ad.length = w.length) : (aw_c G ad w).length = w.length := by simp [aw_c, h]
theorem aw_c_get (h : ad.length = w.length) {k : Nat} {x : va_E} (hk : w[k]? = some x) : (aw_c G ad w)[k]? = some (ad.getD k 0, aw_e G ad x) := by
  have hl : k < w.length := (List.getElem?_eq_some_iff.mp hk).1
  have hl2 : k < ad.length := by omega
  have e1 : ad[k]? = some (ad.getD k 0) := by simp [List.getD, List.getElem?_eq_getElem hl2]
  have e2 : (ad.zip w)[k]? = some (ad.getD k 0, x) := List.getElem?_zip_eq_some.mpr ⟨e1, hk⟩
  unfold aw_c
  rw [List.getElem?_map, e2]
  rfl
theorem aw_c_inv (h : ad.length = w.length) {k : Nat} {q : Nat × va_E} (hk : (aw_c G ad w)[k]? = some q) : ∃ x, w[k]? = some x ∧ q = (ad.getD k 0, aw_e G ad x) := by
  have hl : k < w.length := by
    have := (List.getElem?_eq_some_iff.mp hk).1
    rwa [aw_c_len h] at this
  have hx : w[k]? = some w[k] := List.getElem?_eq_getElem hl
  have := aw_c_get (G := G) h hx
  rw [hk] at this
  exact ⟨_, hx, Option.some.inj this⟩
theorem aw_c_none (h : ad.length = w.length) {k : Nat} (hk : w.length ≤ k) : (aw_c G ad w)[k]? = none := List.getElem?_eq_none (by rw [aw_c_len h]; exact hk)
theorem aw_c_set (h : ad.length = w.length) {k : Nat} {x0 : va_E} (hk : w[k]? = some x0) (x : va_E) : (aw_c G ad w).set k (ad.getD k 0, aw_e G ad x) = aw_c G ad (w.set k x) := by
  have hl : k < w.length := (List.getElem?_eq_some_iff.mp hk).1
  have h2 : ad.length = (w.set k x).length := by simp [h]
  apply List.ext_getElem?
  intro j
  by_cases hj : j = k
  · subst hj
    rw [List.getElem?_set_self (by rw [aw_c_len h]; exact hl), aw_c_get h2 (by rw [List.getElem?_set_self hl])]
  · rw [List.getElem?_set_ne (Ne.symm hj)]
    by_cases hjl : j < w.length
    · have hx : w[j]? = some w[j] := List.getElem?_eq_getElem hjl
      rw [aw_c_get h hx, aw_c_get h2 (by rw [List.getElem?_set_ne (Ne.symm hj)]; exact hx)]
    · rw [aw_c_none h (by omega), aw_c_none h2 (by simp; omega)]
theorem aw_fs {fs : List Value} {k : Nat} {v : Value} (hv : fs[k]? = some v) : (fs.map (aw_v G ad))[k]? = some (aw_v G ad v) := by simp [hv]
theorem aw_at {k i : Nat} {v : Value} (hk : lv[k]? = some (i, v)) : (lv.map (aw_l G ad))[k]? = some (i, aw_v G ad v) := by simp [hk]
abbrev aw_f1 (i : Nat) : Nat × Value → Bool := fun q => !(q.1 == i) && !(q.1 + 1 == i && q.2.category == 2)
abbrev aw_f2 (i : Nat) : Nat × Value → Bool := fun q => !(q.1 == i) && (!(q.1 == i + 1) && !(q.1 + 1 == i && q.2.category == 2))
theorem aw_lv1 {i : Nat} {v : Value} {lv' : List (Nat × Value)} (h : (i, v) :: lv.filter (aw_f1 i) = lv') : (i, aw_v G ad v) :: (lv.map (aw_l G ad)).filter (aw_f1 i) = lv'.map (aw_l G ad) := by
  subst h
  rw [List.map_cons, List.filter_map]
  congr 2
  apply List.filter_congr
  intro q _
  simp [aw_l, aw_f1, aw_cat]
theorem aw_lv2 {i : Nat} {v : Value} {lv' : List (Nat × Value)} (h : (i, v) :: lv.filter (aw_f2 i) = lv') : (i, aw_v G ad v) :: (lv.map (aw_l G ad)).filter (aw_f2 i) = lv'.map (aw_l G ad) := by
  subst h
  rw [List.map_cons, List.filter_map]
  congr 2
  apply List.filter_congr
  intro q _
  simp [aw_l, aw_f2, aw_cat]
theorem aw_K.warm {s U : State} (hW : s.WarmedH U.vm) (h : aw_K G s) : aw_K G U := ⟨va_K.moved hW.alike h.1, fun q hq => va_Nw.warmM hW (h.2.1 q hq), fun q hq => (h.2.2 q hq).warm hW⟩
theorem aw_K.same {u U : State} (e : u.vm = U.vm) (h : aw_K G u) : aw_K G U := ⟨va_K.moved (e ▸ Vm.Alike.refl u.vm) h.1, fun q hq => va_Nw.same rfl e (h.2.1 q hq), fun q hq => (h.2.2 q hq).same e.symm⟩
theorem aw_E.moved {A : Nat → Prop} {u U : State} {H : Heap} (hvm : u.vm.Alike U.vm) (h : aw_E G A u H) : aw_E G A U H := ⟨h.1.moved hvm, h.2.1.moved hvm, h.2.2.1.moved hvm, h.2.2.2.moved hvm⟩
theorem aw_E.kept {A : Nat → Prop} {U : State} {H H1 : Heap} (h : aw_E G A U H) (hq : ∀ a : Nat, a < H.size → ¬ A a → H1[a]? = H[a]?) : aw_E G A U H1 := ⟨h.1.kept hq, h.2.1.kept hq, h.2.2.1.kept hq, h.2.2.2.kept hq⟩
theorem aw_E.narrow {A B : Nat → Prop} {U : State} {H : Heap} (h : aw_E G A U H) (hAB : ∀ q, B q → A q) : aw_E G B U H := ⟨h.1.narrow hAB, h.2.1.narrow hAB, h.2.2.1.narrow hAB, h.2.2.2.narrow hAB⟩
theorem aw_in {w : Cond} (i : Nat) (h : lw_tbl[i]? = some w) (g : goodWord w = true) : w ∈ aw_T := List.mem_filter.mpr ⟨List.mem_of_getElem? h, g⟩
theorem aw_goodT : GoodIn aw_T aw_T := fun w hw => ⟨hw, good_of_word (List.mem_filter.mp hw).2⟩
theorem aw_good (hc : Cond.code M.1 M.2.1 M.2.2.1 M.2.2.2 ∈ aw_T) : GoodIn aw_T (aw_ws M) := by
  intro w hw
  rcases List.mem_cons.mp hw with h | h
  · rw [h]; exact aw_goodT _ hc
  · exact aw_goodT _ h
/-- the contract out of the walk -/
theorem AC.of {vs : List Value} {lv : List (Nat × Value)} (hy : plainName M.1.cls = true) (hn : (lg_sl vs).length ≤ M.2.2.1) (hlv : lv_args 0 vs = lv) (h : AW G M d mc ms n0 post 0 lv [] w) : AC G M d mc ms n0 vs w post := by
  intro ad sz
  refine Met.ofW (cc := M.2.1) (maxL := M.2.2.1) (ret := M.2.2.2) hy rfl ?_
  intro p e s m args below meth c s₁ B hml hv
  obtain ⟨rfl, hsz, hK, hP, hE⟩ := hv
  subst hsz
  have hts := atoms_spec (ws := aw_ws M) B.pre
  have hlen : (lg_sl (vs.map (aw_v G ad))).length = (lg_sl vs).length := by
    rw [aw_sl_len]
  have hl := lv_entry (vs.map (aw_v G ad)) (n := M.2.2.1) (by rw [hlen]; exact hn)
  rw [lg_entry_eq]
  rw [aw_args] at hl
  subst hlv
  exact h p e _ s m _ below meth c _ (ad.take n0) ad s.heap [] 0 0 _ ⟨B.exec, B.bytes, hml, findClass_of_methodNamed B.named, fun w hw => hts w (List.mem_cons_of_mem _ hw), B.returns, B.notSynchronized, fun h => (name_of_methodNamed B.named B.method).1.trans h, Nat.le_refl _, Nat.le_refl _, hK⟩ (by simp [List.take_take]) (by simp [List.length_take]; omega) (by simp [headSpec, aw_R]) (by simp [headSpec, aw_R]) ⟨hP.1, hP.2.1, hP.2.2.self⟩ va_S.rf (fun q hq => Or.inr hq) hE hl
theorem AC.ofF {vs : List Value} {lv : List (Nat × Value)} (hy : plainFor M.1 = true) (hn : (lg_sl vs).length ≤ M.2.2.1) (hlv : lv_args 0 vs = lv) (h : AW G M d mc ms n0 post 0 lv [] w) : AC G M d mc ms n0 vs w post := by
  intro ad sz
  refine va_MetF (cc := M.2.1) (maxL := M.2.2.1) (ret := M.2.2.2) hy rfl ?_
  intro p e s m args below meth c s₁ B hml hv
  obtain ⟨rfl, hsz, hK, hP, hE⟩ := hv
  subst hsz
  have hts := atoms_spec (ws := aw_ws M) B.pre
  have hlen : (lg_sl (vs.map (aw_v G ad))).length = (lg_sl vs).length := by
    rw [aw_sl_len]
  have hl := lv_entry (vs.map (aw_v G ad)) (n := M.2.2.1) (by rw [hlen]; exact hn)
  rw [lg_entry_eq]
  rw [aw_args] at hl
  subst hlv
  exact h p e _ s m _ below meth c _ (ad.take n0) ad s.heap [] 0 0 _ ⟨B.exec, B.bytes, hml, findClass_of_methodNamed B.named, fun w hw => hts w (List.mem_cons_of_mem _ hw), B.returns, B.notSynchronized, fun h => (name_of_methodNamed B.named B.method).1.trans h, Nat.le_refl _, Nat.le_refl _, hK⟩ (by simp [List.take_take]) (by simp [List.length_take]; omega) (by simp [headSpec, aw_R]) (by simp [headSpec, aw_R]) ⟨hP.1, hP.2.1, hP.2.2.self⟩ va_S.rf (fun q hq => Or.inr hq) hE hl
end AwBase
