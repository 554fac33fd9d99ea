/-! THE CLAIM OUT OF ONE WALK OF THE LAW'S BODY. Your part is whole_start (and what it stands on); all else here is the same for every law, but numbers. -/
def R_law : String := "QuietDeskLaw"
def lw_P (b : Addr) (xs : List Int32) (args : Array Value) (s : State) : Prop := args = #[.ref b] ∧ s.IntsAt b xs ∧ xs.length ≤ 3072 ∧ (Jvm.Cond.and given_1 narrow_1).before args s = true
def lw_Q (_ : Array Value) (s : State) (o : Outcome) (t : State) : Prop := o = .returned (some (.int 1)) ∧ Framed s o t [] 60000 8922250
def lw_Z (below : List Frame) (a : Array Value) (s : State) : State → Prop := fun t => ∃ o, t.status = .running ∧ Ended t below o ∧ lw_Q a s o t
/-- the law's own end, with 1 on the stack, nothing written that was there before, its room as the claim has it -/
theorem lw_ret {p : Program} {l : Launch} {e : Env} {s : State} {m : MethodId} {below : List Frame} {meth : Method} {c : Code} {b : Nat} (hx : p.tables.exec = Jvm.exec) (hb : c.code = code) (hr : meth.sig.returnType = ret) (hlocks : meth.locks = false) {pc : Nat} {H : Heap} {ls : Array Slot} (hdg : decode code pc = .ok (.ireturn, 1)) : W p l e room_1 s m #[Value.ref b] below meth c H [] 60000 8922250 (lw_Z below #[Value.ref b] s) (F0 m pc ls [.int 1]) := by
  intro T hT X
  obtain ⟨fs, hret, hrun, hended, hW, hframe⟩ := X.leave (v := some (.int 1)) (hlocks := hlocks) (fun h => by rw [hr] at h; cases h)
  have hmeth' : T.vm.method? m = some meth := X.method'
  refine ⟨T.setFrames fs, ?_, .returned (some (.int 1)), hrun, hended, rfl, ⟨_, rfl⟩, hW, hframe⟩
  jvm_step X.here [X.here.top, hx, hb, hdg, hmeth', hr, ret, narrow_b1]
  (try refine ⟨rfl, ?_⟩); (try refine ⟨rfl, ?_⟩)
  first | (intro acts; rw [hret _ acts rfl rfl rfl]) | rw [hret _ _ rfl rfl rfl]
  exact Steps.refl _
/-- what holds at the law's entry: the machine, the code, the tables' words (any of lw_tbl by 'hts w (by decide +kernel)'), the script of L ints xs at the cell b, what the Statement gives of the start (any of its parts by flat_of_before) -/
def lw_At (p : Program) (s : State) (m : MethodId) (meth : Method) (c : Code) (b L : Nat) (xs : Nat → Int32) : Prop :=
  p.tables.exec = Jvm.exec ∧ c.code = code ∧ meth.sig.returnType = ret ∧ c.maxLocals = 4 ∧ s.vm.findClass R_law = some m.cls ∧ (∀ w ∈ lw_tbl, w.before #[Value.ref b] s = true) ∧ va_X b L xs s s.heap ∧ b < s.heap.size ∧ meth.locks = false ∧ (Jvm.Cond.and given_1 narrow_1).before #[Value.ref b] s = true

section Start
def st_ix : List Nat := [89, 95, 97, 99, 101, 103, 105, 82]
def st_mx : List Nat := [109, 115, 117, 119, 121, 123, 125, 146]
def st_tx : List String := ["pub", "sec", "in", "out", "if", "else", "while", "()[]{};=+-*/%&|^~!<"]
def st_tm (i : Nat) : Term := .string "QuietDesk$Tokens" (st_ix.getD i 0)
def st_tn (i : Nat) : Term := .string "QuietDeskModel" (st_mx.getD i 0)
def st_fl : List Cond := flatC (Jvm.Cond.and given_1 narrow_1)
theorem st_ex : ∀ i, i < 8 → Cond.exactly (st_tm i) "java/lang/String" ∈ st_fl := by decide +kernel
theorem st_co : ∀ i, i < 8 → Cond.eq (.field (st_tm i) "java/lang/String" "coder" "B") (.int 0) ∈ st_fl := by decide +kernel
theorem st_ar : ∀ i, i < 8 → Cond.arrayOf (.field (st_tm i) "java/lang/String" "value" "[B") .byte ∈ st_fl := by decide +kernel
theorem st_le : ∀ i, i < 8 → Cond.eq (.length (.field (st_tm i) "java/lang/String" "value" "[B")) (.int (Int32.ofNat (aw_lenS.getD i 0))) ∈ st_fl := by decide +kernel
theorem st_el : ∀ i, i < 8 → ∀ j, j < aw_lenS.getD i 0 → Cond.eq (.elem (.field (st_tm i) "java/lang/String" "value" "[B") (.int (Int32.ofNat j))) (.int ((aw_bytS.getD i []).getD j 0)) ∈ st_fl := by decide +kernel
theorem st_ne : ∀ i, i < 8 → ∀ j, j < 8 → i ≠ j → (Cond.not (Cond.eq (st_tm i) (st_tm j)) ∈ st_fl ∨ Cond.not (Cond.eq (st_tm j) (st_tm i)) ∈ st_fl) := by decide +kernel
theorem st_eq : ∀ i, i < 8 → Cond.eq (st_tm i) (st_tn i) ∈ st_fl := by decide +kernel
theorem st_cs : Cond.eq (.static "java/lang/String" "COMPACT_STRINGS" "Z") (.int 1) ∈ st_fl := by decide +kernel
theorem st_fm : Cond.isRef (.static "jdk/internal/util/Preconditions" "SIOOBE_FORMATTER" "Ljava/util/function/BiFunction;") ∈ st_fl := by decide +kernel
theorem st_l1 : Cond.laysStatic "java/lang/String" "COMPACT_STRINGS" "Z" ∈ lw_tbl := by decide +kernel
theorem st_l2 : Cond.laysStatic "jdk/internal/util/Preconditions" "SIOOBE_FORMATTER" "Ljava/util/function/BiFunction;" ∈ lw_tbl := by decide +kernel
theorem st_i1 : Cond.initialized "java/lang/String" ∈ lw_tbl := by decide +kernel
theorem st_i2 : Cond.initialized "jdk/internal/util/Preconditions" ∈ lw_tbl := by decide +kernel
theorem st_sr : ∀ q ∈ aw_strs, Cond.stringRef q.1 q.2.1 q.2.2.1 ∈ lw_tbl := by decide +kernel
theorem st_sw : ∀ q ∈ aw_strs, q.2.2.2 < 8 ∧ (Term.string q.1 q.2.1 = st_tm q.2.2.2 ∨ Term.string q.1 q.2.1 = st_tn q.2.2.2) := by decide +kernel
theorem st_nn : ∀ q ∈ aw_nests, Cond.methodLinkNest q.1 q.2.1 q.2.2.1 q.2.2.2 ∈ lw_tbl := by decide +kernel
def st_cf (adK adV : Nat → Nat) (f t b : Nat) : Nat → Nat := fun k => if k < 100 then adK k else if k < 200 then adV (k - 100) else if k = 200 then t else if k = 300 then f else if k = 400 then b else 0
theorem law_G {p : Program} {s : State} {m : MethodId} {meth : Method} {c : Code} (l : Launch) {b L : Nat} {xs : Nat → Int32} (hL : L ≤ 3072) (C0 : lw_At p s m meth c b L xs) : ∃ G : aw_G, G.1 = l ∧ aw_sL G = L ∧ aw_sx G = xs ∧ aw_cs G 400 = b ∧ aw_K G s ∧ aw_E G (fun q : Nat => s.heap.size ≤ q) s s.heap := by
  obtain ⟨hx, hb, hr, hml, hown, hts, hX, hbl, hlocks, hgv⟩ := id C0
  have hfl : ∀ w ∈ st_fl, w.before #[Value.ref b] s = true := flat_of_before _ hgv
  have hA : ∀ a : Nat, a < s.heap.size → ¬ (fun q : Nat => s.heap.size ≤ q) a := fun a h h2 => absurd h2 (Nat.not_le.mpr h)
  obtain ⟨c0, iS0, hKn0⟩ := u_known (C := RX0) (T := TX0) (N := 12) (n := 12) hts (fun w hw => (List.mem_filter.mp (hX0_w w hw)).1) (hts (.instantiable RX0 12) (List.mem_filter.mp itX0).1)
  obtain ⟨c1, iS1, hKn1⟩ := u_known (C := RX1) (T := TX1) (N := 4) (n := 4) hts (fun w hw => (List.mem_filter.mp (hX1_w w hw)).1) (hts (.instantiable RX1 4) (List.mem_filter.mp itX1).1)
  obtain ⟨c2, iS2, hKn2⟩ := u_known (C := RX2) (T := TX2) (N := 8) (n := 8) hts (fun w hw => (List.mem_filter.mp (hX2_w w hw)).1) (hts (.instantiable RX2 8) (List.mem_filter.mp itX2).1)
  obtain ⟨c3, iS3, hKn3⟩ := u_known (C := RX3) (T := TX3) (N := 11) (n := 11) hts (fun w hw => (List.mem_filter.mp (hX3_w w hw)).1) (hts (.instantiable RX3 11) (List.mem_filter.mp itX3).1)
  obtain ⟨c4, iS4, hKn4⟩ := u_known (C := RX4) (T := TX4) (N := 10) (n := 10) hts (fun w hw => (List.mem_filter.mp (hX4_w w hw)).1) (hts (.instantiable RX4 10) (List.mem_filter.mp itX4).1)
  obtain ⟨c6, iS6, hKn6⟩ := u_known (C := RX6) (T := TX6) (N := 5) (n := 5) hts (fun w hw => (List.mem_filter.mp (hX6_w w hw)).1) (hts (.instantiable RX6 5) (List.mem_filter.mp itX6).1)
  obtain ⟨c7, iS7, hKn7⟩ := u_known (C := RX7) (T := TX7) (N := 3) (n := 3) hts (fun w hw => (List.mem_filter.mp (hX7_w w hw)).1) (hts (.instantiable RX7 3) (List.mem_filter.mp itX7).1)
  obtain ⟨c8, iS8, hKn8⟩ := u_known (C := RX8) (T := TX8) (N := 2) (n := 2) hts (fun w hw => (List.mem_filter.mp (hX8_w w hw)).1) (hts (.instantiable RX8 2) (List.mem_filter.mp itX8).1)
  obtain ⟨c9, iS9, hKn9⟩ := u_known (C := RX9) (T := TX9) (N := 9) (n := 9) hts (fun w hw => (List.mem_filter.mp (hX9_w w hw)).1) (hts (.instantiable RX9 9) (List.mem_filter.mp itX9).1)
  obtain ⟨c10, iS10, hKn10⟩ := u_known (C := RX10) (T := TX10) (N := 10) (n := 10) hts (fun w hw => (List.mem_filter.mp (hX10_w w hw)).1) (hts (.instantiable RX10 10) (List.mem_filter.mp itX10).1)
  obtain ⟨c11, iS11, hKn11⟩ := u_known (C := RX11) (T := TX11) (N := 12) (n := 12) hts (fun w hw => (List.mem_filter.mp (hX11_w w hw)).1) (hts (.instantiable RX11 12) (List.mem_filter.mp itX11).1)
  obtain ⟨c12, iS12, hKn12⟩ := u_known (C := RX12) (T := TX12) (N := 50) (n := 50) hts (fun w hw => (List.mem_filter.mp (hX12_w w hw)).1) (hts (.instantiable RX12 50) (List.mem_filter.mp itX12).1)
  obtain ⟨dC, dI, hKc⟩ : ∃ (dC : Nat → ClassId) (dI : Nat → Nat → Nat), ∀ (k : Nat) (q : vw_C), classes[k]? = some q → u_Kn s q.1 q.2.1 q.2.2 (dC k) (dI k) := by
    refine ⟨fun k => match k with | 0 => c0 | 1 => c1 | 2 => c2 | 3 => c3 | 4 => c4 | 5 => c2 | 6 => c6 | 7 => c7 | 8 => c8 | 9 => c9 | 10 => c10 | 11 => c11 | _ => c12, fun k => match k with | 0 => iS0 | 1 => iS1 | 2 => iS2 | 3 => iS3 | 4 => iS4 | 5 => iS2 | 6 => iS6 | 7 => iS7 | 8 => iS8 | 9 => iS9 | 10 => iS10 | 11 => iS11 | _ => iS12, ?_⟩
    intro k q hq
    match k, hq with
    | 0, hq => cases hq; exact hKn0
    | 1, hq => cases hq; exact hKn1
    | 2, hq => cases hq; exact hKn2
    | 3, hq => cases hq; exact hKn3
    | 4, hq => cases hq; exact hKn4
    | 5, hq => cases hq; exact hKn2
    | 6, hq => cases hq; exact hKn6
    | 7, hq => cases hq; exact hKn7
    | 8, hq => cases hq; exact hKn8
    | 9, hq => cases hq; exact hKn9
    | 10, hq => cases hq; exact hKn10
    | 11, hq => cases hq; exact hKn11
    | 12, hq => cases hq; exact hKn12
    | k + 13, hq => simp [classes] at hq
  obtain ⟨cI, kI, coI, hI1, hI2, hI3⟩ := Cond.arrayClass_spec (hts (.arrayClass .int) (List.mem_filter.mp arr_int).1)
  obtain ⟨cB, kB, coB, hB1, hB2, hB3⟩ := Cond.arrayClass_spec (hts (.arrayClass .byte) (List.mem_filter.mp arr_byte).1)
  obtain ⟨cZ, kZ, coZ, hZ1, hZ2, hZ3⟩ := Cond.arrayClass_spec (hts (.arrayClass .boolean) (List.mem_filter.mp arr_boolean).1)
  obtain ⟨adK, adV, hvS, hvE⟩ := vk_Sof (args := #[Value.ref b]) (s := s) (N := 8) (tm := st_tm) (len := aw_lenS) (byt := aw_bytS) (A := fun q : Nat => s.heap.size ≤ q) (by decide) (fun i hi => hfl _ (st_ex i hi)) (fun i hi => hfl _ (st_co i hi)) (fun i hi => hfl _ (st_ar i hi)) (fun i hi => hfl _ (st_le i hi)) (fun i hi j hj => hfl _ (st_el i hi j hj)) (fun i j hi hj hij => (st_ne i hi j hj hij).imp (hfl _) (hfl _)) hA
  have hZ := va_Zof (A := fun q : Nat => s.heap.size ≤ q) (hts _ st_l1) (hts _ st_i1) (va_eqi (hfl _ st_cs)) hA
  have hF := va_Zqof (A := fun q : Nat => s.heap.size ≤ q) (hts _ st_l2) (hts _ st_i2) (hfl _ st_fm) hA
  have key : ∃ f t : Nat, va_Z "jdk/internal/util/Preconditions" "SIOOBE_FORMATTER" "Ljava/util/function/BiFunction;" (if f = 0 then .null else .ref t) (fun q : Nat => s.heap.size ≤ q) s s.heap := by
    rcases hF with h | ⟨t, h⟩
    · exact ⟨0, 0, h⟩
    · exact ⟨1, t, h⟩
  obtain ⟨f, t, hF⟩ := key
  refine ⟨(l, (dC, dI), cI, cB, cZ, st_cf adK adV f t b, L, xs), rfl, rfl, rfl, rfl, ⟨⟨hKc, fun k q hk => ?_⟩, fun q hq => ?_, fun q hq => ?_⟩, ⟨⟨fun i hi => ?_, fun i j hi hj e => ?_⟩, hZ, hF, ?_⟩⟩
  · match k, hk with
    | 0, hk => cases hk; exact ⟨fun n z => ⟨fun k h => (by cases h), kI, hI2, coI, hI3⟩, hI1⟩
    | 1, hk => cases hk; exact ⟨fun n z => ⟨fun k h => (by cases h), kB, hB2, coB, hB3⟩, hB1⟩
    | 2, hk => cases hk; exact ⟨fun n z => ⟨fun k h => (by cases h), kZ, hZ2, coZ, hZ3⟩, hZ1⟩
    | k + 3, hk => simp [aw_tys] at hk
  · exact va_Nw.of rfl (hts _ (st_nn q hq))
  · obtain ⟨h1, h2⟩ := st_sw q hq
    have e1 : aw_cs (l, (dC, dI), cI, cB, cZ, st_cf adK adV f t b, L, xs) q.2.2.2 = adK q.2.2.2 := by
      show st_cf adK adV f t b q.2.2.2 = _
      simp [st_cf, show q.2.2.2 < 100 by omega]
    rw [e1]
    refine vk_R.of (A := #[Value.ref b]) (hts _ (st_sr q hq)) ?_
    rcases h2 with h2 | h2
    · rw [h2]; exact hvE _ h1
    · rw [h2]; exact va_eqR (hfl _ (st_eq _ h1)) (hvE _ h1)
  · have hi8 : i < 8 := hi
    have e1 : aw_cs (l, (dC, dI), cI, cB, cZ, st_cf adK adV f t b, L, xs) i = adK i := by
      show st_cf adK adV f t b i = _
      simp [st_cf, show i < 100 by omega]
    have e2 : aw_cs (l, (dC, dI), cI, cB, cZ, st_cf adK adV f t b, L, xs) (100 + i) = adV i := by
      show st_cf adK adV f t b (100 + i) = _
      simp [st_cf, show ¬ 100 + i < 100 by omega, show 100 + i < 200 by omega]
    simp only [e1, e2]
    exact hvS.1 i hi8
  · have hi8 : i < 8 := hi
    have hj8 : j < 8 := hj
    have e1 : aw_cs (l, (dC, dI), cI, cB, cZ, st_cf adK adV f t b, L, xs) i = adK i := by
      show st_cf adK adV f t b i = _
      simp [st_cf, show i < 100 by omega]
    have e2 : aw_cs (l, (dC, dI), cI, cB, cZ, st_cf adK adV f t b, L, xs) j = adK j := by
      show st_cf adK adV f t b j = _
      simp [st_cf, show j < 100 by omega]
    rw [e1, e2] at e
    exact hvS.2 i j hi8 hj8 e
  · obtain ⟨scr, h1, h2, h3, h4, h5⟩ := hX
    exact ⟨scr, h1, h2, h3, by rw [h4]; exact Nat.le_refl L, by rw [h4], h5, hA b hbl⟩
end Start
