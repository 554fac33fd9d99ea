section AwStr
variable {G : aw_G} {M : aw_M} {d mc ms n0 pc : Nat} {lv : List (Nat × Value)} {st : List Value} {w : aw_W} {post : Option Value → aw_W → Prop} {wc : aw_W} {n1 mc1 ms1 d1 : Nat} {postc : Option Value → aw_W → Prop}
theorem aw_strval {k idx : Nat} (hk : k < aw_nS) (hlk : Cond.fieldLink M.1.cls idx "java/lang/String" "value" "[B" ∈ aw_T) (hd : decode M.2.1 pc = .ok (.getfield idx, 3)) (kk : AW G M d mc ms n0 post (pc + 3) lv (.retAddr (100 + k) :: st) w) : AW G M d mc ms n0 post pc lv (.retAddr k :: st) w := by
  intro p e R s m args below meth c A ad0 ad H locs cells slots ls X h0 h1 h2 h3 hP hS hA hE hl
  exact vk_getf X.1 X.2.1 ((hE.1.1 k hk).2.2.1) hS X.2.2.2.1 (X.2.2.2.2.1 _ hlk) (fun _ h => h) hd (kk p e R s m args below meth c A ad0 ad H locs cells slots ls X h0 h1 h2 h3 hP hS hA hE hl)
theorem aw_strcod {k idx : Nat} (hk : k < aw_nS) (hlk : Cond.fieldLink M.1.cls idx "java/lang/String" "coder" "B" ∈ aw_T) (hd : decode M.2.1 pc = .ok (.getfield idx, 3)) (kk : AW G M d mc ms n0 post (pc + 3) lv (.int 0 :: st) w) : AW G M d mc ms n0 post pc lv (.retAddr k :: st) w := by
  intro p e R s m args below meth c A ad0 ad H locs cells slots ls X h0 h1 h2 h3 hP hS hA hE hl
  exact vk_getf X.1 X.2.1 ((hE.1.1 k hk).2.1) hS X.2.2.2.1 (X.2.2.2.2.1 _ hlk) (fun _ h => h) hd (kk p e R s m args below meth c A ad0 ad H locs cells slots ls X h0 h1 h2 h3 hP hS hA hE hl)
theorem aw_compact {idx : Nat} (hlk : Cond.fieldLink M.1.cls idx "java/lang/String" "COMPACT_STRINGS" "Z" ∈ aw_T) (hd : decode M.2.1 pc = .ok (.getstatic idx, 3)) (kk : AW G M d mc ms n0 post (pc + 3) lv (.int 1 :: st) w) : AW G M d mc ms n0 post pc lv st w := by
  intro p e R s m args below meth c A ad0 ad H locs cells slots ls X h0 h1 h2 h3 hP hS hA hE hl
  exact va_gets X.1 X.2.1 hE.2.1 hS X.2.2.2.1 (X.2.2.2.2.1 _ hlk) (fun _ h => h) hd (kk p e R s m args below meth c A ad0 ad H locs cells slots ls X h0 h1 h2 h3 hP hS hA hE hl)
theorem aw_fmt_v {ad : List Nat} : aw_v G ad (aw_fmt G) = aw_fmtV G := by
  unfold aw_fmt aw_fmtV
  split <;> rfl
theorem aw_getfmt {idx : Nat} (hlk : Cond.fieldLink M.1.cls idx "jdk/internal/util/Preconditions" "SIOOBE_FORMATTER" "Ljava/util/function/BiFunction;" ∈ aw_T) (hd : decode M.2.1 pc = .ok (.getstatic idx, 3)) (kk : AW G M d mc ms n0 post (pc + 3) lv (aw_fmt G :: st) w) : AW G M d mc ms n0 post pc lv st w := by
  intro p e R s m args below meth c A ad0 ad H locs cells slots ls X h0 h1 h2 h3 hP hS hA hE hl
  have := kk p e R s m args below meth c A ad0 ad H locs cells slots ls X h0 h1 h2 h3 hP hS hA hE hl
  rw [List.map_cons, aw_fmt_v] at this
  exact va_gets X.1 X.2.1 hE.2.2.1 hS X.2.2.2.1 (X.2.2.2.2.1 _ hlk) (fun _ h => h) hd this
theorem aw_slen {k : Nat} (hk : k < aw_nS) (hd : decode M.2.1 pc = .ok (.arraylength, 1)) (kk : AW G M d mc ms n0 post (pc + 1) lv (.int (nI (aw_lenS.getD k 0)) :: st) w) : AW G M d mc ms n0 post pc lv (.retAddr (100 + k) :: st) w := by
  intro p e R s m args below meth c A ad0 ad H locs cells slots ls X h0 h1 h2 h3 hP hS hA hE hl
  exact va_tlen X.1 X.2.1 ((hE.1.1 k hk).2.2.2) hS rfl hd (kk p e R s m args below meth c A ad0 ad H locs cells slots ls X h0 h1 h2 h3 hP hS hA hE hl)
theorem aw_sbald {k : Nat} {i : Int32} (hk : k < aw_nS) (hin : vp_in i (aw_lenS.getD k 0)) (hd : decode M.2.1 pc = .ok (.baload, 1)) (kk : AW G M d mc ms n0 post (pc + 1) lv (.int ((aw_bytS.getD k []).getD i.toNatClampNeg 0) :: st) w) : AW G M d mc ms n0 post pc lv (.int i :: .retAddr (100 + k) :: st) w := by
  intro p e R s m args below meth c A ad0 ad H locs cells slots ls X h0 h1 h2 h3 hP hS hA hE hl
  exact va_tb X.1 X.2.1 ((hE.1.1 k hk).2.2.2) hS hin rfl hd (kk p e R s m args below meth c A ad0 ad H locs cells slots ls X h0 h1 h2 h3 hP hS hA hE hl)
theorem aw_ldcS {idx k : Nat} {tx : String} (hs : (M.1.cls, idx, tx, k) ∈ aw_strs) (hd : decode M.2.1 pc = .ok (.ldc idx, 2)) (kk : AW G M d mc ms n0 post (pc + 2) lv (.retAddr k :: st) w) : AW G M d mc ms n0 post pc lv st w := by
  intro p e R s m args below meth c A ad0 ad H locs cells slots ls X h0 h1 h2 h3 hP hS hA hE hl
  exact va_ldcS X.1 X.2.1 X.2.2.2.1 (X.2.2.2.2.2.2.2.2.2.2.2.2 _ hs) hd (kk p e R s m args below meth c A ad0 ad H locs cells slots ls X h0 h1 h2 h3 hP hS hA hE hl)
theorem aw_callVS {idx n q : Nat} {Mc : aw_M} {st0 As vsc : List Value} (hL : aw_L M.1.cls idx Mc n) (hin : Cond.instanceMethod Mc.1 ∈ aw_T) (hse : Cond.selects Mc.1.cls Mc.1 Mc.1 ∈ aw_T) (hcl : Mc.1.cls = "java/lang/String") (hk : q < aw_nS) (hd1 : d1 + 1 ≤ d) (hC : AC G Mc d1 mc1 ms1 n1 (.retAddr q :: vsc) wc postc) (is : List Nat)
    (hvs : As = vsc.map (aw_r is)) (hvok : vsc.all (aw_okv is.length) = true) (hn : As.length = n) (hst : st0 = As.reverse ++ .retAddr q :: st) (hd : decode M.2.1 pc = .ok (.invokevirtual idx, 3))
    (hsel : is.map (fun i => w[i]?) = wc.map (fun x => some (aw_re is x))) (hchk : aw_chk w is wc n0 n1 lv st = true)
    (kk : ∀ (v : Option Value) (wc' : aw_W), postc v wc' → ∃ (w' : aw_W) (st' : List Value), aw_chk2 is wc' v = true ∧ aw_mf aw_e0 is (wc'.map (aw_re (aw_is w.length is wc'.length))) w 0 ++ (wc'.map (aw_re (aw_is w.length is wc'.length))).drop is.length = w' ∧ (v.map (aw_r (aw_is w.length is wc'.length))).toList ++ st = st' ∧ AW G M d mc ms n0 post (pc + 3) lv st' w') : AW G M d (mc1 + mc) (ms1 + ms) n0 post pc lv st0 w := by
  intro p e R s m args below meth c A ad0 ad H locs cells slots ls X h0 h1 h2 h3 hP hS hA hE hl
  have hchk0 := hchk
  simp only [aw_chk, Bool.and_eq_true] at hchk0
  obtain ⟨hok, hnd, -, -, -, -, hsum, -⟩ := hchk0
  have hst2 : ((st.map (aw_v G ad)).map fun v => v.category).sum = (st.map fun v => v.category).sum := by simp [Function.comp_def, aw_cat]
  have hps := aw_pcs (vs := .retAddr q :: As) (vsc := .retAddr q :: vsc) X hP hS hA hE hsel hok hnd (by rw [hvs]; rfl) (by simpa [aw_okv] using hvok)
  have hrv := vk_recv hE.1 hk hS
  rw [← hcl] at hrv
  refine aw_after (st0 := st0.map (aw_v G ad)) X h0 h1 h2 h3 hP hS hA hE hl (va_runV (b := aw_cs G q) (As := As.map (aw_v G ad)) (n := n) (C := Mc.1.cls) ⟨X.1, X.2.1, X.2.2.1, X.2.2.2.1, X.2.2.2.2.1⟩ (hC (is.map (fun i => ad.getD i 0)) H.size) ⟨aw_callB X hL hd1, X.2.2.2.2.1 _ hin, X.2.2.2.2.1 _ hse⟩ ⟨hps.1, hrv, hps.2⟩ rfl (by simpa using hn) hl.1 (by subst hst; simp [aw_v]) (lv_room (by rw [hst2]; exact Nat.le_of_ble_eq_true hsum)) hd ⟨by omega, by omega⟩) hsel hchk kk
end AwStr
section Strings
theorem aw_strs_ok : ∀ k, k < aw_nS → aw_lenS.getD k 0 = (aw_bytS.getD k []).length ∧ aw_lenS.getD k 0 < 100 ∧ ∀ j, j < aw_lenS.getD k 0 → 0 < ((aw_bytS.getD k []).getD j 0).toInt ∧ ((aw_bytS.getD k []).getD j 0).toInt < 127 := by decide +kernel
theorem kJ3_ck {G : aw_G} {d : Nat} {i n : Int32} {post : Int32 → Unit → Prop} (h1 : ¬ i < 0) (h2 : i < n) (h : post i ()) : AC G MJ3_checkIndex_8e157 d 0 0 0 [.int i, .int n, aw_fmt G] [] (aw_pi (fun _ : Unit => []) post) := by
  have hlv : lv_args 0 [.int i, .int n, aw_fmt G] = [(0, .int i), (1, .int n), (2, aw_fmt G)] := rfl
  have hsl : (lg_sl [.int i, .int n, aw_fmt G]).length ≤ MJ3_checkIndex_8e157.2.2.1 := by
    unfold aw_fmt
    split <;> exact Nat.le_of_ble_eq_true rfl
  refine AC.ofF (lv := [(0, .int i), (1, .int n), (2, aw_fmt G)]) (by decide +kernel) hsl hlv ?_
  refine aw_iload_n 0 dJ3_checkIndex_8e157_0 rfl rfl ?_
  refine aw_if_lt 9 dJ3_checkIndex_8e157_1 (by decide) (fun c => absurd c h1) (fun c => ?_)
  refine aw_iload_n 0 dJ3_checkIndex_8e157_4 rfl rfl ?_
  refine aw_iload_n 1 dJ3_checkIndex_8e157_5 rfl rfl ?_
  refine aw_icmp_lt 16 dJ3_checkIndex_8e157_6 (by decide) (fun c => ?_) (fun c => absurd h2 c)
  refine aw_iload_n 0 dJ3_checkIndex_8e157_16 rfl rfl ?_
  exact aw_iret rfl dJ3_checkIndex_8e157_17 ⟨_, (), rfl, rfl, h⟩
theorem kJ0_ck {G : aw_G} {d : Nat} (hd : 1 ≤ d) {i n : Int32} {post : Unit → Prop} (h1 : ¬ i < 0) (h2 : i < n) (h : post ()) : AC G MJ0_checkIndex_df160 d 0 0 0 [.int i, .int n] [] (aw_pv (fun _ : Unit => []) post) := by
  refine AC.ofF (lv := [(0, .int i), (1, .int n)]) (by decide +kernel) (Nat.le_of_ble_eq_true rfl) rfl ?_
  refine aw_iload_n 0 dJ0_checkIndex_df160_0 rfl rfl ?_
  refine aw_iload_n 1 dJ0_checkIndex_df160_1 rfl rfl ?_
  refine aw_getfmt fl_J0_1053 dJ0_checkIndex_df160_2 ?_
  have hr : [Value.int i, .int n, aw_fmt G] = [Value.int i, .int n, aw_fmt G].map (aw_r []) := by
    unfold aw_fmt
    split <;> rfl
  have hk : [Value.int i, .int n, aw_fmt G].all (aw_okv ([] : List Nat).length) = true := by
    unfold aw_fmt
    split <;> rfl
  refine aw_callS (mc := 0) (ms := 0) (st := []) (As := [.int i, .int n, aw_fmt G]) (vsc := [.int i, .int n, aw_fmt G]) lJ0_1059 sttJ3_checkIndex_8e157 (by omega) (kJ3_ck (d := 0) (post := fun r _ => r = i) h1 h2 rfl) [] hr hk rfl rfl dJ0_checkIndex_df160_5 rfl rfl (fun _ _ hh => ?_)
  obtain ⟨r, τ, rfl, rfl, h9⟩ := hh
  refine ⟨[], [.int r], rfl, rfl, rfl, ?_⟩
  refine aw_pop dJ0_checkIndex_df160_8 rfl ?_
  exact aw_vret rfl dJ0_checkIndex_df160_9 ⟨(), rfl, rfl, h⟩
theorem kJ0_coder {G : aw_G} {d k : Nat} (hk : k < aw_nS) {post : Int32 → Unit → Prop} (h : post 0 ()) : AC G MJ0_coder_7d493 d 0 0 0 [.retAddr k] [] (aw_pi (fun _ : Unit => []) post) := by
  refine AC.ofF (lv := [(0, .retAddr k)]) (by decide +kernel) (Nat.le_of_ble_eq_true rfl) rfl ?_
  refine aw_compact fl_J0_38 dJ0_coder_7d493_0 ?_
  refine aw_if_eq 13 dJ0_coder_7d493_3 (by decide) (fun c => absurd c (by decide)) (fun c => ?_)
  refine aw_aload_nS 0 dJ0_coder_7d493_6 rfl rfl ?_
  refine aw_strcod hk fl_J0_15 dJ0_coder_7d493_7 ?_
  refine aw_goto 14 dJ0_coder_7d493_10 (by decide) ?_
  exact aw_zret rfl rfl dJ0_coder_7d493_14 ⟨_, (), rfl, rfl, h⟩
theorem kJ0_lat {G : aw_G} {d k : Nat} (hk : k < aw_nS) {post : Int32 → Unit → Prop} (h : post 1 ()) : AC G MJ0_isLatin1_aae02 d 0 0 0 [.retAddr k] [] (aw_pi (fun _ : Unit => []) post) := by
  refine AC.ofF (lv := [(0, .retAddr k)]) (by decide +kernel) (Nat.le_of_ble_eq_true rfl) rfl ?_
  refine aw_compact fl_J0_38 dJ0_isLatin1_aae02_0 ?_
  refine aw_if_eq 17 dJ0_isLatin1_aae02_3 (by decide) (fun c => absurd c (by decide)) (fun c => ?_)
  refine aw_aload_nS 0 dJ0_isLatin1_aae02_6 rfl rfl ?_
  refine aw_strcod hk fl_J0_15 dJ0_isLatin1_aae02_7 ?_
  refine aw_if_ne 17 dJ0_isLatin1_aae02_10 (by decide) (fun c => absurd rfl c) (fun c => ?_)
  refine aw_iconst (v := 1) dJ0_isLatin1_aae02_13 (by decide) ?_
  refine aw_goto 18 dJ0_isLatin1_aae02_14 (by decide) ?_
  exact aw_zret rfl rfl dJ0_isLatin1_aae02_18 ⟨_, (), rfl, rfl, h⟩
theorem kJ0_length {G : aw_G} {d k : Nat} (hd : 1 ≤ d) (hk : k < aw_nS) {post : Int32 → Unit → Prop} (h : post (nI (aw_lenS.getD k 0)) ()) : AC G MJ0_length_8abf5 d 0 0 0 [.retAddr k] [] (aw_pi (fun _ : Unit => []) post) := by
  refine AC.ofF (lv := [(0, .retAddr k)]) (by decide +kernel) (Nat.le_of_ble_eq_true rfl) rfl ?_
  refine aw_aload_nS 0 dJ0_length_8abf5_0 rfl rfl ?_
  refine aw_strval hk fl_J0_9 dJ0_length_8abf5_1 ?_
  refine aw_slen hk dJ0_length_8abf5_4 ?_
  refine aw_aload_nS 0 dJ0_length_8abf5_5 rfl rfl ?_
  refine aw_callVS (mc := 0) (ms := 0) (st := [.int (nI (aw_lenS.getD k 0))]) (As := []) (vsc := []) lJ0_335 insJ0_coder_7d493 selJ0_coder_7d493 rfl hk (by omega) (kJ0_coder (d := 0) hk (post := fun r _ => r = 0) rfl) [] rfl rfl rfl rfl dJ0_length_8abf5_6 rfl rfl (fun _ _ hh => ?_)
  obtain ⟨r, τ, rfl, rfl, h9⟩ := hh
  refine ⟨[], [.int r, .int (nI (aw_lenS.getD k 0))], rfl, rfl, rfl, ?_⟩
  refine aw_ishr dJ0_length_8abf5_9 ?_
  have hl := (aw_strs_ok k hk).2.1
  have e : nI (aw_lenS.getD k 0) >>> (r &&& 31) = nI (aw_lenS.getD k 0) := by rw [h9]; exact sc_shr0 (by omega)
  rw [e]
  exact aw_iret rfl dJ0_length_8abf5_10 ⟨_, (), rfl, rfl, h⟩
def aw_ch (k : Nat) (i : Int32) : Int32 := ((((aw_bytS.getD k []).getD i.toNatClampNeg 0) &&& 255).toUInt32 % 65536).toInt32
theorem kJ1_charAt {G : aw_G} {d k : Nat} (hd : 2 ≤ d) (hk : k < aw_nS) {i : Int32} (hi : vp_in i (aw_lenS.getD k 0)) {post : Int32 → Unit → Prop} (h : post (aw_ch k i) ()) : AC G MJ1_charAt_3b067 d 0 0 0 [.retAddr (100 + k), .int i] [] (aw_pi (fun _ : Unit => []) post) := by
  have hl := (aw_strs_ok k hk).2.1
  obtain ⟨j, hj, rfl⟩ := vp_in_of hi (by omega)
  refine AC.ofF (lv := [(0, .retAddr (100 + k)), (1, .int (nI j))]) (by decide +kernel) (Nat.le_of_ble_eq_true rfl) rfl ?_
  refine aw_iload_n 1 dJ1_charAt_3b067_0 rfl rfl ?_
  refine aw_aload_nS 0 dJ1_charAt_3b067_1 rfl rfl ?_
  refine aw_slen hk dJ1_charAt_3b067_2 ?_
  refine aw_callS (mc := 0) (ms := 0) (st := []) (As := [.int (nI j), .int (nI (aw_lenS.getD k 0))]) (vsc := [.int (nI j), .int (nI (aw_lenS.getD k 0))]) lJ1_9 sttJ0_checkIndex_df160 (by omega) (kJ0_ck (d := 1) (by omega) (post := fun _ => True) (nI_pos (by omega)) (nI_lt hj (by omega)) trivial) [] rfl rfl rfl rfl dJ1_charAt_3b067_3 rfl rfl (fun _ _ hh => ?_)
  obtain ⟨τ, rfl, rfl, h9⟩ := hh
  refine ⟨[], [], rfl, rfl, rfl, ?_⟩
  refine aw_aload_nS 0 dJ1_charAt_3b067_6 rfl rfl ?_
  refine aw_iload_n 1 dJ1_charAt_3b067_7 rfl rfl ?_
  refine aw_sbald hk hi dJ1_charAt_3b067_8 ?_
  refine aw_sipush (v := 255) dJ1_charAt_3b067_9 (by decide) ?_
  refine aw_iand dJ1_charAt_3b067_12 ?_
  refine aw_i2c dJ1_charAt_3b067_13 ?_
  exact aw_zret rfl (pk_nc _) dJ1_charAt_3b067_14 ⟨_, (), rfl, rfl, h⟩
theorem kJ0_charAt {G : aw_G} {d k : Nat} (hd : 3 ≤ d) (hk : k < aw_nS) {i : Int32} (hi : vp_in i (aw_lenS.getD k 0)) {post : Int32 → Unit → Prop} (h : post (aw_ch k i) ()) : AC G MJ0_charAt_5068e d 0 0 0 [.retAddr k, .int i] [] (aw_pi (fun _ : Unit => []) post) := by
  refine AC.ofF (lv := [(0, .retAddr k), (1, .int i)]) (by decide +kernel) (Nat.le_of_ble_eq_true rfl) rfl ?_
  refine aw_aload_nS 0 dJ0_charAt_5068e_0 rfl rfl ?_
  refine aw_callVS (mc := 0) (ms := 0) (st := []) (As := []) (vsc := []) lJ0_492 insJ0_isLatin1_aae02 selJ0_isLatin1_aae02 rfl hk (by omega) (kJ0_lat (d := 0) hk (post := fun r _ => r = 1) rfl) [] rfl rfl rfl rfl dJ0_charAt_5068e_1 rfl rfl (fun _ _ hh => ?_)
  obtain ⟨r, τ, rfl, rfl, h9⟩ := hh
  refine ⟨[], [.int r], rfl, rfl, rfl, ?_⟩
  refine aw_if_eq 16 dJ0_charAt_5068e_4 (by decide) (fun c => absurd (h9.symm.trans c) (by decide)) (fun c => ?_)
  refine aw_aload_nS 0 dJ0_charAt_5068e_7 rfl rfl ?_
  refine aw_strval hk fl_J0_9 dJ0_charAt_5068e_8 ?_
  refine aw_iload_n 1 dJ0_charAt_5068e_11 rfl rfl ?_
  refine aw_callS (mc := 0) (ms := 0) (st := []) (As := [.retAddr (100 + k), .int i]) (vsc := [.retAddr (100 + k), .int i]) lJ0_495 sttJ1_charAt_3b067 (by omega) (kJ1_charAt (d := 2) (by omega) hk hi (post := fun r _ => r = aw_ch k i) rfl) [] rfl rfl rfl rfl dJ0_charAt_5068e_12 rfl rfl (fun _ _ hh => ?_)
  obtain ⟨r2, τ, rfl, rfl, h8⟩ := hh
  refine ⟨[], [.int r2], rfl, rfl, rfl, ?_⟩
  rw [h8]
  exact aw_zret rfl (pk_nc _) dJ0_charAt_5068e_15 ⟨_, (), rfl, rfl, h⟩
theorem kJ1_canEncode {G : aw_G} {d : Nat} {x : Int32} {post : Int32 → Unit → Prop} (h1 : ¬ x < 0) (h2 : ¬ 255 < x) (h : post 1 ()) : AC G MJ1_canEncode_9a6ad d 0 0 0 [.int x] [] (aw_pi (fun _ : Unit => []) post) := by
  refine AC.ofF (lv := [(0, .int x)]) (by decide +kernel) (Nat.le_of_ble_eq_true rfl) rfl ?_
  refine aw_iload_n 0 dJ1_canEncode_9a6ad_0 rfl rfl ?_
  refine aw_if_lt 15 dJ1_canEncode_9a6ad_1 (by decide) (fun c => absurd c h1) (fun c => ?_)
  refine aw_iload_n 0 dJ1_canEncode_9a6ad_4 rfl rfl ?_
  refine aw_sipush (v := 255) dJ1_canEncode_9a6ad_5 (by decide) ?_
  refine aw_icmp_gt 15 dJ1_canEncode_9a6ad_8 (by decide) (fun c => absurd c h2) (fun c => ?_)
  refine aw_iconst (v := 1) dJ1_canEncode_9a6ad_11 (by decide) ?_
  refine aw_goto 16 dJ1_canEncode_9a6ad_12 (by decide) ?_
  exact aw_zret rfl rfl dJ1_canEncode_9a6ad_16 ⟨_, (), rfl, rfl, h⟩
/-- the first place, from i on, at which the text has the byte b, or -1 -/
def aw_ixF (k : Nat) (b : Int32) : Nat → Nat → Int32
  | 0, _ => -1
  | n + 1, i => if (aw_bytS.getD k []).getD i 0 = b then nI i else aw_ixF k b n (i + 1)
theorem kJ1_ixloop {G : aw_G} {d k : Nat} (hk : k < aw_nS) {x b : Int32} {post : Int32 → Unit → Prop} : ∀ (n i : Nat), i + n = aw_lenS.getD k 0 → post (aw_ixF k b n i) () → AW G MJ1_indexOfChar_4cfef d 0 0 0 (aw_pi (fun _ : Unit => []) post) 7 [(0, .retAddr (100 + k)), (3, .int (nI (aw_lenS.getD k 0))), (4, .int b), (5, .int (nI i))] [] [] := by
  have hl := (aw_strs_ok k hk).2.1
  intro n
  induction n with
  | zero =>
    intro i hi h
    have e : i = aw_lenS.getD k 0 := by omega
    refine aw_iload 3 dJ1_indexOfChar_4cfef_7 rfl ?_
    refine aw_iload_n 1 dJ1_indexOfChar_4cfef_9 rfl rfl ?_
    refine aw_icmp_ge 31 dJ1_indexOfChar_4cfef_10 (by decide) (fun c => ?_) (fun c => absurd (by rw [e]; exact Int32.le_refl _) c)
    refine aw_iconst (v := -1) dJ1_indexOfChar_4cfef_31 (by decide) ?_
    exact aw_iret rfl dJ1_indexOfChar_4cfef_32 ⟨_, (), rfl, rfl, h⟩
  | succ n ih =>
    intro i hi h
    refine aw_iload 3 dJ1_indexOfChar_4cfef_7 rfl ?_
    refine aw_iload_n 1 dJ1_indexOfChar_4cfef_9 rfl rfl ?_
    refine aw_icmp_ge 31 dJ1_indexOfChar_4cfef_10 (by decide) (fun c => absurd c (nI_ge (by omega) (by omega))) (fun c => ?_)
    refine aw_aload_nS 0 dJ1_indexOfChar_4cfef_13 rfl rfl ?_
    refine aw_iload 3 dJ1_indexOfChar_4cfef_14 rfl ?_
    refine aw_sbald hk (vp_in_nI (by omega) (by omega)) dJ1_indexOfChar_4cfef_16 ?_
    refine aw_iload 2 dJ1_indexOfChar_4cfef_17 rfl ?_
    rw [nI_clamp (by omega)]
    unfold aw_ixF at h
    refine aw_icmp_ne 25 dJ1_indexOfChar_4cfef_19 (by decide) (fun c => ?_) (fun c => ?_)
    · rw [if_neg c] at h
      refine aw_iinc 3 (v := nI (i + 1)) (lv' := [(5, .int (nI (i + 1))), (0, .retAddr (100 + k)), (3, .int (nI (aw_lenS.getD k 0))), (4, .int b)]) dJ1_indexOfChar_4cfef_25 rfl (nI_1 i) (by decide) rfl ?_
      refine aw_goto 7 dJ1_indexOfChar_4cfef_28 (by decide) ?_
      refine aw_lvsub (lv' := [(0, .retAddr (100 + k)), (3, .int (nI (aw_lenS.getD k 0))), (4, .int b), (5, .int (nI (i + 1)))]) [1, 2, 3, 0] rfl ?_
      exact ih (i + 1) (by omega) h
    · rw [if_pos c] at h
      refine aw_iload 3 dJ1_indexOfChar_4cfef_22 rfl ?_
      exact aw_iret rfl dJ1_indexOfChar_4cfef_24 ⟨_, (), rfl, rfl, h⟩
theorem kJ1_indexOfChar {G : aw_G} {d k : Nat} (hk : k < aw_nS) {x : Int32} {post : Int32 → Unit → Prop} (h : post (aw_ixF k x.toInt8.toInt32 (aw_lenS.getD k 0) 0) ()) : AC G MJ1_indexOfChar_4cfef d 0 0 0 [.retAddr (100 + k), .int x, .int 0, .int (nI (aw_lenS.getD k 0))] [] (aw_pi (fun _ : Unit => []) post) := by
  refine AC.ofF (lv := [(0, .retAddr (100 + k)), (1, .int x), (2, .int 0), (3, .int (nI (aw_lenS.getD k 0)))]) (by decide +kernel) (Nat.le_of_ble_eq_true rfl) rfl ?_
  refine aw_iload_n 1 dJ1_indexOfChar_4cfef_0 rfl rfl ?_
  refine aw_i2b dJ1_indexOfChar_4cfef_1 ?_
  refine aw_istore (lv' := [(4, .int x.toInt8.toInt32), (0, .retAddr (100 + k)), (1, .int x), (2, .int 0), (3, .int (nI (aw_lenS.getD k 0)))]) dJ1_indexOfChar_4cfef_2 (by decide) rfl ?_
  refine aw_iload_n 3 dJ1_indexOfChar_4cfef_4 rfl rfl ?_
  refine aw_istore (lv' := [(5, .int 0), (4, .int x.toInt8.toInt32), (0, .retAddr (100 + k)), (1, .int x), (2, .int 0), (3, .int (nI (aw_lenS.getD k 0)))]) dJ1_indexOfChar_4cfef_5 (by decide) rfl ?_
  refine aw_lvsub (lv' := [(0, .retAddr (100 + k)), (3, .int (nI (aw_lenS.getD k 0))), (4, .int x.toInt8.toInt32), (5, .int (nI 0))]) [2, 5, 1, 0] rfl ?_
  exact kJ1_ixloop (x := x) hk _ 0 (by omega) h
theorem kJ1_indexOf {G : aw_G} {d k : Nat} (hd : 1 ≤ d) (hk : k < aw_nS) {x : Int32} {post : Int32 → Unit → Prop} (h1 : ¬ x < 0) (h2 : ¬ 255 < x) (h0 : 0 < aw_lenS.getD k 0) (h : post (aw_ixF k x.toInt8.toInt32 (aw_lenS.getD k 0) 0) ()) : AC G MJ1_indexOf_4cfef d 0 0 0 [.retAddr (100 + k), .int x, .int 0, .int (nI (aw_lenS.getD k 0))] [] (aw_pi (fun _ : Unit => []) post) := by
  have hl := (aw_strs_ok k hk).2.1
  refine AC.ofF (lv := [(0, .retAddr (100 + k)), (1, .int x), (2, .int 0), (3, .int (nI (aw_lenS.getD k 0)))]) (by decide +kernel) (Nat.le_of_ble_eq_true rfl) rfl ?_
  refine aw_iload_n 1 dJ1_indexOf_4cfef_0 rfl rfl ?_
  refine aw_callS (mc := 0) (ms := 0) (st := []) (As := [.int x]) (vsc := [.int x]) lJ1_88 sttJ1_canEncode_9a6ad (by omega) (kJ1_canEncode (d := 0) h1 h2 (post := fun r _ => r = 1) rfl) [] rfl rfl rfl rfl dJ1_indexOf_4cfef_1 rfl rfl (fun _ _ hh => ?_)
  obtain ⟨r, τ, rfl, rfl, h9⟩ := hh
  refine ⟨[], [.int r], rfl, rfl, rfl, ?_⟩
  refine aw_if_ne 9 dJ1_indexOf_4cfef_4 (by decide) (fun c => ?_) (fun c => absurd (h9.symm.trans c) (by decide))
  refine aw_iload_n 2 dJ1_indexOf_4cfef_9 rfl rfl ?_
  refine aw_iconst (v := 0) dJ1_indexOf_4cfef_10 (by decide) ?_
  refine aw_mmax qJ1_92 mathS_max iniJ9 mathK_max (by omega) (Nat.le_of_ble_eq_true rfl) dJ1_indexOf_4cfef_11 ?_
  refine aw_istore_n (lv' := [(2, .int 0), (0, .retAddr (100 + k)), (1, .int x), (3, .int (nI (aw_lenS.getD k 0)))]) dJ1_indexOf_4cfef_14 rfl (by decide) rfl ?_
  refine aw_iload_n 3 dJ1_indexOf_4cfef_15 rfl rfl ?_
  refine aw_aload_nS 1 dJ1_indexOf_4cfef_16 rfl rfl ?_
  refine aw_slen hk dJ1_indexOf_4cfef_17 ?_
  refine aw_mmin qJ1_38 mathS_min iniJ9 mathK_min (by omega) (Nat.le_of_ble_eq_true rfl) dJ1_indexOf_4cfef_18 ?_
  rw [ite_self]
  refine aw_istore_n (lv' := [(3, .int (nI (aw_lenS.getD k 0))), (2, .int 0), (0, .retAddr (100 + k)), (1, .int x)]) dJ1_indexOf_4cfef_21 rfl (by decide) rfl ?_
  refine aw_iload_n 1 dJ1_indexOf_4cfef_22 rfl rfl ?_
  refine aw_iload_n 0 dJ1_indexOf_4cfef_23 rfl rfl ?_
  refine aw_icmp_lt 29 dJ1_indexOf_4cfef_24 (by decide) (fun c => ?_) (fun c => absurd (nI_lt (a := 0) h0 (by omega)) c)
  refine aw_aload_nS 2 dJ1_indexOf_4cfef_29 rfl rfl ?_
  refine aw_iload_n 3 dJ1_indexOf_4cfef_30 rfl rfl ?_
  refine aw_iload_n 1 dJ1_indexOf_4cfef_31 rfl rfl ?_
  refine aw_iload_n 0 dJ1_indexOf_4cfef_32 rfl rfl ?_
  refine aw_callS (mc := 0) (ms := 0) (st := []) (As := [.retAddr (100 + k), .int x, .int 0, .int (nI (aw_lenS.getD k 0))]) (vsc := [.retAddr (100 + k), .int x, .int 0, .int (nI (aw_lenS.getD k 0))]) lJ1_95 sttJ1_indexOfChar_4cfef (by omega) (kJ1_indexOfChar (d := 0) hk (post := fun r _ => r = aw_ixF k x.toInt8.toInt32 (aw_lenS.getD k 0) 0) rfl) [] rfl rfl rfl rfl dJ1_indexOf_4cfef_33 rfl rfl (fun _ _ hh => ?_)
  obtain ⟨r2, τ, rfl, rfl, h8⟩ := hh
  refine ⟨[], [.int r2], rfl, rfl, rfl, ?_⟩
  rw [h8]
  exact aw_iret rfl dJ1_indexOf_4cfef_36 ⟨_, (), rfl, rfl, h⟩
theorem kJ0_indexOf2 {G : aw_G} {d k : Nat} (hd : 2 ≤ d) (hk : k < aw_nS) {x : Int32} {post : Int32 → Unit → Prop} (h1 : ¬ x < 0) (h2 : ¬ 255 < x) (h0 : 0 < aw_lenS.getD k 0) (h : post (aw_ixF k x.toInt8.toInt32 (aw_lenS.getD k 0) 0) ()) : AC G MJ0_indexOf_7cf53 d 0 0 0 [.retAddr k, .int x, .int 0] [] (aw_pi (fun _ : Unit => []) post) := by
  refine AC.ofF (lv := [(0, .retAddr k), (1, .int x), (2, .int 0)]) (by decide +kernel) (Nat.le_of_ble_eq_true rfl) rfl ?_
  refine aw_aload_nS 0 dJ0_indexOf_7cf53_0 rfl rfl ?_
  refine aw_callVS (mc := 0) (ms := 0) (st := []) (As := []) (vsc := []) lJ0_492 insJ0_isLatin1_aae02 selJ0_isLatin1_aae02 rfl hk (by omega) (kJ0_lat (d := 0) hk (post := fun r _ => r = 1) rfl) [] rfl rfl rfl rfl dJ0_indexOf_7cf53_1 rfl rfl (fun _ _ hh => ?_)
  obtain ⟨r, τ, rfl, rfl, h9⟩ := hh
  refine ⟨[], [.int r], rfl, rfl, rfl, ?_⟩
  refine aw_if_eq 23 dJ0_indexOf_7cf53_4 (by decide) (fun c => absurd (h9.symm.trans c) (by decide)) (fun c => ?_)
  refine aw_aload_nS 0 dJ0_indexOf_7cf53_7 rfl rfl ?_
  refine aw_strval hk fl_J0_9 dJ0_indexOf_7cf53_8 ?_
  refine aw_iload_n 1 dJ0_indexOf_7cf53_11 rfl rfl ?_
  refine aw_iload_n 2 dJ0_indexOf_7cf53_12 rfl rfl ?_
  refine aw_aload_nS 0 dJ0_indexOf_7cf53_13 rfl rfl ?_
  refine aw_callVS (mc := 0) (ms := 0) (st := [.int 0, .int x, .retAddr (100 + k)]) (As := []) (vsc := []) lJ0_505 insJ0_length_8abf5 selJ0_length_8abf5 rfl hk (by omega) (kJ0_length (d := 1) (by omega) hk (post := fun r _ => r = nI (aw_lenS.getD k 0)) rfl) [] rfl rfl rfl rfl dJ0_indexOf_7cf53_14 rfl rfl (fun _ _ hh => ?_)
  obtain ⟨r3, τ, rfl, rfl, h7⟩ := hh
  refine ⟨[], [.int r3, .int 0, .int x, .retAddr (100 + k)], rfl, rfl, rfl, ?_⟩
  rw [h7]
  refine aw_callS (mc := 0) (ms := 0) (st := []) (As := [.retAddr (100 + k), .int x, .int 0, .int (nI (aw_lenS.getD k 0))]) (vsc := [.retAddr (100 + k), .int x, .int 0, .int (nI (aw_lenS.getD k 0))]) lJ0_637 sttJ1_indexOf_4cfef (by omega) (kJ1_indexOf (d := 1) (by omega) hk h1 h2 h0 (post := fun r _ => r = aw_ixF k x.toInt8.toInt32 (aw_lenS.getD k 0) 0) rfl) [] rfl rfl rfl rfl dJ0_indexOf_7cf53_17 rfl rfl (fun _ _ hh => ?_)
  obtain ⟨r2, τ, rfl, rfl, h8⟩ := hh
  refine ⟨[], [.int r2], rfl, rfl, rfl, ?_⟩
  rw [h8]
  refine aw_goto 36 dJ0_indexOf_7cf53_20 (by decide) ?_
  exact aw_iret rfl dJ0_indexOf_7cf53_36 ⟨_, (), rfl, rfl, h⟩
theorem kJ0_indexOf {G : aw_G} {d k : Nat} (hd : 3 ≤ d) (hk : k < aw_nS) {x : Int32} {post : Int32 → Unit → Prop} (h1 : ¬ x < 0) (h2 : ¬ 255 < x) (h0 : 0 < aw_lenS.getD k 0) (h : post (aw_ixF k x.toInt8.toInt32 (aw_lenS.getD k 0) 0) ()) : AC G MJ0_indexOf_0f7a4 d 0 0 0 [.retAddr k, .int x] [] (aw_pi (fun _ : Unit => []) post) := by
  refine AC.ofF (lv := [(0, .retAddr k), (1, .int x)]) (by decide +kernel) (Nat.le_of_ble_eq_true rfl) rfl ?_
  refine aw_aload_nS 0 dJ0_indexOf_0f7a4_0 rfl rfl ?_
  refine aw_iload_n 1 dJ0_indexOf_0f7a4_1 rfl rfl ?_
  refine aw_iconst (v := 0) dJ0_indexOf_0f7a4_2 (by decide) ?_
  refine aw_callVS (mc := 0) (ms := 0) (st := []) (As := [.int x, .int 0]) (vsc := [.int x, .int 0]) lJ0_633 insJ0_indexOf_7cf53 selJ0_indexOf_7cf53 rfl hk (by omega) (kJ0_indexOf2 (d := 2) (by omega) hk h1 h2 h0 (post := fun r _ => r = aw_ixF k x.toInt8.toInt32 (aw_lenS.getD k 0) 0) rfl) [] rfl rfl rfl rfl dJ0_indexOf_0f7a4_3 rfl rfl (fun _ _ hh => ?_)
  obtain ⟨r2, τ, rfl, rfl, h8⟩ := hh
  refine ⟨[], [.int r2], rfl, rfl, rfl, ?_⟩
  rw [h8]
  exact aw_iret rfl dJ0_indexOf_0f7a4_6 ⟨_, (), rfl, rfl, h⟩
end Strings
