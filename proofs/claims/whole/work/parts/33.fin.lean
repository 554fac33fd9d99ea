section Fin
theorem W_mono {p : Program} {l : Launch} {e : Env} {R : Room} {s : State} {m : MethodId} {args : Array Value} {below : List Frame} {meth : Method} {c : Code} {H : Heap} {locs : List Loc} {cells slots : Nat} {Q Q' : State → Prop} {g : JFrame} (h : W p l e R s m args below meth c H locs cells slots Q g) (hq : ∀ t, Q t → Q' t) : W p l e R s m args below meth c H locs cells slots Q' g := by
  intro T hT X
  obtain ⟨t, a, b⟩ := h T hT X
  exact ⟨t, a, hq t b⟩
/-- the law out of its loop's predicate -/
theorem law_out {p : Program} {e : Env} {s : State} {m : MethodId} {below : List Frame} {meth : Method} {c : Code} (l : Launch) {b L : Nat} {xs : Nat → Int32} (hL : L ≤ 3072) (C0 : lw_At p s m meth c b L xs)
    (hw : ∀ G : aw_G, aw_sL G = L → aw_sx G = xs → ∃ n, wp_L_law_18 G (fun _ _ => True) n (iX11, iX12) 0 59933 8818415) :
    W p l e room_1 s m #[Value.ref b] below meth c s.heap [] 0 0 (lw_Z below #[Value.ref b] s) (entryFrame m ([Value.ref b] : List Value).toArray 4) := by
  obtain ⟨G, hG1, hG2, hG3, hG4, hK, hE⟩ := law_G l hL C0
  obtain ⟨hx, hb, hr, hml, hown, hts, hX, hbl, hlocks, hgv⟩ := id C0
  obtain ⟨n, hn⟩ := hw G hG2 hG3
  have key : AW G ML_law 806 60000 8922250 0 (fun v _ => v = some (.int 1)) 0 [(0, .retAddr 400)] [] [] := by
    refine aw_new (q := 0) (fs := [.null, .null, .null, .null, .null, .null, .null, .null, .null, .int 0, .int 0, .int 0]) (mc := 59999) (ms := 8922238) (w' := [.inr (11, [.null, .null, .null, .null, .null, .null, .null, .null, .null, .int 0, .int 0, .int 0])]) hX11 clL_7 itX11 iniX11 (fun j hj => co_dec (P := fun j => defaultValue (tyX11 j) = vp_V [.null, .null, .null, .null, .null, .null, .null, .null, .null, .int 0, .int 0, .int 0] j) (N := 12) (by decide) hj) (fun _ => rfl) rfl rfl rfl dL_law_0 ?_
    refine aw_dup dL_law_3 rfl ?_
    refine aw_callI (mc1 := 41) (ms1 := 13407) (mc := 59958) (ms := 8908831) (st := [.ref 0]) (q := 0) (As := []) (q0 := 0) (vsc := []) lL_9 insX11_init ⟨rfl, rfl⟩ (by omega) (kinit_X11 (d := 3) (by omega)) [0] rfl rfl rfl rfl dL_law_4 rfl rfl (fun _ _ hh => ?_)
    obtain ⟨rfl, rfl⟩ := hh
    refine ⟨(wX11 G iX11), [.ref 0], rfl, rfl, rfl, ?_⟩
    refine aw_astore_n (lv' := [(1, .ref 0), (0, .retAddr 400)]) dL_law_7 rfl (by decide) rfl ?_
    refine aw_new (q := 42) (fs := [.null, .int 0, .int 0, .null, .null, .null, .int 0, .int 0, .int 0, .null, .null, .null, .null, .null, .null, .int 0, .null, .null, .null, .null, .null, .int 0, .int 0, .int 0, .null, .null, .int 0, .int 0, .int 0, .int 0, .int 0, .int 0, .int 0, .null, .null, .int 0, .int 0, .int 0, .int 0, .int 0, .null, .null, .null, .null, .int 0, .int 0, .int 0, .int 0, .long 0, .null]) (mc := 59957) (ms := 8908781) (w' := (wX11 G iX11) ++ [.inr (12, [.null, .int 0, .int 0, .null, .null, .null, .int 0, .int 0, .int 0, .null, .null, .null, .null, .null, .null, .int 0, .null, .null, .null, .null, .null, .int 0, .int 0, .int 0, .null, .null, .int 0, .int 0, .int 0, .int 0, .int 0, .int 0, .int 0, .null, .null, .int 0, .int 0, .int 0, .int 0, .int 0, .null, .null, .null, .null, .int 0, .int 0, .int 0, .int 0, .long 0, .null])]) hX12 clL_10 itX12 iniX12 (fun j hj => co_dec (P := fun j => defaultValue (tyX12 j) = vp_V [.null, .int 0, .int 0, .null, .null, .null, .int 0, .int 0, .int 0, .null, .null, .null, .null, .null, .null, .int 0, .null, .null, .null, .null, .null, .int 0, .int 0, .int 0, .null, .null, .int 0, .int 0, .int 0, .int 0, .int 0, .int 0, .int 0, .null, .null, .int 0, .int 0, .int 0, .int 0, .int 0, .null, .null, .null, .null, .int 0, .int 0, .int 0, .int 0, .long 0, .null] j) (N := 50) (by decide) hj) (fun _ => rfl) rfl rfl rfl dL_law_8 ?_
    refine aw_dup dL_law_11 rfl ?_
    refine aw_callI (mc1 := 24) (ms1 := 90366) (mc := 59933) (ms := 8818415) (st := [.ref 42]) (q := 42) (As := []) (q0 := 0) (vsc := []) lL_12 insX12_init ⟨rfl, rfl⟩ (by omega) (kinit_X12 (d := 1) (by omega)) [42] rfl rfl rfl rfl dL_law_12 rfl rfl (fun _ _ hh => ?_)
    obtain ⟨rfl, rfl⟩ := hh
    refine ⟨(wLW G (iX11, iX12)), [.ref 42], rfl, rfl, rfl, ?_⟩
    refine aw_astore_n (lv' := [(2, .ref 42), (1, .ref 0), (0, .retAddr 400)]) dL_law_15 rfl (by decide) rfl ?_
    refine aw_iconst (v := 0) dL_law_16 (by decide) ?_
    refine aw_istore_n (lv' := [(3, .int 0), (2, .ref 42), (1, .ref 0), (0, .retAddr 400)]) dL_law_17 rfl (by decide) rfl ?_
    refine aw_lvsub (lv' := [(0, .retAddr 400), (1, .ref 0), (2, .ref 42), (3, .int 0)]) [3, 2, 1, 0] rfl ?_
    exact aw_L_law_18 (by omega) n (iX11, iX12) 0 _ _ hn
  have hl := lv_entry ([.ref b]) (n := 4) (Nat.le_of_ble_eq_true rfl)
  rw [lg_entry_eq]
  have hl : lv_has ((lg_sl ([.ref b]) ++ List.replicate (4 - (lg_sl ([.ref b])).length) Slot.unset).toArray) 4 ([(0, .retAddr 400)].map (aw_l G [])) := by
    have e1 : [(0, Value.retAddr 400)].map (aw_l G []) = lv_args 0 [.ref b] := by
      show [(0, Value.ref (aw_cs G 400))] = _
      rw [hG4]
      rfl
    rw [e1]
    exact hl
  have hW := key p e room_1 s m #[Value.ref b] below meth c (fun q : Nat => s.heap.size ≤ q) [] [] s.heap [] 0 0 _ ⟨hx, hb, hml, hown, fun w hw => hts w (List.mem_filter.mp hw).1, hr, hlocks, fun h => absurd h (by decide), by decide, by decide, hK⟩ rfl (Nat.le_refl _) (by decide) (by decide) ⟨rfl, fun k q h => by simp [aw_c] at h, fun i j p q h => by simp [aw_c] at h, fun k q h => by simp [aw_c] at h⟩ va_S.rf (fun _ h => h) hE hl
  rw [hG1] at hW
  refine W_mono hW (fun t ht => ?_)
  obtain ⟨o, h1, h2, ⟨⟨v, w, ad, ho, hp, -, -⟩, -⟩, Lc, hF, hL2⟩ := ht
  subst hp
  refine ⟨o, h1, h2, ho, hF.1, hF.2.1, hF.2.2.weaken (fun y hy hlt => absurd hlt (Nat.not_lt.mpr (hL2 y hy))) (Nat.le_refl _) (Nat.le_refl _)⟩
end Fin
