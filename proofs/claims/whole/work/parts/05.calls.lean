
section AwMerge
def aw_ix : List Nat → Nat → Option Nat
  | [], _ => none
  | a :: l, i => bif Nat.beq a i then some 0 else (aw_ix l i).map (· + 1)
theorem aw_ix_none : ∀ (l : List Nat) (i : Nat), i ∉ l → aw_ix l i = none
  | [], _, _ => rfl
  | a :: l, i, h => by
    have h1 : ¬ a = i := fun e => h (by rw [e]; exact List.mem_cons_self)
    have h2 : i ∉ l := fun e => h (List.mem_cons_of_mem _ e)
    have hb : Nat.beq a i = false := by
      cases hb : Nat.beq a i with
      | true => exact absurd (Nat.eq_of_beq_eq_true hb) h1
      | false => rfl
    simp [aw_ix, hb, aw_ix_none l i h2]
theorem aw_ix_some : ∀ (l : List Nat) (j i : Nat), va_nd l = true → l[j]? = some i → aw_ix l i = some j
  | [], j, i, _, h => by simp at h
  | a :: l, j, i, hn, h => by
    simp only [va_nd, Bool.and_eq_true, decide_eq_true_eq] at hn
    cases j with
    | zero =>
      simp at h
      simp [aw_ix, Nat.beq_eq, h]
    | succ j =>
      rw [List.getElem?_cons_succ] at h
      have h1 : ¬ a = i := fun e => hn.1 (by rw [e]; exact List.mem_of_getElem? h)
      have hb : Nat.beq a i = false := by
        cases hb : Nat.beq a i with
        | true => exact absurd (Nat.eq_of_beq_eq_true hb) h1
        | false => rfl
      simp [aw_ix, hb, aw_ix_some l j i hn.2 h]
/-- xs, with ys put at the places is; what ys has more goes behind -/
def aw_mg {α : Type} (x : α) (xs : List α) (is : List Nat) (ys : List α) : List α := (List.range xs.length).map (fun i => match aw_ix is i with | some j => ys.getD j x | none => xs.getD i x) ++ ys.drop is.length
/-- the same, walked along the list -/
def aw_mf {α : Type} (x : α) (is : List Nat) (ys : List α) : List α → Nat → List α
  | [], _ => []
  | a :: l, i => (match aw_ix is i with | some j => ys.getD j x | none => a) :: aw_mf x is ys l (i + 1)
theorem aw_mf_eq {α : Type} (x : α) (is : List Nat) (ys : List α) : ∀ (l : List α) (k : Nat), aw_mf x is ys l k = (List.range l.length).map (fun i => match aw_ix is (k + i) with | some j => ys.getD j x | none => l.getD i x)
  | [], _ => rfl
  | a :: l, k => by
    rw [aw_mf, aw_mf_eq x is ys l (k + 1), List.length_cons, List.range_succ_eq_map, List.map_cons, List.map_map]
    congr 1
    apply List.map_congr_left
    intro i _
    simp only [Function.comp]
    rw [show k + 1 + i = k + (i + 1) by omega]
    rfl
theorem aw_mg_mf {α : Type} (x : α) (xs : List α) (is : List Nat) (ys : List α) : aw_mg x xs is ys = aw_mf x is ys xs 0 ++ ys.drop is.length := by
  rw [aw_mf_eq]
  simp [aw_mg]
def aw_is (N : Nat) (is : List Nat) (k : Nat) : List Nat := is ++ List.range' N (k - is.length)
section
variable {α : Type} {x : α} {xs ys : List α} {is : List Nat}
theorem aw_mg_len (h : is.length ≤ ys.length) : (aw_mg x xs is ys).length = xs.length + (ys.length - is.length) := by simp [aw_mg]
theorem aw_mg_keep {i : Nat} (hi : i < xs.length) (hn : i ∉ is) : (aw_mg x xs is ys)[i]? = xs[i]? := by
  unfold aw_mg
  rw [List.getElem?_append_left (by simp; exact hi)]
  simp [List.getElem?_range, hi, aw_ix_none is i hn, List.getD]
theorem aw_mg_at (hlt : ∀ i ∈ is, i < xs.length) (hnd : va_nd is = true) (hl : is.length ≤ ys.length) {j i : Nat} (h : (aw_is xs.length is ys.length)[j]? = some i) : (aw_mg x xs is ys)[i]? = ys[j]? := by
  unfold aw_is at h
  by_cases hj : j < is.length
  · rw [List.getElem?_append_left hj] at h
    have hi : i < xs.length := hlt i (List.mem_of_getElem? h)
    have hjy : j < ys.length := by omega
    unfold aw_mg
    rw [List.getElem?_append_left (by simp; exact hi)]
    simp [List.getElem?_range, hi, aw_ix_some is j i hnd h, List.getD, hjy]
  · rw [List.getElem?_append_right (by omega)] at h
    have hz := (List.getElem?_eq_some_iff.mp h).1
    rw [List.length_range'] at hz
    rw [List.getElem?_range' (by omega)] at h
    simp at h
    unfold aw_mg
    rw [List.getElem?_append_right (by simp; omega)]
    rw [List.getElem?_drop]
    simp
    congr 1
    omega
theorem aw_mg_cases (hl : is.length ≤ ys.length) {k : Nat} (hk : k < (aw_mg x xs is ys).length) : (k < xs.length ∧ k ∉ is) ∨ ∃ j : Nat, (aw_is xs.length is ys.length)[j]? = some k := by
  rw [aw_mg_len hl] at hk
  by_cases h : k < xs.length
  · by_cases hm : k ∈ is
    · obtain ⟨j, hj⟩ := List.getElem?_of_mem hm
      refine Or.inr ⟨j, ?_⟩
      unfold aw_is
      rw [List.getElem?_append_left (List.getElem?_eq_some_iff.mp hj).1]
      exact hj
    · exact Or.inl ⟨h, hm⟩
  · refine Or.inr ⟨is.length + (k - xs.length), ?_⟩
    unfold aw_is
    rw [List.getElem?_append_right (by omega), List.getElem?_range' (by omega)]
    simp
    omega
end
/-- references within n places -/
def aw_okv (n : Nat) (v : Value) : Bool := match v with
  | .ref k => Nat.blt k n
  | _ => true
def aw_oke (n : Nat) (x : va_E) : Bool := match x with
  | .inl _ => true
  | .inr o => o.2.all (aw_okv n)
/-- references within n places, to none of bad -/
def aw_kpv (n : Nat) (bad : List Nat) (v : Value) : Bool := match v with
  | .ref k => Nat.blt k n && !(bad.contains k)
  | _ => true
def aw_kpe (n : Nat) (bad : List Nat) (x : va_E) : Bool := match x with
  | .inl _ => true
  | .inr o => o.2.all (aw_kpv n bad)
theorem aw_v_comp {G : aw_G} {ad is : List Nat} {v : Value} (h : aw_okv is.length v = true) : aw_v G ad (aw_r is v) = aw_v G (is.map (fun i => ad.getD i 0)) v := by
  cases v with
  | ref k =>
    have hk : k < is.length := by simpa [aw_okv] using h
    simp [aw_v, aw_r, List.getD, hk]
  | _ => rfl
theorem aw_v_congr {G : aw_G} {ad ad2 : List Nat} {n : Nat} {bad : List Nat} {v : Value} (h : aw_kpv n bad v = true) (hk : ∀ k, k < n → k ∉ bad → ad2.getD k 0 = ad.getD k 0) : aw_v G ad2 v = aw_v G ad v := by
  cases v with
  | ref k =>
    simp [aw_kpv] at h
    show Value.ref _ = Value.ref _
    rw [hk k h.1 h.2]
  | _ => rfl
theorem aw_map_congr {G : aw_G} {ad ad2 : List Nat} {n : Nat} {bad : List Nat} {vs : List Value} (h : vs.all (aw_kpv n bad) = true) (hk : ∀ k, k < n → k ∉ bad → ad2.getD k 0 = ad.getD k 0) : vs.map (aw_v G ad2) = vs.map (aw_v G ad) := List.map_congr_left fun v hv => aw_v_congr (List.all_eq_true.mp h v hv) hk
theorem aw_e_congr {G : aw_G} {ad ad2 : List Nat} {n : Nat} {bad : List Nat} {x : va_E} (h : aw_kpe n bad x = true) (hk : ∀ k, k < n → k ∉ bad → ad2.getD k 0 = ad.getD k 0) : aw_e G ad2 x = aw_e G ad x := by
  cases x with
  | inl a => rfl
  | inr o => simp only [aw_e]; rw [aw_map_congr h hk]
theorem aw_e_comp {G : aw_G} {ad is : List Nat} {x : va_E} (h : aw_oke is.length x = true) : aw_e G ad (aw_re is x) = aw_e G (is.map (fun i => ad.getD i 0)) x := by
  cases x with
  | inl a => rfl
  | inr o =>
    simp only [aw_e, aw_re, List.map_map]
    congr 2
    exact List.map_congr_left fun v hv => aw_v_comp (List.all_eq_true.mp h v hv)
theorem aw_map_comp {G : aw_G} {ad is : List Nat} {vs : List Value} (h : vs.all (aw_okv is.length) = true) : (vs.map (aw_r is)).map (aw_v G ad) = vs.map (aw_v G (is.map (fun i => ad.getD i 0))) := by
  rw [List.map_map]
  exact List.map_congr_left fun v hv => aw_v_comp (List.all_eq_true.mp h v hv)
/-- the callee's cells, cut out of the caller's -/
theorem aw_cut {G : aw_G} {ad : List Nat} {w wc : aw_W} {is : List Nat} (hl : ad.length = w.length) (hsel : is.map (fun i => w[i]?) = wc.map (fun x => some (aw_re is x))) (hok : wc.all (aw_oke is.length) = true) : is.map (fun i => (aw_c G ad w)[i]?) = (aw_c G (is.map (fun i => ad.getD i 0)) wc).map some := by
  have hlen : is.length = wc.length := by have := congrArg List.length hsel; simpa using this
  apply List.ext_getElem?
  intro j
  by_cases hj : j < is.length
  · have hjc : j < wc.length := by omega
    have h1 : (is.map (fun i => w[i]?))[j]? = (wc.map (fun x => some (aw_re is x)))[j]? := by rw [hsel]
    simp [hj, hjc] at h1
    have hx : wc[j]? = some wc[j] := List.getElem?_eq_getElem hjc
    have hox : aw_oke is.length wc[j] = true := List.all_eq_true.mp hok _ (List.getElem_mem hjc)
    rw [List.getElem?_map, List.getElem?_map, List.getElem?_eq_getElem hj, aw_c_get (by simpa using hlen) hx]
    simp only [Option.map_some]
    rw [aw_c_get hl h1, aw_e_comp hox]
    simp [List.getD, hj]
  · rw [List.getElem?_eq_none (by simp; omega), List.getElem?_eq_none (by simp [aw_c]; omega)]
end AwMerge
section AwAfter
variable {G : aw_G} {A : Nat → Prop} {ad ad' : List Nat} {w wc wc' : aw_W} {is : List Nat} {n1 : Nat} {H H1 : Heap}
theorem aw_take_get {l l2 : List Nat} {n k : Nat} (h : l.take n = l2.take n) (hk : k < n) : l[k]? = l2[k]? := by
  have := congrArg (fun q => q[k]?) h
  simpa [List.getElem?_take, hk] using this
theorem aw_getD {l l2 : List Nat} {i j : Nat} (h : l[i]? = l2[j]?) : l.getD i 0 = l2.getD j 0 := by simp [List.getD, h]
theorem aw_lt (hsel : is.map (fun i => w[i]?) = wc.map (fun x => some (aw_re is x))) : ∀ i ∈ is, i < w.length := by
  intro i hi
  obtain ⟨j, hj⟩ := List.getElem?_of_mem hi
  have hjl := (List.getElem?_eq_some_iff.mp hj).1
  have h1 : (is.map (fun i => w[i]?))[j]? = (wc.map (fun x => some (aw_re is x)))[j]? := by rw [hsel]
  have hlen2 : is.length = wc.length := by have := congrArg List.length hsel; simpa using this
  have hjc : j < wc.length := by omega
  rw [List.getElem?_map, hj, List.getElem?_map, List.getElem?_eq_getElem hjc] at h1
  simp only [Option.map_some, Option.some.injEq] at h1
  exact (List.getElem?_eq_some_iff.mp h1).1
theorem aw_comp (hl : ad.length = w.length) (hsel : is.map (fun i => w[i]?) = wc.map (fun x => some (aw_re is x))) (hl' : ad'.length = wc'.length) (hlen : is.length ≤ wc'.length) (hnd : va_nd is = true) : (aw_is w.length is wc'.length).map (fun i => (aw_mg 0 ad is ad').getD i 0) = ad' := by
  have hlt := aw_lt hsel
  have hlad : is.length ≤ ad'.length := by omega
  have hisl : (aw_is w.length is wc'.length).length = wc'.length := by simp [aw_is]; omega
  apply List.ext_getElem?
  intro j
  by_cases hj : j < wc'.length
  · have hjs : j < (aw_is w.length is wc'.length).length := by omega
    have e1 : (aw_is w.length is wc'.length)[j]? = some (aw_is w.length is wc'.length)[j] := List.getElem?_eq_getElem hjs
    have e2 := aw_mg_at (x := 0) (xs := ad) (ys := ad') (is := is) (j := j) (i := (aw_is w.length is wc'.length)[j]) (by rw [hl]; exact hlt) hnd hlad (by rw [hl, hl']; exact e1)
    have hja : j < ad'.length := by omega
    rw [List.getElem?_map, e1]
    simp only [Option.map_some]
    rw [aw_getD e2]
    simp [List.getD, hja]
  · rw [List.getElem?_eq_none (by simp; omega), List.getElem?_eq_none (by omega)]
theorem aw_stay (hl : ad.length = w.length) (hsel : is.map (fun i => w[i]?) = wc.map (fun x => some (aw_re is x))) (hlen : is.length ≤ ad'.length) (hnd : va_nd is = true)
    (htk : ad'.take n1 = (is.map (fun i => ad.getD i 0)).take n1) : ∀ k, k < w.length → k ∉ is.drop n1 → (aw_mg 0 ad is ad').getD k 0 = ad.getD k 0 := by
  have hlt := aw_lt hsel
  intro k hk hb
  by_cases hm : k ∈ is
  · obtain ⟨j, hj⟩ := List.getElem?_of_mem hm
    have hjl := (List.getElem?_eq_some_iff.mp hj).1
    have hj1 : j < n1 := by
      rcases Nat.lt_or_ge j n1 with h | h
      · exact h
      · refine absurd (List.mem_of_getElem? (i := j - n1) ?_) hb
        rw [List.getElem?_drop]
        rw [show n1 + (j - n1) = j by omega]
        exact hj
    have h1 : (aw_mg 0 ad is ad')[k]? = ad'[j]? := aw_mg_at (by rw [hl]; exact hlt) hnd hlen (by unfold aw_is; rw [List.getElem?_append_left hjl]; exact hj)
    have h2 : ad'[j]? = (is.map (fun i => ad.getD i 0))[j]? := aw_take_get htk hj1
    rw [aw_getD (h1.trans h2)]
    simp [List.getD, hj]
  · exact aw_getD (aw_mg_keep (by omega) hm)
theorem aw_joined (hP : aw_P G A ad w H) (hsel : is.map (fun i => w[i]?) = wc.map (fun x => some (aw_re is x))) (hok : wc.all (aw_oke is.length) = true) (hnd : va_nd is = true)
    (hk : ∀ q : Nat, q < H.size → ¬ va_A (aw_c G (is.map (fun i => ad.getD i 0)) wc) H.size q → H1[q]? = H[q]?) (hF : ∀ q, va_A (aw_c G (is.map (fun i => ad.getD i 0)) wc) H.size q → A q)
    (hPc : aw_P G (va_A (aw_c G (is.map (fun i => ad.getD i 0)) wc) H.size) ad' wc' H1) (htk : ad'.take n1 = (is.map (fun i => ad.getD i 0)).take n1)
    (hlen : is.length ≤ wc'.length) (hok' : wc'.all (aw_oke wc'.length) = true) (hkeep : ∀ i, i < w.length → i ∉ is → ∀ x, w[i]? = some x → aw_kpe w.length (is.drop n1) x = true) :
    aw_P G A (aw_mg 0 ad is ad') (aw_mg (.inl (0, 0, .inl (fun _ => 0))) w is (wc'.map (aw_re (aw_is w.length is wc'.length)))) H1 := by
  obtain ⟨hl, hP0, hD0⟩ := hP
  obtain ⟨hl', hP1, hD1⟩ := hPc
  have hlen2 : is.length = wc.length := by have := congrArg List.length hsel; simpa using this
  have hlt := aw_lt hsel
  have hcut := aw_cut (G := G) hl hsel hok
  have hlad : is.length ≤ ad'.length := by omega
  have hll : (aw_mg 0 ad is ad').length = (aw_mg (.inl (0, 0, .inl (fun _ => 0))) w is (wc'.map (aw_re (aw_is w.length is wc'.length)))).length := by
    rw [aw_mg_len hlad, aw_mg_len (by simpa using hlen)]
    simp [hl, hl']
  have hstay := aw_stay (n1 := n1) hl hsel hlad hnd htk
  have hisl : (aw_is w.length is wc'.length).length = wc'.length := by simp [aw_is]; omega
  have hcomp : (aw_is w.length is wc'.length).map (fun i => (aw_mg 0 ad is ad').getD i 0) = ad' := aw_comp hl hsel hl' hlen hnd
  have key : ∀ (k : Nat) (q : Nat × va_E), (aw_c G (aw_mg 0 ad is ad') (aw_mg (.inl (0, 0, .inl (fun _ => 0))) w is (wc'.map (aw_re (aw_is w.length is wc'.length)))))[k]? = some q → (k ∉ is ∧ k < w.length ∧ (aw_c G ad w)[k]? = some q) ∨ ∃ j : Nat, (aw_is w.length is wc'.length)[j]? = some k ∧ (aw_c G ad' wc')[j]? = some q := by
    intro k q hq
    obtain ⟨x, hx, rfl⟩ := aw_c_inv hll hq
    have hkl : k < (aw_mg (.inl (0, 0, .inl (fun _ => 0))) w is (wc'.map (aw_re (aw_is w.length is wc'.length)))).length := (List.getElem?_eq_some_iff.mp hx).1
    rcases aw_mg_cases (by simpa using hlen) hkl with ⟨h1, h2⟩ | ⟨j, hj⟩
    · left
      refine ⟨h2, h1, ?_⟩
      rw [aw_mg_keep h1 h2] at hx
      rw [aw_c_get hl hx, aw_e_congr (hkeep k h1 h2 x hx) hstay, aw_getD (aw_mg_keep (x := 0) (xs := ad) (ys := ad') (is := is) (by omega) h2)]
    · right
      rw [List.length_map] at hj
      refine ⟨j, hj, ?_⟩
      have hjl : j < wc'.length := by have := (List.getElem?_eq_some_iff.mp hj).1; omega
      rw [aw_mg_at (by exact hlt) hnd (by simpa using hlen) (by rw [List.length_map]; exact hj)] at hx
      rw [List.getElem?_map, List.getElem?_eq_getElem hjl] at hx
      simp only [Option.map_some, Option.some.injEq] at hx
      subst hx
      rw [aw_c_get hl' (List.getElem?_eq_getElem hjl), aw_e_comp (by rw [hisl]; exact List.all_eq_true.mp hok' _ (List.getElem_mem hjl)), hcomp]
      rw [aw_getD (aw_mg_at (x := 0) (xs := ad) (ys := ad') (is := is) (j := j) (i := k) (by rw [hl]; exact hlt) hnd hlad (by rw [hl, hl']; exact hj))]
  have apart : ∀ (k : Nat) (q : Nat × va_E), k ∉ is → (aw_c G ad w)[k]? = some q → q.1 < H.size ∧ ¬ va_A (aw_c G (is.map (fun i => ad.getD i 0)) wc) H.size q.1 := by
    intro k q hm hq
    have hlq := (hP0 k q hq).lt
    refine ⟨hlq, fun h => ?_⟩
    rcases h with ⟨k2, e, h⟩ | h
    · have h1 : (is.map (fun i => (aw_c G ad w)[i]?))[k2]? = some (some (q.1, e)) := by rw [hcut, List.getElem?_map, h]; rfl
      rw [List.getElem?_map] at h1
      cases hi : is[k2]? with
      | none => rw [hi] at h1; cases h1
      | some i =>
        rw [hi] at h1
        have h4 : (aw_c G ad w)[i]? = some (q.1, e) := Option.some.inj h1
        have := hD0.1 k i q (q.1, e) hq h4 rfl
        subst this
        exact hm (List.mem_of_getElem? hi)
    · omega
  refine ⟨hll, fun k q hq => ?_, fun i j x y hi hj hxy => ?_, fun k q hq => ?_⟩
  · rcases key k q hq with ⟨h1, h2, h3⟩ | ⟨j, h1, h2⟩
    · obtain ⟨g1, g2⟩ := apart k q h1 h3
      exact (hP0 k q h3).kept (hk q.1 g1 g2)
    · exact hP1 j q h2
  · rcases key i x hi with ⟨a1, a2, a3⟩ | ⟨j1, a1, a2⟩ <;> rcases key j y hj with ⟨b1, b2, b3⟩ | ⟨j2, b1, b2⟩
    · exact hD0.1 i j x y a3 b3 hxy
    · exact absurd (by rw [hxy]; exact hD1.2 j2 y b2) (apart i x a1 a3).2
    · exact absurd (by rw [← hxy]; exact hD1.2 j1 x a2) (apart j y b1 b3).2
    · have := hD1.1 j1 j2 x y a2 b2 hxy
      subst this
      exact Option.some.inj (a1.symm.trans b1)
  · rcases key k q hq with ⟨h1, h2, h3⟩ | ⟨j, h1, h2⟩
    · exact hD0.2 k q h3
    · exact hF _ (hD1.2 j q h2)
end AwAfter

