section AwRows
variable {G : aw_G} {M : aw_M} {d mc ms n0 pc : Nat} {lv : List (Nat × Value)} {st : List Value} {w : aw_W} {post : Option Value → aw_W → Prop}
theorem aw_iconst {n : Int} {v : Int32} (hd : decode M.2.1 pc = .ok (.iconst n, 1)) (hv : Int32.ofInt n = v) (kk : AW G M d mc ms n0 post (pc + 1) lv (.int v :: st) w) : AW G M d mc ms n0 post pc lv st w := by
  intro p e R s m args below meth c A ad0 ad H locs cells slots ls X h0 h1 h2 h3 hP hS hA hE hl
  exact lv_iconst X.1 X.2.1 hd hv (kk p e R s m args below meth c A ad0 ad H locs cells slots ls X h0 h1 h2 h3 hP hS hA hE hl)
theorem aw_bipush {n : Int} {v : Int32} (hd : decode M.2.1 pc = .ok (.bipush n, 2)) (hv : (Int8.ofInt n).toInt32 = v) (kk : AW G M d mc ms n0 post (pc + 2) lv (.int v :: st) w) : AW G M d mc ms n0 post pc lv st w := by
  intro p e R s m args below meth c A ad0 ad H locs cells slots ls X h0 h1 h2 h3 hP hS hA hE hl
  exact lv_bipush X.1 X.2.1 hd hv (kk p e R s m args below meth c A ad0 ad H locs cells slots ls X h0 h1 h2 h3 hP hS hA hE hl)
theorem aw_sipush {n : Int} {v : Int32} (hd : decode M.2.1 pc = .ok (.sipush n, 3)) (hv : (Int16.ofInt n).toInt32 = v) (kk : AW G M d mc ms n0 post (pc + 3) lv (.int v :: st) w) : AW G M d mc ms n0 post pc lv st w := by
  intro p e R s m args below meth c A ad0 ad H locs cells slots ls X h0 h1 h2 h3 hP hS hA hE hl
  exact lv_sipush X.1 X.2.1 hd hv (kk p e R s m args below meth c A ad0 ad H locs cells slots ls X h0 h1 h2 h3 hP hS hA hE hl)
theorem aw_lconst {n : Fin 2} {v : Int64} (hd : decode M.2.1 pc = .ok (.lconst n, 1)) (hv : Int64.ofNat (n : Nat) = v) (kk : AW G M d mc ms n0 post (pc + 1) lv (.long v :: st) w) : AW G M d mc ms n0 post pc lv st w := by
  intro p e R s m args below meth c A ad0 ad H locs cells slots ls X h0 h1 h2 h3 hP hS hA hE hl
  exact lv_lconst X.1 X.2.1 hd hv (kk p e R s m args below meth c A ad0 ad H locs cells slots ls X h0 h1 h2 h3 hP hS hA hE hl)
theorem aw_ldc {idx : Nat} {v : Int32} (hd : decode M.2.1 pc = .ok (.ldc idx, 2)) (hc : Cond.constant M.1.cls idx v ∈ aw_T) (kk : AW G M d mc ms n0 post (pc + 2) lv (.int v :: st) w) : AW G M d mc ms n0 post pc lv st w := by
  intro p e R s m args below meth c A ad0 ad H locs cells slots ls X h0 h1 h2 h3 hP hS hA hE hl
  exact lv_ldc X.1 X.2.1 X.2.2.2.1 (X.2.2.2.2.1 _ hc) hd (kk p e R s m args below meth c A ad0 ad H locs cells slots ls X h0 h1 h2 h3 hP hS hA hE hl)
theorem aw_ldc2 {idx : Nat} {v : Int64} (hd : decode M.2.1 pc = .ok (.ldc2_w idx, 3)) (hc : Cond.constantLong M.1.cls idx v ∈ aw_T) (kk : AW G M d mc ms n0 post (pc + 3) lv (.long v :: st) w) : AW G M d mc ms n0 post pc lv st w := by
  intro p e R s m args below meth c A ad0 ad H locs cells slots ls X h0 h1 h2 h3 hP hS hA hE hl
  exact lv_ldc2 X.1 X.2.1 X.2.2.2.1 (X.2.2.2.2.1 _ hc) hd (kk p e R s m args below meth c A ad0 ad H locs cells slots ls X h0 h1 h2 h3 hP hS hA hE hl)
theorem aw_ldcw {idx : Nat} {v : Int32} (hd : decode M.2.1 pc = .ok (.ldc_w idx, 3)) (hc : Cond.constant M.1.cls idx v ∈ aw_T) (kk : AW G M d mc ms n0 post (pc + 3) lv (.int v :: st) w) : AW G M d mc ms n0 post pc lv st w := by
  intro p e R s m args below meth c A ad0 ad H locs cells slots ls X h0 h1 h2 h3 hP hS hA hE hl
  exact lv_ldcw X.1 X.2.1 X.2.2.2.1 (X.2.2.2.2.1 _ hc) hd (kk p e R s m args below meth c A ad0 ad H locs cells slots ls X h0 h1 h2 h3 hP hS hA hE hl)
theorem aw_iload_n (j : Nat) {k : Fin 4} {i : Nat} {x : Int32} (hd : decode M.2.1 pc = .ok (.iload_n k, 1)) (hi : (k : Nat) = i) (hv : lv[j]? = some (i, .int x)) (kk : AW G M d mc ms n0 post (pc + 1) lv (.int x :: st) w) : AW G M d mc ms n0 post pc lv st w := by
  intro p e R s m args below meth c A ad0 ad H locs cells slots ls X h0 h1 h2 h3 hP hS hA hE hl
  exact lv_iload_n X.1 X.2.1 hd hi (lv_at hl j (aw_at hv)) (kk p e R s m args below meth c A ad0 ad H locs cells slots ls X h0 h1 h2 h3 hP hS hA hE hl)
theorem aw_iload (j : Nat) {i : Nat} {x : Int32} (hd : decode M.2.1 pc = .ok (.iload i, 2)) (hv : lv[j]? = some (i, .int x)) (kk : AW G M d mc ms n0 post (pc + 2) lv (.int x :: st) w) : AW G M d mc ms n0 post pc lv st w := by
  intro p e R s m args below meth c A ad0 ad H locs cells slots ls X h0 h1 h2 h3 hP hS hA hE hl
  exact lv_iload X.1 X.2.1 hd (lv_at hl j (aw_at hv)) (kk p e R s m args below meth c A ad0 ad H locs cells slots ls X h0 h1 h2 h3 hP hS hA hE hl)
theorem aw_istore_n {k : Fin 4} {i : Nat} {x : Int32} {lv' : List (Nat × Value)} (hd : decode M.2.1 pc = .ok (.istore_n k, 1)) (hi : (k : Nat) = i) (hn : i < M.2.2.1) (hv : (i, Value.int x) :: lv.filter (aw_f1 i) = lv') (kk : AW G M d mc ms n0 post (pc + 1) lv' st w) : AW G M d mc ms n0 post pc lv (.int x :: st) w := by
  intro p e R s m args below meth c A ad0 ad H locs cells slots ls X h0 h1 h2 h3 hP hS hA hE hl
  exact lv_istore_n X.1 X.2.1 hd hi hl hn (aw_lv1 hv) (fun ls hl => kk p e R s m args below meth c A ad0 ad H locs cells slots ls X h0 h1 h2 h3 hP hS hA hE hl)
theorem aw_istore {i : Nat} {x : Int32} {lv' : List (Nat × Value)} (hd : decode M.2.1 pc = .ok (.istore i, 2)) (hn : i < M.2.2.1) (hv : (i, Value.int x) :: lv.filter (aw_f1 i) = lv') (kk : AW G M d mc ms n0 post (pc + 2) lv' st w) : AW G M d mc ms n0 post pc lv (.int x :: st) w := by
  intro p e R s m args below meth c A ad0 ad H locs cells slots ls X h0 h1 h2 h3 hP hS hA hE hl
  exact lv_istore X.1 X.2.1 hd hl hn (aw_lv1 hv) (fun ls hl => kk p e R s m args below meth c A ad0 ad H locs cells slots ls X h0 h1 h2 h3 hP hS hA hE hl)
theorem aw_lload_n (j : Nat) {k : Fin 4} {i : Nat} {x : Int64} (hd : decode M.2.1 pc = .ok (.lload_n k, 1)) (hi : (k : Nat) = i) (hv : lv[j]? = some (i, .long x)) (kk : AW G M d mc ms n0 post (pc + 1) lv (.long x :: st) w) : AW G M d mc ms n0 post pc lv st w := by
  intro p e R s m args below meth c A ad0 ad H locs cells slots ls X h0 h1 h2 h3 hP hS hA hE hl
  exact lv_lload_n X.1 X.2.1 hd hi (lv_at hl j (aw_at hv)) (kk p e R s m args below meth c A ad0 ad H locs cells slots ls X h0 h1 h2 h3 hP hS hA hE hl)
theorem aw_lload (j : Nat) {i : Nat} {x : Int64} (hd : decode M.2.1 pc = .ok (.lload i, 2)) (hv : lv[j]? = some (i, .long x)) (kk : AW G M d mc ms n0 post (pc + 2) lv (.long x :: st) w) : AW G M d mc ms n0 post pc lv st w := by
  intro p e R s m args below meth c A ad0 ad H locs cells slots ls X h0 h1 h2 h3 hP hS hA hE hl
  exact lv_lload X.1 X.2.1 hd (lv_at hl j (aw_at hv)) (kk p e R s m args below meth c A ad0 ad H locs cells slots ls X h0 h1 h2 h3 hP hS hA hE hl)
theorem aw_lstore_n {k : Fin 4} {i : Nat} {x : Int64} {lv' : List (Nat × Value)} (hd : decode M.2.1 pc = .ok (.lstore_n k, 1)) (hi : (k : Nat) = i) (hn : i + 1 < M.2.2.1) (hv : (i, Value.long x) :: lv.filter (aw_f2 i) = lv') (kk : AW G M d mc ms n0 post (pc + 1) lv' st w) : AW G M d mc ms n0 post pc lv (.long x :: st) w := by
  intro p e R s m args below meth c A ad0 ad H locs cells slots ls X h0 h1 h2 h3 hP hS hA hE hl
  exact lv_lstore_n X.1 X.2.1 hd hi hl hn (aw_lv2 hv) (fun ls hl => kk p e R s m args below meth c A ad0 ad H locs cells slots ls X h0 h1 h2 h3 hP hS hA hE hl)
theorem aw_lstore {i : Nat} {x : Int64} {lv' : List (Nat × Value)} (hd : decode M.2.1 pc = .ok (.lstore i, 2)) (hn : i + 1 < M.2.2.1) (hv : (i, Value.long x) :: lv.filter (aw_f2 i) = lv') (kk : AW G M d mc ms n0 post (pc + 2) lv' st w) : AW G M d mc ms n0 post pc lv (.long x :: st) w := by
  intro p e R s m args below meth c A ad0 ad H locs cells slots ls X h0 h1 h2 h3 hP hS hA hE hl
  exact lv_lstore X.1 X.2.1 hd hl hn (aw_lv2 hv) (fun ls hl => kk p e R s m args below meth c A ad0 ad H locs cells slots ls X h0 h1 h2 h3 hP hS hA hE hl)
theorem aw_aload_n (j : Nat) {k : Fin 4} {i : Nat} {x : Nat} (hd : decode M.2.1 pc = .ok (.aload_n k, 1)) (hi : (k : Nat) = i) (hv : lv[j]? = some (i, .ref x)) (kk : AW G M d mc ms n0 post (pc + 1) lv (.ref x :: st) w) : AW G M d mc ms n0 post pc lv st w := by
  intro p e R s m args below meth c A ad0 ad H locs cells slots ls X h0 h1 h2 h3 hP hS hA hE hl
  exact lv_aload_n X.1 X.2.1 hd hi (lv_at hl j (aw_at hv)) (kk p e R s m args below meth c A ad0 ad H locs cells slots ls X h0 h1 h2 h3 hP hS hA hE hl)
theorem aw_aload (j : Nat) {i : Nat} {x : Nat} (hd : decode M.2.1 pc = .ok (.aload i, 2)) (hv : lv[j]? = some (i, .ref x)) (kk : AW G M d mc ms n0 post (pc + 2) lv (.ref x :: st) w) : AW G M d mc ms n0 post pc lv st w := by
  intro p e R s m args below meth c A ad0 ad H locs cells slots ls X h0 h1 h2 h3 hP hS hA hE hl
  exact lv_aload X.1 X.2.1 hd (lv_at hl j (aw_at hv)) (kk p e R s m args below meth c A ad0 ad H locs cells slots ls X h0 h1 h2 h3 hP hS hA hE hl)
theorem aw_astore_n {k : Fin 4} {i : Nat} {x : Nat} {lv' : List (Nat × Value)} (hd : decode M.2.1 pc = .ok (.astore_n k, 1)) (hi : (k : Nat) = i) (hn : i < M.2.2.1) (hv : (i, Value.ref x) :: lv.filter (aw_f1 i) = lv') (kk : AW G M d mc ms n0 post (pc + 1) lv' st w) : AW G M d mc ms n0 post pc lv (.ref x :: st) w := by
  intro p e R s m args below meth c A ad0 ad H locs cells slots ls X h0 h1 h2 h3 hP hS hA hE hl
  exact lv_astore_n X.1 X.2.1 hd hi hl hn (aw_lv1 hv) (fun ls hl => kk p e R s m args below meth c A ad0 ad H locs cells slots ls X h0 h1 h2 h3 hP hS hA hE hl)
theorem aw_astore {i : Nat} {x : Nat} {lv' : List (Nat × Value)} (hd : decode M.2.1 pc = .ok (.astore i, 2)) (hn : i < M.2.2.1) (hv : (i, Value.ref x) :: lv.filter (aw_f1 i) = lv') (kk : AW G M d mc ms n0 post (pc + 2) lv' st w) : AW G M d mc ms n0 post pc lv (.ref x :: st) w := by
  intro p e R s m args below meth c A ad0 ad H locs cells slots ls X h0 h1 h2 h3 hP hS hA hE hl
  exact lv_astore X.1 X.2.1 hd hl hn (aw_lv1 hv) (fun ls hl => kk p e R s m args below meth c A ad0 ad H locs cells slots ls X h0 h1 h2 h3 hP hS hA hE hl)
theorem aw_iinc (j : Nat) {i : Nat} {n : Int} {x v : Int32} {lv' : List (Nat × Value)} (hd : decode M.2.1 pc = .ok (.iinc i n, 3)) (hk : lv[j]? = some (i, .int x)) (hv : x + Int32.ofInt n = v) (hn : i < M.2.2.1) (hv2 : (i, Value.int v) :: lv.filter (aw_f1 i) = lv') (kk : AW G M d mc ms n0 post (pc + 3) lv' st w) : AW G M d mc ms n0 post pc lv st w := by
  intro p e R s m args below meth c A ad0 ad H locs cells slots ls X h0 h1 h2 h3 hP hS hA hE hl
  exact lv_iinc X.1 X.2.1 hd hl (k := j) (aw_at hk) hv hn (aw_lv1 hv2) (fun ls hl => kk p e R s m args below meth c A ad0 ad H locs cells slots ls X h0 h1 h2 h3 hP hS hA hE hl)
theorem aw_iadd {x y : Int32} (hd : decode M.2.1 pc = .ok (.iadd, 1))  (kk : AW G M d mc ms n0 post (pc + 1) lv (.int (x + y) :: st) w) : AW G M d mc ms n0 post pc lv (.int y :: .int x :: st) w := by
  intro p e R s m args below meth c A ad0 ad H locs cells slots ls X h0 h1 h2 h3 hP hS hA hE hl
  exact lv_iadd X.1 X.2.1 hd  (kk p e R s m args below meth c A ad0 ad H locs cells slots ls X h0 h1 h2 h3 hP hS hA hE hl)
theorem aw_isub {x y : Int32} (hd : decode M.2.1 pc = .ok (.isub, 1))  (kk : AW G M d mc ms n0 post (pc + 1) lv (.int (x - y) :: st) w) : AW G M d mc ms n0 post pc lv (.int y :: .int x :: st) w := by
  intro p e R s m args below meth c A ad0 ad H locs cells slots ls X h0 h1 h2 h3 hP hS hA hE hl
  exact lv_isub X.1 X.2.1 hd  (kk p e R s m args below meth c A ad0 ad H locs cells slots ls X h0 h1 h2 h3 hP hS hA hE hl)
theorem aw_imul {x y : Int32} (hd : decode M.2.1 pc = .ok (.imul, 1))  (kk : AW G M d mc ms n0 post (pc + 1) lv (.int (x * y) :: st) w) : AW G M d mc ms n0 post pc lv (.int y :: .int x :: st) w := by
  intro p e R s m args below meth c A ad0 ad H locs cells slots ls X h0 h1 h2 h3 hP hS hA hE hl
  exact lv_imul X.1 X.2.1 hd  (kk p e R s m args below meth c A ad0 ad H locs cells slots ls X h0 h1 h2 h3 hP hS hA hE hl)
theorem aw_iand {x y : Int32} (hd : decode M.2.1 pc = .ok (.iand, 1))  (kk : AW G M d mc ms n0 post (pc + 1) lv (.int (x &&& y) :: st) w) : AW G M d mc ms n0 post pc lv (.int y :: .int x :: st) w := by
  intro p e R s m args below meth c A ad0 ad H locs cells slots ls X h0 h1 h2 h3 hP hS hA hE hl
  exact lv_iand X.1 X.2.1 hd  (kk p e R s m args below meth c A ad0 ad H locs cells slots ls X h0 h1 h2 h3 hP hS hA hE hl)
theorem aw_ior {x y : Int32} (hd : decode M.2.1 pc = .ok (.ior, 1))  (kk : AW G M d mc ms n0 post (pc + 1) lv (.int (x ||| y) :: st) w) : AW G M d mc ms n0 post pc lv (.int y :: .int x :: st) w := by
  intro p e R s m args below meth c A ad0 ad H locs cells slots ls X h0 h1 h2 h3 hP hS hA hE hl
  exact lv_ior X.1 X.2.1 hd  (kk p e R s m args below meth c A ad0 ad H locs cells slots ls X h0 h1 h2 h3 hP hS hA hE hl)
theorem aw_ixor {x y : Int32} (hd : decode M.2.1 pc = .ok (.ixor, 1))  (kk : AW G M d mc ms n0 post (pc + 1) lv (.int (x ^^^ y) :: st) w) : AW G M d mc ms n0 post pc lv (.int y :: .int x :: st) w := by
  intro p e R s m args below meth c A ad0 ad H locs cells slots ls X h0 h1 h2 h3 hP hS hA hE hl
  exact lv_ixor X.1 X.2.1 hd  (kk p e R s m args below meth c A ad0 ad H locs cells slots ls X h0 h1 h2 h3 hP hS hA hE hl)
theorem aw_ishl {x y : Int32} (hd : decode M.2.1 pc = .ok (.ishl, 1))  (kk : AW G M d mc ms n0 post (pc + 1) lv (.int (x <<< (y &&& 31)) :: st) w) : AW G M d mc ms n0 post pc lv (.int y :: .int x :: st) w := by
  intro p e R s m args below meth c A ad0 ad H locs cells slots ls X h0 h1 h2 h3 hP hS hA hE hl
  exact lv_ishl X.1 X.2.1 hd  (kk p e R s m args below meth c A ad0 ad H locs cells slots ls X h0 h1 h2 h3 hP hS hA hE hl)
theorem aw_ishr {x y : Int32} (hd : decode M.2.1 pc = .ok (.ishr, 1))  (kk : AW G M d mc ms n0 post (pc + 1) lv (.int (x >>> (y &&& 31)) :: st) w) : AW G M d mc ms n0 post pc lv (.int y :: .int x :: st) w := by
  intro p e R s m args below meth c A ad0 ad H locs cells slots ls X h0 h1 h2 h3 hP hS hA hE hl
  exact lv_ishr X.1 X.2.1 hd  (kk p e R s m args below meth c A ad0 ad H locs cells slots ls X h0 h1 h2 h3 hP hS hA hE hl)
theorem aw_idiv {x y : Int32} (hd : decode M.2.1 pc = .ok (.idiv, 1)) (hne : ¬ y = 0) (kk : AW G M d mc ms n0 post (pc + 1) lv (.int (x / y) :: st) w) : AW G M d mc ms n0 post pc lv (.int y :: .int x :: st) w := by
  intro p e R s m args below meth c A ad0 ad H locs cells slots ls X h0 h1 h2 h3 hP hS hA hE hl
  exact lv_idiv X.1 X.2.1 hd hne (kk p e R s m args below meth c A ad0 ad H locs cells slots ls X h0 h1 h2 h3 hP hS hA hE hl)
theorem aw_irem {x y : Int32} (hd : decode M.2.1 pc = .ok (.irem, 1)) (hne : ¬ y = 0) (kk : AW G M d mc ms n0 post (pc + 1) lv (.int (x - x / y * y) :: st) w) : AW G M d mc ms n0 post pc lv (.int y :: .int x :: st) w := by
  intro p e R s m args below meth c A ad0 ad H locs cells slots ls X h0 h1 h2 h3 hP hS hA hE hl
  exact lv_irem X.1 X.2.1 hd hne (kk p e R s m args below meth c A ad0 ad H locs cells slots ls X h0 h1 h2 h3 hP hS hA hE hl)
theorem aw_ladd {x y : Int64} (hd : decode M.2.1 pc = .ok (.ladd, 1))  (kk : AW G M d mc ms n0 post (pc + 1) lv (.long (x + y) :: st) w) : AW G M d mc ms n0 post pc lv (.long y :: .long x :: st) w := by
  intro p e R s m args below meth c A ad0 ad H locs cells slots ls X h0 h1 h2 h3 hP hS hA hE hl
  exact lv_ladd X.1 X.2.1 hd  (kk p e R s m args below meth c A ad0 ad H locs cells slots ls X h0 h1 h2 h3 hP hS hA hE hl)
theorem aw_lsub {x y : Int64} (hd : decode M.2.1 pc = .ok (.lsub, 1))  (kk : AW G M d mc ms n0 post (pc + 1) lv (.long (x - y) :: st) w) : AW G M d mc ms n0 post pc lv (.long y :: .long x :: st) w := by
  intro p e R s m args below meth c A ad0 ad H locs cells slots ls X h0 h1 h2 h3 hP hS hA hE hl
  exact lv_lsub X.1 X.2.1 hd  (kk p e R s m args below meth c A ad0 ad H locs cells slots ls X h0 h1 h2 h3 hP hS hA hE hl)
theorem aw_lmul {x y : Int64} (hd : decode M.2.1 pc = .ok (.lmul, 1))  (kk : AW G M d mc ms n0 post (pc + 1) lv (.long (x * y) :: st) w) : AW G M d mc ms n0 post pc lv (.long y :: .long x :: st) w := by
  intro p e R s m args below meth c A ad0 ad H locs cells slots ls X h0 h1 h2 h3 hP hS hA hE hl
  exact lv_lmul X.1 X.2.1 hd  (kk p e R s m args below meth c A ad0 ad H locs cells slots ls X h0 h1 h2 h3 hP hS hA hE hl)
theorem aw_land {x y : Int64} (hd : decode M.2.1 pc = .ok (.land, 1))  (kk : AW G M d mc ms n0 post (pc + 1) lv (.long (x &&& y) :: st) w) : AW G M d mc ms n0 post pc lv (.long y :: .long x :: st) w := by
  intro p e R s m args below meth c A ad0 ad H locs cells slots ls X h0 h1 h2 h3 hP hS hA hE hl
  exact lv_land X.1 X.2.1 hd  (kk p e R s m args below meth c A ad0 ad H locs cells slots ls X h0 h1 h2 h3 hP hS hA hE hl)
theorem aw_lor {x y : Int64} (hd : decode M.2.1 pc = .ok (.lor, 1))  (kk : AW G M d mc ms n0 post (pc + 1) lv (.long (x ||| y) :: st) w) : AW G M d mc ms n0 post pc lv (.long y :: .long x :: st) w := by
  intro p e R s m args below meth c A ad0 ad H locs cells slots ls X h0 h1 h2 h3 hP hS hA hE hl
  exact lv_lor X.1 X.2.1 hd  (kk p e R s m args below meth c A ad0 ad H locs cells slots ls X h0 h1 h2 h3 hP hS hA hE hl)
theorem aw_lxor {x y : Int64} (hd : decode M.2.1 pc = .ok (.lxor, 1))  (kk : AW G M d mc ms n0 post (pc + 1) lv (.long (x ^^^ y) :: st) w) : AW G M d mc ms n0 post pc lv (.long y :: .long x :: st) w := by
  intro p e R s m args below meth c A ad0 ad H locs cells slots ls X h0 h1 h2 h3 hP hS hA hE hl
  exact lv_lxor X.1 X.2.1 hd  (kk p e R s m args below meth c A ad0 ad H locs cells slots ls X h0 h1 h2 h3 hP hS hA hE hl)
theorem aw_ldiv {x y : Int64} (hd : decode M.2.1 pc = .ok (.ldiv, 1)) (hne : ¬ y = 0) (kk : AW G M d mc ms n0 post (pc + 1) lv (.long (x / y) :: st) w) : AW G M d mc ms n0 post pc lv (.long y :: .long x :: st) w := by
  intro p e R s m args below meth c A ad0 ad H locs cells slots ls X h0 h1 h2 h3 hP hS hA hE hl
  exact lv_ldiv X.1 X.2.1 hd hne (kk p e R s m args below meth c A ad0 ad H locs cells slots ls X h0 h1 h2 h3 hP hS hA hE hl)
theorem aw_lrem {x y : Int64} (hd : decode M.2.1 pc = .ok (.lrem, 1)) (hne : ¬ y = 0) (kk : AW G M d mc ms n0 post (pc + 1) lv (.long (x - x / y * y) :: st) w) : AW G M d mc ms n0 post pc lv (.long y :: .long x :: st) w := by
  intro p e R s m args below meth c A ad0 ad H locs cells slots ls X h0 h1 h2 h3 hP hS hA hE hl
  exact lv_lrem X.1 X.2.1 hd hne (kk p e R s m args below meth c A ad0 ad H locs cells slots ls X h0 h1 h2 h3 hP hS hA hE hl)
theorem aw_ineg {x : Int32} (hd : decode M.2.1 pc = .ok (.ineg, 1))  (kk : AW G M d mc ms n0 post (pc + 1) lv (.int (-x) :: st) w) : AW G M d mc ms n0 post pc lv (.int x :: st) w := by
  intro p e R s m args below meth c A ad0 ad H locs cells slots ls X h0 h1 h2 h3 hP hS hA hE hl
  exact lv_ineg X.1 X.2.1 hd  (kk p e R s m args below meth c A ad0 ad H locs cells slots ls X h0 h1 h2 h3 hP hS hA hE hl)
theorem aw_lneg {x : Int64} (hd : decode M.2.1 pc = .ok (.lneg, 1))  (kk : AW G M d mc ms n0 post (pc + 1) lv (.long (-x) :: st) w) : AW G M d mc ms n0 post pc lv (.long x :: st) w := by
  intro p e R s m args below meth c A ad0 ad H locs cells slots ls X h0 h1 h2 h3 hP hS hA hE hl
  exact lv_lneg X.1 X.2.1 hd  (kk p e R s m args below meth c A ad0 ad H locs cells slots ls X h0 h1 h2 h3 hP hS hA hE hl)
theorem aw_i2l {x : Int32} (hd : decode M.2.1 pc = .ok (.i2l, 1))  (kk : AW G M d mc ms n0 post (pc + 1) lv (.long x.toInt64 :: st) w) : AW G M d mc ms n0 post pc lv (.int x :: st) w := by
  intro p e R s m args below meth c A ad0 ad H locs cells slots ls X h0 h1 h2 h3 hP hS hA hE hl
  exact lv_i2l X.1 X.2.1 hd rfl (kk p e R s m args below meth c A ad0 ad H locs cells slots ls X h0 h1 h2 h3 hP hS hA hE hl)
theorem aw_l2i {x : Int64} (hd : decode M.2.1 pc = .ok (.l2i, 1))  (kk : AW G M d mc ms n0 post (pc + 1) lv (.int x.toInt32 :: st) w) : AW G M d mc ms n0 post pc lv (.long x :: st) w := by
  intro p e R s m args below meth c A ad0 ad H locs cells slots ls X h0 h1 h2 h3 hP hS hA hE hl
  exact lv_l2i X.1 X.2.1 hd rfl (kk p e R s m args below meth c A ad0 ad H locs cells slots ls X h0 h1 h2 h3 hP hS hA hE hl)
theorem aw_i2b {x : Int32} (hd : decode M.2.1 pc = .ok (.i2b, 1))  (kk : AW G M d mc ms n0 post (pc + 1) lv (.int x.toInt8.toInt32 :: st) w) : AW G M d mc ms n0 post pc lv (.int x :: st) w := by
  intro p e R s m args below meth c A ad0 ad H locs cells slots ls X h0 h1 h2 h3 hP hS hA hE hl
  exact lv_i2b X.1 X.2.1 hd rfl (kk p e R s m args below meth c A ad0 ad H locs cells slots ls X h0 h1 h2 h3 hP hS hA hE hl)
theorem aw_i2c {x : Int32} (hd : decode M.2.1 pc = .ok (.i2c, 1))  (kk : AW G M d mc ms n0 post (pc + 1) lv (.int (x.toUInt32 % 65536).toInt32 :: st) w) : AW G M d mc ms n0 post pc lv (.int x :: st) w := by
  intro p e R s m args below meth c A ad0 ad H locs cells slots ls X h0 h1 h2 h3 hP hS hA hE hl
  exact lv_i2c X.1 X.2.1 hd rfl (kk p e R s m args below meth c A ad0 ad H locs cells slots ls X h0 h1 h2 h3 hP hS hA hE hl)
theorem aw_iushr {x y : Int32} (hd : decode M.2.1 pc = .ok (.iushr, 1))  (kk : AW G M d mc ms n0 post (pc + 1) lv (.int (x.toUInt32 >>> (y.toUInt32 &&& Int32.toUInt32 31)).toInt32 :: st) w) : AW G M d mc ms n0 post pc lv (.int y :: .int x :: st) w := by
  intro p e R s m args below meth c A ad0 ad H locs cells slots ls X h0 h1 h2 h3 hP hS hA hE hl
  exact lv_iushr X.1 X.2.1 hd rfl (kk p e R s m args below meth c A ad0 ad H locs cells slots ls X h0 h1 h2 h3 hP hS hA hE hl)
theorem aw_lushr {x : Int64} {y : Int32} (hd : decode M.2.1 pc = .ok (.lushr, 1))  (kk : AW G M d mc ms n0 post (pc + 1) lv (.long (x.toUInt64 >>> (y.toInt64.toUInt64 &&& Int64.toUInt64 63)).toInt64 :: st) w) : AW G M d mc ms n0 post pc lv (.int y :: .long x :: st) w := by
  intro p e R s m args below meth c A ad0 ad H locs cells slots ls X h0 h1 h2 h3 hP hS hA hE hl
  exact lv_lushr X.1 X.2.1 hd rfl (kk p e R s m args below meth c A ad0 ad H locs cells slots ls X h0 h1 h2 h3 hP hS hA hE hl)
theorem aw_lshl {x : Int64} {y : Int32} (hd : decode M.2.1 pc = .ok (.lshl, 1))  (kk : AW G M d mc ms n0 post (pc + 1) lv (.long (x <<< (y.toInt64 &&& 63)) :: st) w) : AW G M d mc ms n0 post pc lv (.int y :: .long x :: st) w := by
  intro p e R s m args below meth c A ad0 ad H locs cells slots ls X h0 h1 h2 h3 hP hS hA hE hl
  exact lv_lshl X.1 X.2.1 hd rfl (kk p e R s m args below meth c A ad0 ad H locs cells slots ls X h0 h1 h2 h3 hP hS hA hE hl)
theorem aw_lshr {x : Int64} {y : Int32} (hd : decode M.2.1 pc = .ok (.lshr, 1))  (kk : AW G M d mc ms n0 post (pc + 1) lv (.long (x >>> (y.toInt64 &&& 63)) :: st) w) : AW G M d mc ms n0 post pc lv (.int y :: .long x :: st) w := by
  intro p e R s m args below meth c A ad0 ad H locs cells slots ls X h0 h1 h2 h3 hP hS hA hE hl
  exact lv_lshr X.1 X.2.1 hd rfl (kk p e R s m args below meth c A ad0 ad H locs cells slots ls X h0 h1 h2 h3 hP hS hA hE hl)
theorem aw_lcmp {x y : Int64} (hd : decode M.2.1 pc = .ok (.lcmp, 1))  (kk : AW G M d mc ms n0 post (pc + 1) lv (.int (lg_cmp x y) :: st) w) : AW G M d mc ms n0 post pc lv (.long y :: .long x :: st) w := by
  intro p e R s m args below meth c A ad0 ad H locs cells slots ls X h0 h1 h2 h3 hP hS hA hE hl
  exact W.lcmp X.1 X.2.1 hd  (kk p e R s m args below meth c A ad0 ad H locs cells slots ls X h0 h1 h2 h3 hP hS hA hE hl)
theorem aw_dup {va : Value} (hd : decode M.2.1 pc = .ok (.dup, 1)) (ha : va.category = 1) (kk : AW G M d mc ms n0 post (pc + 1) lv (va :: va :: st) w) : AW G M d mc ms n0 post pc lv (va :: st) w := by
  intro p e R s m args below meth c A ad0 ad H locs cells slots ls X h0 h1 h2 h3 hP hS hA hE hl
  exact lv_dup X.1 X.2.1 hd (by rw [aw_cat]; exact ha) (kk p e R s m args below meth c A ad0 ad H locs cells slots ls X h0 h1 h2 h3 hP hS hA hE hl)
theorem aw_pop {va : Value} (hd : decode M.2.1 pc = .ok (.pop, 1)) (ha : va.category = 1) (kk : AW G M d mc ms n0 post (pc + 1) lv st w) : AW G M d mc ms n0 post pc lv (va :: st) w := by
  intro p e R s m args below meth c A ad0 ad H locs cells slots ls X h0 h1 h2 h3 hP hS hA hE hl
  exact lv_pop X.1 X.2.1 hd (by rw [aw_cat]; exact ha) (kk p e R s m args below meth c A ad0 ad H locs cells slots ls X h0 h1 h2 h3 hP hS hA hE hl)
theorem aw_dup_x1 {va vb : Value} (hd : decode M.2.1 pc = .ok (.dup_x1, 1)) (ha : va.category = 1) (hb : vb.category = 1) (kk : AW G M d mc ms n0 post (pc + 1) lv (va :: vb :: va :: st) w) : AW G M d mc ms n0 post pc lv (va :: vb :: st) w := by
  intro p e R s m args below meth c A ad0 ad H locs cells slots ls X h0 h1 h2 h3 hP hS hA hE hl
  exact lv_dup_x1 X.1 X.2.1 hd (by rw [aw_cat]; exact ha) (by rw [aw_cat]; exact hb) (kk p e R s m args below meth c A ad0 ad H locs cells slots ls X h0 h1 h2 h3 hP hS hA hE hl)
theorem aw_dup_x2 {va vb vd : Value} (hd : decode M.2.1 pc = .ok (.dup_x2, 1)) (ha : va.category = 1) (hb : vb.category = 1) (hc : vd.category = 1) (kk : AW G M d mc ms n0 post (pc + 1) lv (va :: vb :: vd :: va :: st) w) : AW G M d mc ms n0 post pc lv (va :: vb :: vd :: st) w := by
  intro p e R s m args below meth c A ad0 ad H locs cells slots ls X h0 h1 h2 h3 hP hS hA hE hl
  exact lv_dup_x2 X.1 X.2.1 hd (by rw [aw_cat]; exact ha) (by rw [aw_cat]; exact hb) (by rw [aw_cat]; exact hc) (kk p e R s m args below meth c A ad0 ad H locs cells slots ls X h0 h1 h2 h3 hP hS hA hE hl)
theorem aw_dup2_11 {va vb : Value} (hd : decode M.2.1 pc = .ok (.dup2, 1)) (ha : va.category = 1) (hb : vb.category = 1) (kk : AW G M d mc ms n0 post (pc + 1) lv (va :: vb :: va :: vb :: st) w) : AW G M d mc ms n0 post pc lv (va :: vb :: st) w := by
  intro p e R s m args below meth c A ad0 ad H locs cells slots ls X h0 h1 h2 h3 hP hS hA hE hl
  exact lv_dup2_11 X.1 X.2.1 hd (by rw [aw_cat]; exact ha) (by rw [aw_cat]; exact hb) (kk p e R s m args below meth c A ad0 ad H locs cells slots ls X h0 h1 h2 h3 hP hS hA hE hl)
theorem aw_dup2_2 {va : Value} (hd : decode M.2.1 pc = .ok (.dup2, 1)) (ha : va.category = 2) (kk : AW G M d mc ms n0 post (pc + 1) lv (va :: va :: st) w) : AW G M d mc ms n0 post pc lv (va :: st) w := by
  intro p e R s m args below meth c A ad0 ad H locs cells slots ls X h0 h1 h2 h3 hP hS hA hE hl
  exact lv_dup2_2 X.1 X.2.1 hd (by rw [aw_cat]; exact ha) (kk p e R s m args below meth c A ad0 ad H locs cells slots ls X h0 h1 h2 h3 hP hS hA hE hl)
theorem aw_pop2_2 {va : Value} (hd : decode M.2.1 pc = .ok (.pop2, 1)) (ha : va.category = 2) (kk : AW G M d mc ms n0 post (pc + 1) lv st w) : AW G M d mc ms n0 post pc lv (va :: st) w := by
  intro p e R s m args below meth c A ad0 ad H locs cells slots ls X h0 h1 h2 h3 hP hS hA hE hl
  exact lv_pop2_2 X.1 X.2.1 hd (by rw [aw_cat]; exact ha) (kk p e R s m args below meth c A ad0 ad H locs cells slots ls X h0 h1 h2 h3 hP hS hA hE hl)
theorem aw_dup2_x1_2 {va vb : Value} (hd : decode M.2.1 pc = .ok (.dup2_x1, 1)) (ha : va.category = 2) (hb : vb.category = 1) (kk : AW G M d mc ms n0 post (pc + 1) lv (va :: vb :: va :: st) w) : AW G M d mc ms n0 post pc lv (va :: vb :: st) w := by
  intro p e R s m args below meth c A ad0 ad H locs cells slots ls X h0 h1 h2 h3 hP hS hA hE hl
  exact lv_dup2_x1_2 X.1 X.2.1 hd (by rw [aw_cat]; exact ha) (by rw [aw_cat]; exact hb) (kk p e R s m args below meth c A ad0 ad H locs cells slots ls X h0 h1 h2 h3 hP hS hA hE hl)
theorem aw_if_eq (tgt : Nat) {x : Int32} {off : Int} (hd : decode M.2.1 pc = .ok (.ifCond .eq off, 3)) (ht : (pc : Int) + off = (tgt : Int)) (kt : x = 0 → AW G M d mc ms n0 post tgt lv st w) (kf : ¬ x = 0 → AW G M d mc ms n0 post (pc + 3) lv st w) : AW G M d mc ms n0 post pc lv (.int x :: st) w := by
  intro p e R s m args below meth c A ad0 ad H locs cells slots ls X h0 h1 h2 h3 hP hS hA hE hl
  exact lv_if_eq X.1 X.2.1 hd ht (fun q => kt q p e R s m args below meth c A ad0 ad H locs cells slots ls X h0 h1 h2 h3 hP hS hA hE hl) (fun q => kf q p e R s m args below meth c A ad0 ad H locs cells slots ls X h0 h1 h2 h3 hP hS hA hE hl)
theorem aw_icmp_eq (tgt : Nat) {x y : Int32} {off : Int} (hd : decode M.2.1 pc = .ok (.if_icmp .eq off, 3)) (ht : (pc : Int) + off = (tgt : Int)) (kt : x = y → AW G M d mc ms n0 post tgt lv st w) (kf : ¬ x = y → AW G M d mc ms n0 post (pc + 3) lv st w) : AW G M d mc ms n0 post pc lv (.int y :: .int x :: st) w := by
  intro p e R s m args below meth c A ad0 ad H locs cells slots ls X h0 h1 h2 h3 hP hS hA hE hl
  exact lv_icmp_eq X.1 X.2.1 hd ht (fun q => kt q p e R s m args below meth c A ad0 ad H locs cells slots ls X h0 h1 h2 h3 hP hS hA hE hl) (fun q => kf q p e R s m args below meth c A ad0 ad H locs cells slots ls X h0 h1 h2 h3 hP hS hA hE hl)
theorem aw_if_ne (tgt : Nat) {x : Int32} {off : Int} (hd : decode M.2.1 pc = .ok (.ifCond .ne off, 3)) (ht : (pc : Int) + off = (tgt : Int)) (kt : ¬ x = 0 → AW G M d mc ms n0 post tgt lv st w) (kf : x = 0 → AW G M d mc ms n0 post (pc + 3) lv st w) : AW G M d mc ms n0 post pc lv (.int x :: st) w := by
  intro p e R s m args below meth c A ad0 ad H locs cells slots ls X h0 h1 h2 h3 hP hS hA hE hl
  exact lv_if_ne X.1 X.2.1 hd ht (fun q => kt q p e R s m args below meth c A ad0 ad H locs cells slots ls X h0 h1 h2 h3 hP hS hA hE hl) (fun q => kf q p e R s m args below meth c A ad0 ad H locs cells slots ls X h0 h1 h2 h3 hP hS hA hE hl)
theorem aw_icmp_ne (tgt : Nat) {x y : Int32} {off : Int} (hd : decode M.2.1 pc = .ok (.if_icmp .ne off, 3)) (ht : (pc : Int) + off = (tgt : Int)) (kt : ¬ x = y → AW G M d mc ms n0 post tgt lv st w) (kf : x = y → AW G M d mc ms n0 post (pc + 3) lv st w) : AW G M d mc ms n0 post pc lv (.int y :: .int x :: st) w := by
  intro p e R s m args below meth c A ad0 ad H locs cells slots ls X h0 h1 h2 h3 hP hS hA hE hl
  exact lv_icmp_ne X.1 X.2.1 hd ht (fun q => kt q p e R s m args below meth c A ad0 ad H locs cells slots ls X h0 h1 h2 h3 hP hS hA hE hl) (fun q => kf q p e R s m args below meth c A ad0 ad H locs cells slots ls X h0 h1 h2 h3 hP hS hA hE hl)
theorem aw_if_lt (tgt : Nat) {x : Int32} {off : Int} (hd : decode M.2.1 pc = .ok (.ifCond .lt off, 3)) (ht : (pc : Int) + off = (tgt : Int)) (kt : x < 0 → AW G M d mc ms n0 post tgt lv st w) (kf : ¬ x < 0 → AW G M d mc ms n0 post (pc + 3) lv st w) : AW G M d mc ms n0 post pc lv (.int x :: st) w := by
  intro p e R s m args below meth c A ad0 ad H locs cells slots ls X h0 h1 h2 h3 hP hS hA hE hl
  exact lv_if_lt X.1 X.2.1 hd ht (fun q => kt q p e R s m args below meth c A ad0 ad H locs cells slots ls X h0 h1 h2 h3 hP hS hA hE hl) (fun q => kf q p e R s m args below meth c A ad0 ad H locs cells slots ls X h0 h1 h2 h3 hP hS hA hE hl)
theorem aw_icmp_lt (tgt : Nat) {x y : Int32} {off : Int} (hd : decode M.2.1 pc = .ok (.if_icmp .lt off, 3)) (ht : (pc : Int) + off = (tgt : Int)) (kt : x < y → AW G M d mc ms n0 post tgt lv st w) (kf : ¬ x < y → AW G M d mc ms n0 post (pc + 3) lv st w) : AW G M d mc ms n0 post pc lv (.int y :: .int x :: st) w := by
  intro p e R s m args below meth c A ad0 ad H locs cells slots ls X h0 h1 h2 h3 hP hS hA hE hl
  exact lv_icmp_lt X.1 X.2.1 hd ht (fun q => kt q p e R s m args below meth c A ad0 ad H locs cells slots ls X h0 h1 h2 h3 hP hS hA hE hl) (fun q => kf q p e R s m args below meth c A ad0 ad H locs cells slots ls X h0 h1 h2 h3 hP hS hA hE hl)
theorem aw_if_ge (tgt : Nat) {x : Int32} {off : Int} (hd : decode M.2.1 pc = .ok (.ifCond .ge off, 3)) (ht : (pc : Int) + off = (tgt : Int)) (kt : 0 ≤ x → AW G M d mc ms n0 post tgt lv st w) (kf : ¬ 0 ≤ x → AW G M d mc ms n0 post (pc + 3) lv st w) : AW G M d mc ms n0 post pc lv (.int x :: st) w := by
  intro p e R s m args below meth c A ad0 ad H locs cells slots ls X h0 h1 h2 h3 hP hS hA hE hl
  exact lv_if_ge X.1 X.2.1 hd ht (fun q => kt q p e R s m args below meth c A ad0 ad H locs cells slots ls X h0 h1 h2 h3 hP hS hA hE hl) (fun q => kf q p e R s m args below meth c A ad0 ad H locs cells slots ls X h0 h1 h2 h3 hP hS hA hE hl)
theorem aw_icmp_ge (tgt : Nat) {x y : Int32} {off : Int} (hd : decode M.2.1 pc = .ok (.if_icmp .ge off, 3)) (ht : (pc : Int) + off = (tgt : Int)) (kt : y ≤ x → AW G M d mc ms n0 post tgt lv st w) (kf : ¬ y ≤ x → AW G M d mc ms n0 post (pc + 3) lv st w) : AW G M d mc ms n0 post pc lv (.int y :: .int x :: st) w := by
  intro p e R s m args below meth c A ad0 ad H locs cells slots ls X h0 h1 h2 h3 hP hS hA hE hl
  exact lv_icmp_ge X.1 X.2.1 hd ht (fun q => kt q p e R s m args below meth c A ad0 ad H locs cells slots ls X h0 h1 h2 h3 hP hS hA hE hl) (fun q => kf q p e R s m args below meth c A ad0 ad H locs cells slots ls X h0 h1 h2 h3 hP hS hA hE hl)
theorem aw_if_gt (tgt : Nat) {x : Int32} {off : Int} (hd : decode M.2.1 pc = .ok (.ifCond .gt off, 3)) (ht : (pc : Int) + off = (tgt : Int)) (kt : 0 < x → AW G M d mc ms n0 post tgt lv st w) (kf : ¬ 0 < x → AW G M d mc ms n0 post (pc + 3) lv st w) : AW G M d mc ms n0 post pc lv (.int x :: st) w := by
  intro p e R s m args below meth c A ad0 ad H locs cells slots ls X h0 h1 h2 h3 hP hS hA hE hl
  exact lv_if_gt X.1 X.2.1 hd ht (fun q => kt q p e R s m args below meth c A ad0 ad H locs cells slots ls X h0 h1 h2 h3 hP hS hA hE hl) (fun q => kf q p e R s m args below meth c A ad0 ad H locs cells slots ls X h0 h1 h2 h3 hP hS hA hE hl)
theorem aw_icmp_gt (tgt : Nat) {x y : Int32} {off : Int} (hd : decode M.2.1 pc = .ok (.if_icmp .gt off, 3)) (ht : (pc : Int) + off = (tgt : Int)) (kt : y < x → AW G M d mc ms n0 post tgt lv st w) (kf : ¬ y < x → AW G M d mc ms n0 post (pc + 3) lv st w) : AW G M d mc ms n0 post pc lv (.int y :: .int x :: st) w := by
  intro p e R s m args below meth c A ad0 ad H locs cells slots ls X h0 h1 h2 h3 hP hS hA hE hl
  exact lv_icmp_gt X.1 X.2.1 hd ht (fun q => kt q p e R s m args below meth c A ad0 ad H locs cells slots ls X h0 h1 h2 h3 hP hS hA hE hl) (fun q => kf q p e R s m args below meth c A ad0 ad H locs cells slots ls X h0 h1 h2 h3 hP hS hA hE hl)
theorem aw_if_le (tgt : Nat) {x : Int32} {off : Int} (hd : decode M.2.1 pc = .ok (.ifCond .le off, 3)) (ht : (pc : Int) + off = (tgt : Int)) (kt : x ≤ 0 → AW G M d mc ms n0 post tgt lv st w) (kf : ¬ x ≤ 0 → AW G M d mc ms n0 post (pc + 3) lv st w) : AW G M d mc ms n0 post pc lv (.int x :: st) w := by
  intro p e R s m args below meth c A ad0 ad H locs cells slots ls X h0 h1 h2 h3 hP hS hA hE hl
  exact lv_if_le X.1 X.2.1 hd ht (fun q => kt q p e R s m args below meth c A ad0 ad H locs cells slots ls X h0 h1 h2 h3 hP hS hA hE hl) (fun q => kf q p e R s m args below meth c A ad0 ad H locs cells slots ls X h0 h1 h2 h3 hP hS hA hE hl)
theorem aw_icmp_le (tgt : Nat) {x y : Int32} {off : Int} (hd : decode M.2.1 pc = .ok (.if_icmp .le off, 3)) (ht : (pc : Int) + off = (tgt : Int)) (kt : x ≤ y → AW G M d mc ms n0 post tgt lv st w) (kf : ¬ x ≤ y → AW G M d mc ms n0 post (pc + 3) lv st w) : AW G M d mc ms n0 post pc lv (.int y :: .int x :: st) w := by
  intro p e R s m args below meth c A ad0 ad H locs cells slots ls X h0 h1 h2 h3 hP hS hA hE hl
  exact lv_icmp_le X.1 X.2.1 hd ht (fun q => kt q p e R s m args below meth c A ad0 ad H locs cells slots ls X h0 h1 h2 h3 hP hS hA hE hl) (fun q => kf q p e R s m args below meth c A ad0 ad H locs cells slots ls X h0 h1 h2 h3 hP hS hA hE hl)
theorem aw_goto (tgt : Nat) {off : Int} (hd : decode M.2.1 pc = .ok (.goto off, 3)) (ht : (pc : Int) + off = (tgt : Int)) (kk : AW G M d mc ms n0 post tgt lv st w) : AW G M d mc ms n0 post pc lv st w := by
  intro p e R s m args below meth c A ad0 ad H locs cells slots ls X h0 h1 h2 h3 hP hS hA hE hl
  exact lv_goto X.1 X.2.1 hd ht (kk p e R s m args below meth c A ad0 ad H locs cells slots ls X h0 h1 h2 h3 hP hS hA hE hl)
theorem aw_lookup (tgt : Nat) {dflt : Int} {ps : Array (Int × Int)} {len : Nat} {x : Int32} {off : Int} (hd : decode M.2.1 pc = .ok (.lookupswitch dflt ps, len)) (hp : (ps.toList.zip (ps.toList.drop 1)).all (fun (a, next) => a.1 < next.1) = true) (ho : Op.lookupswitch.offset ps.toList dflt x.toInt = off) (ht : (pc : Int) + off = (tgt : Int)) (kk : AW G M d mc ms n0 post tgt lv st w) : AW G M d mc ms n0 post pc lv (.int x :: st) w := by
  intro p e R s m args below meth c A ad0 ad H locs cells slots ls X h0 h1 h2 h3 hP hS hA hE hl
  exact lv_lookup X.1 X.2.1 hd hp ho ht (kk p e R s m args below meth c A ad0 ad H locs cells slots ls X h0 h1 h2 h3 hP hS hA hE hl)
theorem aw_tableOut (tgt : Nat) {dflt lo hi : Int} {offs : Array Int} {len : Nat} {x : Int32} (hd : decode M.2.1 pc = .ok (.tableswitch dflt lo hi offs, len)) (h : x.toInt < lo ∨ hi < x.toInt) (ht : (pc : Int) + dflt = (tgt : Int)) (kk : AW G M d mc ms n0 post tgt lv st w) : AW G M d mc ms n0 post pc lv (.int x :: st) w := by
  intro p e R s m args below meth c A ad0 ad H locs cells slots ls X h0 h1 h2 h3 hP hS hA hE hl
  exact lv_tableOut X.1 X.2.1 hd h ht (kk p e R s m args below meth c A ad0 ad H locs cells slots ls X h0 h1 h2 h3 hP hS hA hE hl)
theorem aw_tableIn (tgt : Nat) {dflt lo hi : Int} {offs : Array Int} {len : Nat} {x : Int32} {off : Int} (hd : decode M.2.1 pc = .ok (.tableswitch dflt lo hi offs, len)) (h1' : ¬ x.toInt < lo) (h2' : ¬ hi < x.toInt) (ho : offs[(x.toInt - lo).toNat]? = some off) (ht : (pc : Int) + off = (tgt : Int)) (kk : AW G M d mc ms n0 post tgt lv st w) : AW G M d mc ms n0 post pc lv (.int x :: st) w := by
  intro p e R s m args below meth c A ad0 ad H locs cells slots ls X h0 h1 h2 h3 hP hS hA hE hl
  exact lv_tableIn X.1 X.2.1 hd h1' h2' ho ht (kk p e R s m args below meth c A ad0 ad H locs cells slots ls X h0 h1 h2 h3 hP hS hA hE hl)
def aw_C (ci : Nat) (C : String) (T : u_T) (N : Nat) (ty : Nat → FieldType) : Prop := classes[ci]? = some (C, T, N) ∧ (∀ w ∈ u_ws C T N, w ∈ aw_T) ∧ (∀ k, k < N → parseFieldDescriptor (T k).2.2.1 = some (ty k)) ∧ (∀ a, a < N → ∀ b, b < N → a ≠ b → (T a).2.1 ≠ (T b).2.1)
def aw_F (own : String) (idx ci k : Nat) (t : FieldType) (fin : Bool) : Prop := ∃ (C : String) (T : u_T) (N : Nat) (ty : Nat → FieldType), aw_C ci C T N ty ∧ k < N ∧ Cond.fieldLink own idx (T k).1 (T k).2.1 (T k).2.2.1 ∈ aw_T ∧ ty k = t ∧ (T k).2.2.2 = fin ∧ (T k).1 = C
theorem aw_F.of {own C : String} {T : u_T} {N ci idx : Nat} {ty : Nat → FieldType} {t : FieldType} {fin : Bool} (hC : aw_C ci C T N ty) (k : Nat) (hk : k < N) (hl : Cond.fieldLink own idx (T k).1 (T k).2.1 (T k).2.2.1 ∈ aw_T) (ht : ty k = t) (hf : (T k).2.2.2 = fin) (hd : (T k).1 = C) : aw_F own idx ci k t fin := ⟨C, T, N, ty, hC, hk, hl, ht, hf, hd⟩
theorem aw_getf {idx ci k : Nat} {t : FieldType} {fin : Bool} (hF : aw_F M.1.cls idx ci k t fin) (q : Nat) {fs : List Value} (he : w[q]? = some (.inr (ci, fs))) {v : Value} (hv : fs[k]? = some v) (hd : decode M.2.1 pc = .ok (.getfield idx, 3)) (kk : AW G M d mc ms n0 post (pc + 3) lv (v :: st) w) : AW G M d mc ms n0 post pc lv (.ref q :: st) w := by
  intro p e R s m args below meth c A ad0 ad H locs cells slots ls X h0 h1 h2 h3 hP hS hA hE hl
  obtain ⟨C, T, N, ty, hC, hk, hlk, -, -, -⟩ := hF
  exact va_get (ref := (T k).1) X.1 X.2.1 X.2.2.2.2.1 hC.2.1 X.2.2.2.1 X.2.2.2.2.2.2.2.2.2.2.1 hP.2.1 q (aw_c_get hP.1 he) hC.1 k hk (X.2.2.2.2.1 _ hlk) (fun _ h => h) (aw_fs hv) hd (kk p e R s m args below meth c A ad0 ad H locs cells slots ls X h0 h1 h2 h3 hP hS hA hE hl)
theorem aw_putf {idx ci k : Nat} {t : FieldType} (hF : aw_F M.1.cls idx ci k t false) (q : Nat) {fs : List Value} {w' : aw_W} {v : Value} (he : w[q]? = some (.inr (ci, fs))) (hv : ∀ ad : List Nat, narrow t (aw_v G ad v) = aw_v G ad v ∧ fits t (aw_v G ad v) = true) (hk0 : k < fs.length) (hw : w.set q (.inr (ci, fs.set k v)) = w') (hd : decode M.2.1 pc = .ok (.putfield idx, 3)) (kk : AW G M d mc ms n0 post (pc + 3) lv st w') : AW G M d mc ms n0 post pc lv (v :: .ref q :: st) w := by
  intro p e R s m args below meth c A ad0 ad H locs cells slots ls X h0 h1 h2 h3 hP hS hA hE hl
  obtain ⟨C, T, N, ty, hC, hk, hlk, ht, hf, -⟩ := hF
  subst hw
  refine va_put (ref := (T k).1) (ty := t) (v := aw_v G ad v) X.1 X.2.1 X.2.2.2.2.1 hC.2.1 ty hC.2.2.1 hC.2.2.2 X.2.2.2.1 X.2.2.2.2.2.2.2.2.2.2.1 hP.2.1 hP.2.2 hS q (aw_c_get hP.1 he) hC.1 k hk (X.2.2.2.2.1 _ hlk) (fun _ h => h) hf (by rw [← ht]; exact hC.2.2.1 k hk) (hv ad).1 (hv ad).2 (by simpa using hk0) hd (fun H locs hP' hD hS => ?_)
  have e1 : ((ad.getD q 0, Sum.inr (ci, (fs.map (aw_v G ad)).set k (aw_v G ad v))) : Nat × va_E) = (ad.getD q 0, aw_e G ad (.inr (ci, fs.set k v))) := by simp [aw_e, List.map_set]
  rw [e1, aw_c_set hP.1 he] at hP' hD
  have hP : aw_P G A ad (w.set q (.inr (ci, fs.set k v))) H := ⟨by simp [hP.1], hP', hD⟩
  exact kk p e R s m args below meth c A ad0 ad H locs cells slots ls X h0 h1 h2 h3 hP hS hA hE hl
theorem aw_putF {idx ci k : Nat} {t : FieldType} (hF : aw_F M.1.cls idx ci k t true) (hC0 : ∃ (T0 : u_T) (N0 : Nat), classes[ci]? = some (M.1.cls, T0, N0)) (hnm : M.1.name = "<init>") (q : Nat) {fs : List Value} {w' : aw_W} {v : Value} (he : w[q]? = some (.inr (ci, fs))) (hv : ∀ ad : List Nat, narrow t (aw_v G ad v) = aw_v G ad v ∧ fits t (aw_v G ad v) = true) (hk0 : k < fs.length) (hw : w.set q (.inr (ci, fs.set k v)) = w') (hd : decode M.2.1 pc = .ok (.putfield idx, 3)) (kk : AW G M d mc ms n0 post (pc + 3) lv st w') : AW G M d mc ms n0 post pc lv (v :: .ref q :: st) w := by
  intro p e R s m args below meth c A ad0 ad H locs cells slots ls X h0 h1 h2 h3 hP hS hA hE hl
  obtain ⟨C, T, N, ty, hC, hk, hlk, ht, hf, hTC⟩ := hF
  subst hw
  have hown : (T k).1 = M.1.cls := by
    obtain ⟨T0, N0, h9⟩ := hC0
    have := hC.1.symm.trans h9
    simp at this
    rw [hTC]; exact this.1
  refine va_putF (ref := (T k).1) (ty := t) (v := aw_v G ad v) X.1 X.2.1 X.2.2.2.2.1 hC.2.1 ty hC.2.2.1 hC.2.2.2 X.2.2.2.1 X.2.2.2.2.2.2.2.2.2.2.1 hP.2.1 hP.2.2 hS q (aw_c_get hP.1 he) hC.1 k hk (X.2.2.2.2.1 _ hlk) (fun _ h => h) hf (X.2.2.2.2.2.2.2.1 hnm) hown (by rw [← ht]; exact hC.2.2.1 k hk) (hv ad).1 (hv ad).2 (by simpa using hk0) hd (fun H locs hP' hD hS => ?_)
  have e1 : ((ad.getD q 0, Sum.inr (ci, (fs.map (aw_v G ad)).set k (aw_v G ad v))) : Nat × va_E) = (ad.getD q 0, aw_e G ad (.inr (ci, fs.set k v))) := by simp [aw_e, List.map_set]
  rw [e1, aw_c_set hP.1 he] at hP' hD
  have hP : aw_P G A ad (w.set q (.inr (ci, fs.set k v))) H := ⟨by simp [hP.1], hP', hD⟩
  exact kk p e R s m args below meth c A ad0 ad H locs cells slots ls X h0 h1 h2 h3 hP hS hA hE hl
theorem aw_iald (q : Nat) {n : Nat} {f : Nat → Int32} {i : Int32} (he : w[q]? = some (.inl (G.2.2.1, n, .inl f))) (hin : vp_in i n) (hd : decode M.2.1 pc = .ok (.iaload, 1)) (kk : AW G M d mc ms n0 post (pc + 1) lv (.int (f i.toNatClampNeg) :: st) w) : AW G M d mc ms n0 post pc lv (.int i :: .ref q :: st) w := by
  intro p e R s m args below meth c A ad0 ad H locs cells slots ls X h0 h1 h2 h3 hP hS hA hE hl
  exact va_iald X.1 X.2.1 X.2.2.2.2.2.2.2.2.2.2.1 hP.2.1 q 0 (aw_c_get hP.1 he) rfl hin hd (kk p e R s m args below meth c A ad0 ad H locs cells slots ls X h0 h1 h2 h3 hP hS hA hE hl)
theorem aw_bald (q : Nat) {n : Nat} {f : Nat → Int32} {i : Int32} (he : w[q]? = some (.inl (G.2.2.2.1, n, .inl f))) (hin : vp_in i n) (hd : decode M.2.1 pc = .ok (.baload, 1)) (kk : AW G M d mc ms n0 post (pc + 1) lv (.int (f i.toNatClampNeg) :: st) w) : AW G M d mc ms n0 post pc lv (.int i :: .ref q :: st) w := by
  intro p e R s m args below meth c A ad0 ad H locs cells slots ls X h0 h1 h2 h3 hP hS hA hE hl
  exact va_bald X.1 X.2.1 X.2.2.2.2.2.2.2.2.2.2.1 hP.2.1 q 1 (aw_c_get hP.1 he) rfl hin hd (kk p e R s m args below meth c A ad0 ad H locs cells slots ls X h0 h1 h2 h3 hP hS hA hE hl)
theorem aw_zald (q : Nat) {n : Nat} {f : Nat → Int32} {i : Int32} (he : w[q]? = some (.inl (G.2.2.2.2.1, n, .inl f))) (hin : vp_in i n) (hd : decode M.2.1 pc = .ok (.baload, 1)) (kk : AW G M d mc ms n0 post (pc + 1) lv (.int (f i.toNatClampNeg) :: st) w) : AW G M d mc ms n0 post pc lv (.int i :: .ref q :: st) w := by
  intro p e R s m args below meth c A ad0 ad H locs cells slots ls X h0 h1 h2 h3 hP hS hA hE hl
  exact va_zald X.1 X.2.1 X.2.2.2.2.2.2.2.2.2.2.1 hP.2.1 q 2 (aw_c_get hP.1 he) rfl hin hd (kk p e R s m args below meth c A ad0 ad H locs cells slots ls X h0 h1 h2 h3 hP hS hA hE hl)
theorem aw_iast (q : Nat) {n : Nat} {f : Nat → Int32} {i : Int32} {x : Int32} {w' : (Nat → Int32) → aw_W} (he : w[q]? = some (.inl (G.2.2.1, n, .inl f))) (hin : vp_in i n) (hw : ∀ f' : Nat → Int32, w.set q (.inl (G.2.2.1, n, .inl f')) = w' f') (hd : decode M.2.1 pc = .ok (.iastore, 1)) (kk : ∀ f' : Nat → Int32, f' = upd f i.toNatClampNeg x → AW G M d mc ms n0 post (pc + 1) lv st (w' f')) : AW G M d mc ms n0 post pc lv (.int x :: .int i :: .ref q :: st) w := by
  intro p e R s m args below meth c A ad0 ad H locs cells slots ls X h0 h1 h2 h3 hP hS hA hE hl
  refine va_iast X.1 X.2.1 X.2.2.2.2.2.2.2.2.2.2.1 hP.2.1 hP.2.2 hS q 0 (aw_c_get hP.1 he) rfl hin hd (fun H locs hP' hD hS => ?_)
  have e1 : ((ad.getD q 0, .inl (G.2.2.1, n, .inl (upd f i.toNatClampNeg x))) : Nat × va_E) = (ad.getD q 0, aw_e G ad (.inl (G.2.2.1, n, .inl (upd f i.toNatClampNeg x)))) := rfl
  rw [e1, aw_c_set hP.1 he] at hP' hD
  have hP : aw_P G A ad (w' (upd f i.toNatClampNeg x)) H := by
    rw [← hw]
    exact ⟨by simp [hP.1], hP', hD⟩
  exact kk _ rfl p e R s m args below meth c A ad0 ad H locs cells slots ls X h0 h1 h2 h3 hP hS hA hE hl
theorem aw_bast (q : Nat) {n : Nat} {f : Nat → Int32} {i : Int32} {x : Int32} {w' : (Nat → Int32) → aw_W} (he : w[q]? = some (.inl (G.2.2.2.1, n, .inl f))) (hin : vp_in i n) (hw : ∀ f' : Nat → Int32, w.set q (.inl (G.2.2.2.1, n, .inl f')) = w' f') (hd : decode M.2.1 pc = .ok (.bastore, 1)) (kk : ∀ f' : Nat → Int32, f' = upd f i.toNatClampNeg (vp_nar .byte x) → AW G M d mc ms n0 post (pc + 1) lv st (w' f')) : AW G M d mc ms n0 post pc lv (.int x :: .int i :: .ref q :: st) w := by
  intro p e R s m args below meth c A ad0 ad H locs cells slots ls X h0 h1 h2 h3 hP hS hA hE hl
  refine va_bast X.1 X.2.1 X.2.2.2.2.2.2.2.2.2.2.1 hP.2.1 hP.2.2 hS q 1 (aw_c_get hP.1 he) rfl hin hd (fun H locs hP' hD hS => ?_)
  have e1 : ((ad.getD q 0, .inl (G.2.2.2.1, n, .inl (upd f i.toNatClampNeg (vp_nar .byte x)))) : Nat × va_E) = (ad.getD q 0, aw_e G ad (.inl (G.2.2.2.1, n, .inl (upd f i.toNatClampNeg (vp_nar .byte x))))) := rfl
  rw [e1, aw_c_set hP.1 he] at hP' hD
  have hP : aw_P G A ad (w' (upd f i.toNatClampNeg (vp_nar .byte x))) H := by
    rw [← hw]
    exact ⟨by simp [hP.1], hP', hD⟩
  exact kk _ rfl p e R s m args below meth c A ad0 ad H locs cells slots ls X h0 h1 h2 h3 hP hS hA hE hl
theorem aw_zast (q : Nat) {n : Nat} {f : Nat → Int32} {i : Int32} {x : Int32} {w' : (Nat → Int32) → aw_W} (he : w[q]? = some (.inl (G.2.2.2.2.1, n, .inl f))) (hin : vp_in i n) (hw : ∀ f' : Nat → Int32, w.set q (.inl (G.2.2.2.2.1, n, .inl f')) = w' f') (hd : decode M.2.1 pc = .ok (.bastore, 1)) (kk : ∀ f' : Nat → Int32, f' = upd f i.toNatClampNeg (vp_nar .boolean x) → AW G M d mc ms n0 post (pc + 1) lv st (w' f')) : AW G M d mc ms n0 post pc lv (.int x :: .int i :: .ref q :: st) w := by
  intro p e R s m args below meth c A ad0 ad H locs cells slots ls X h0 h1 h2 h3 hP hS hA hE hl
  refine va_zast X.1 X.2.1 X.2.2.2.2.2.2.2.2.2.2.1 hP.2.1 hP.2.2 hS q 2 (aw_c_get hP.1 he) rfl hin hd (fun H locs hP' hD hS => ?_)
  have e1 : ((ad.getD q 0, .inl (G.2.2.2.2.1, n, .inl (upd f i.toNatClampNeg (vp_nar .boolean x)))) : Nat × va_E) = (ad.getD q 0, aw_e G ad (.inl (G.2.2.2.2.1, n, .inl (upd f i.toNatClampNeg (vp_nar .boolean x))))) := rfl
  rw [e1, aw_c_set hP.1 he] at hP' hD
  have hP : aw_P G A ad (w' (upd f i.toNatClampNeg (vp_nar .boolean x))) H := by
    rw [← hw]
    exact ⟨by simp [hP.1], hP', hD⟩
  exact kk _ rfl p e R s m args below meth c A ad0 ad H locs cells slots ls X h0 h1 h2 h3 hP hS hA hE hl
theorem aw_alen (q t0 : Nat) {cA : ClassId} {x : vp_A} {ty : FieldType} {v : Int32} (he : w[q]? = some (.inl (cA, x))) (ht : (aw_tys G)[t0]? = some (cA, ty)) (hv : Int32.ofNat x.1 = v) (hd : decode M.2.1 pc = .ok (.arraylength, 1)) (kk : AW G M d mc ms n0 post (pc + 1) lv (.int v :: st) w) : AW G M d mc ms n0 post pc lv (.ref q :: st) w := by
  intro p e R s m args below meth c A ad0 ad H locs cells slots ls X h0 h1 h2 h3 hP hS hA hE hl
  exact va_alen X.1 X.2.1 X.2.2.2.2.2.2.2.2.2.2.1 hP.2.1 q t0 (aw_c_get hP.1 he) ht hv hd (kk p e R s m args below meth c A ad0 ad H locs cells slots ls X h0 h1 h2 h3 hP hS hA hE hl)
theorem aw_aload_nS (j : Nat) {k : Fin 4} {i x : Nat} (hd : decode M.2.1 pc = .ok (.aload_n k, 1)) (hi : (k : Nat) = i) (hv : lv[j]? = some (i, .retAddr x)) (kk : AW G M d mc ms n0 post (pc + 1) lv (.retAddr x :: st) w) : AW G M d mc ms n0 post pc lv st w := by
  intro p e R s m args below meth c A ad0 ad H locs cells slots ls X h0 h1 h2 h3 hP hS hA hE hl
  exact lv_aload_n X.1 X.2.1 hd hi (lv_at hl j (aw_at hv)) (kk p e R s m args below meth c A ad0 ad H locs cells slots ls X h0 h1 h2 h3 hP hS hA hE hl)
theorem aw_aloadS (j : Nat) {i x : Nat} (hd : decode M.2.1 pc = .ok (.aload i, 2)) (hv : lv[j]? = some (i, .retAddr x)) (kk : AW G M d mc ms n0 post (pc + 2) lv (.retAddr x :: st) w) : AW G M d mc ms n0 post pc lv st w := by
  intro p e R s m args below meth c A ad0 ad H locs cells slots ls X h0 h1 h2 h3 hP hS hA hE hl
  exact lv_aload X.1 X.2.1 hd (lv_at hl j (aw_at hv)) (kk p e R s m args below meth c A ad0 ad H locs cells slots ls X h0 h1 h2 h3 hP hS hA hE hl)
theorem aw_iret {v : Int32} (hr : M.2.2.2 = some .int) (hd : decode M.2.1 pc = .ok (.ireturn, 1)) (hp : post (some (.int v)) w) : AW G M d mc ms n0 post pc lv [.int v] w := by
  intro p e R s m args below meth c A ad0 ad H locs cells slots ls X h0 h1 h2 h3 hP hS hA hE hl
  refine W.widen (k := R.cells) (n := R.slots) (by omega) (by omega) ?_
  have hlocks := X.2.2.2.2.2.2.1
  exact W.iret (v := v) X.1 X.2.1 (X.2.2.2.2.2.1.trans hr) (fun t ht _ => ⟨⟨_, w, ad, rfl, hp, h0, hP.1, by rw [ht]; exact hP.2.1, hP.2.2⟩, hS.F ht⟩) hS.2.2 hd
theorem aw_zret {v : Int32} {t : FieldType} (hr : M.2.2.2 = some t) (hn : narrow t (.int v) = .int v) (hd : decode M.2.1 pc = .ok (.ireturn, 1)) (hp : post (some (.int v)) w) : AW G M d mc ms n0 post pc lv [.int v] w := by
  intro p e R s m args below meth c A ad0 ad H locs cells slots ls X h0 h1 h2 h3 hP hS hA hE hl
  refine W.widen (k := R.cells) (n := R.slots) (by omega) (by omega) ?_
  have hlocks := X.2.2.2.2.2.2.1
  exact W.zret (v := v) X.1 X.2.1 (X.2.2.2.2.2.1.trans hr) hn (fun t ht _ => ⟨⟨_, w, ad, rfl, hp, h0, hP.1, by rw [ht]; exact hP.2.1, hP.2.2⟩, hS.F ht⟩) hS.2.2 hd
theorem aw_lret {v : Int64} (hr : M.2.2.2 = some .long) (hd : decode M.2.1 pc = .ok (.lreturn, 1)) (hp : post (some (.long v)) w) : AW G M d mc ms n0 post pc lv [.long v] w := by
  intro p e R s m args below meth c A ad0 ad H locs cells slots ls X h0 h1 h2 h3 hP hS hA hE hl
  refine W.widen (k := R.cells) (n := R.slots) (by omega) (by omega) ?_
  have hlocks := X.2.2.2.2.2.2.1
  exact W.lret (v := v) X.1 X.2.1 (X.2.2.2.2.2.1.trans hr) (fun t ht _ => ⟨⟨_, w, ad, rfl, hp, h0, hP.1, by rw [ht]; exact hP.2.1, hP.2.2⟩, hS.F ht⟩) hS.2.2 hd
theorem aw_vret (hr : M.2.2.2 = none) (hd : decode M.2.1 pc = .ok (.return_, 1)) (hp : post none w) : AW G M d mc ms n0 post pc lv [] w := by
  intro p e R s m args below meth c A ad0 ad H locs cells slots ls X h0 h1 h2 h3 hP hS hA hE hl
  refine W.widen (k := R.cells) (n := R.slots) (by omega) (by omega) ?_
  have hlocks := X.2.2.2.2.2.2.1
  exact W.vret X.1 X.2.1 (X.2.2.2.2.2.1.trans hr) (fun t ht _ => ⟨⟨none, w, ad, rfl, hp, h0, hP.1, by rw [ht]; exact hP.2.1, hP.2.2⟩, hS.F ht⟩) hS.2.2 hd
theorem aw_objInit {idx q : Nat} (hlk : Cond.methodLink M.1.cls idx objectInit ∈ aw_T) (hin : Cond.instanceMethod objectInit ∈ aw_T) (hco : Cond.code objectInit ⟨#[0xb1]⟩ 1 none ∈ aw_T) (hd : decode M.2.1 pc = .ok (.invokespecial idx, 3)) (hst : (st.map fun v => v.category).sum ≤ 8) (hd0 : 1 ≤ d) (kk : AW G M d mc ms n0 post (pc + 3) lv st w) : AW G M d mc ms n0 post pc lv (.ref q :: st) w := by
  intro p e R s m args below meth c A ad0 ad H locs cells slots ls X h0 h1 h2 h3 hP hS hA hE hl
  have hst2 : ((st.map (aw_v G ad)).map fun v => v.category).sum = (st.map fun v => v.category).sum := by simp [Function.comp_def, aw_cat]
  have hfr := X.2.2.2.2.2.2.2.2.1
  have hlo := X.2.2.2.2.2.2.2.2.2.1
  have hr := lv_room (m := m) (pc := pc) (ls := ls) (rest := (Value.ref q :: st).map (aw_v G ad)) (st := st.map (aw_v G ad)) (by rw [hst2]; exact hst)
  exact W.objInit X.1 X.2.1 X.2.2.2.1 (X.2.2.2.2.1 _ hlk) (X.2.2.2.2.1 _ hin) (X.2.2.2.2.1 _ hco) rfl (by rw [X.2.2.1]; exact hl.1) rfl hd (by omega) (by omega) (kk p e R s m args below meth c A ad0 ad H locs cells slots ls X h0 h1 h2 h3 hP hS hA hE hl)
end AwRows
