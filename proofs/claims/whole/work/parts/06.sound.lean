/-! each instruction, over the machine -/
theorem pw_ld {ad : Nat → Nat} {ls : Array Slot} {n : Nat} {lv : List (Nat × Value)} (h : lv_has ls n (lv.map (pw_tq ad))) {i : Nat} {v : Value} (hv : pw_lk lv i = some v) : ls[i]? = some (.val (pw_tv ad v)) := h.2.2 (i, pw_tv ad v) (List.mem_map.mpr ⟨(i, v), pw_lk_mem hv, rfl⟩)
section PWO
variable {x : pw_X} {M : pw_M} {d : Nat} {Z : State → Prop} {pc : Nat} {lv : List (Nat × Value)} {r : List Value} {mm : pw_m}
theorem pw_o_iadd {a b : Int32} (hd : decode M.2.1 pc = .ok (.iadd, 1))  (hk : pw_V x M d Z (pc + 1) lv (.int (a + b) :: r) mm) : pw_V x M d Z pc lv (.int b :: .int a :: r) mm := by
  obtain ⟨p, l, e, R, s, m, args, below, meth, c, D, ad, ⟨cI, cZ, cE⟩, A, X, nc, ns⟩ := x
  intro hC H locs hH ls hl
  exact lv_iadd hC.1 hC.2.1 hd (hk hC H locs hH ls hl)
theorem pw_o_isub {a b : Int32} (hd : decode M.2.1 pc = .ok (.isub, 1))  (hk : pw_V x M d Z (pc + 1) lv (.int (a - b) :: r) mm) : pw_V x M d Z pc lv (.int b :: .int a :: r) mm := by
  obtain ⟨p, l, e, R, s, m, args, below, meth, c, D, ad, ⟨cI, cZ, cE⟩, A, X, nc, ns⟩ := x
  intro hC H locs hH ls hl
  exact lv_isub hC.1 hC.2.1 hd (hk hC H locs hH ls hl)
theorem pw_o_imul {a b : Int32} (hd : decode M.2.1 pc = .ok (.imul, 1))  (hk : pw_V x M d Z (pc + 1) lv (.int (a * b) :: r) mm) : pw_V x M d Z pc lv (.int b :: .int a :: r) mm := by
  obtain ⟨p, l, e, R, s, m, args, below, meth, c, D, ad, ⟨cI, cZ, cE⟩, A, X, nc, ns⟩ := x
  intro hC H locs hH ls hl
  exact lv_imul hC.1 hC.2.1 hd (hk hC H locs hH ls hl)
theorem pw_o_iand {a b : Int32} (hd : decode M.2.1 pc = .ok (.iand, 1))  (hk : pw_V x M d Z (pc + 1) lv (.int (a &&& b) :: r) mm) : pw_V x M d Z pc lv (.int b :: .int a :: r) mm := by
  obtain ⟨p, l, e, R, s, m, args, below, meth, c, D, ad, ⟨cI, cZ, cE⟩, A, X, nc, ns⟩ := x
  intro hC H locs hH ls hl
  exact lv_iand hC.1 hC.2.1 hd (hk hC H locs hH ls hl)
theorem pw_o_ior {a b : Int32} (hd : decode M.2.1 pc = .ok (.ior, 1))  (hk : pw_V x M d Z (pc + 1) lv (.int (a ||| b) :: r) mm) : pw_V x M d Z pc lv (.int b :: .int a :: r) mm := by
  obtain ⟨p, l, e, R, s, m, args, below, meth, c, D, ad, ⟨cI, cZ, cE⟩, A, X, nc, ns⟩ := x
  intro hC H locs hH ls hl
  exact lv_ior hC.1 hC.2.1 hd (hk hC H locs hH ls hl)
theorem pw_o_ixor {a b : Int32} (hd : decode M.2.1 pc = .ok (.ixor, 1))  (hk : pw_V x M d Z (pc + 1) lv (.int (a ^^^ b) :: r) mm) : pw_V x M d Z pc lv (.int b :: .int a :: r) mm := by
  obtain ⟨p, l, e, R, s, m, args, below, meth, c, D, ad, ⟨cI, cZ, cE⟩, A, X, nc, ns⟩ := x
  intro hC H locs hH ls hl
  exact lv_ixor hC.1 hC.2.1 hd (hk hC H locs hH ls hl)
theorem pw_o_ishl {a b : Int32} (hd : decode M.2.1 pc = .ok (.ishl, 1))  (hk : pw_V x M d Z (pc + 1) lv (.int (a <<< (b &&& 31)) :: r) mm) : pw_V x M d Z pc lv (.int b :: .int a :: r) mm := by
  obtain ⟨p, l, e, R, s, m, args, below, meth, c, D, ad, ⟨cI, cZ, cE⟩, A, X, nc, ns⟩ := x
  intro hC H locs hH ls hl
  exact lv_ishl hC.1 hC.2.1 hd (hk hC H locs hH ls hl)
theorem pw_o_ishr {a b : Int32} (hd : decode M.2.1 pc = .ok (.ishr, 1))  (hk : pw_V x M d Z (pc + 1) lv (.int (a >>> (b &&& 31)) :: r) mm) : pw_V x M d Z pc lv (.int b :: .int a :: r) mm := by
  obtain ⟨p, l, e, R, s, m, args, below, meth, c, D, ad, ⟨cI, cZ, cE⟩, A, X, nc, ns⟩ := x
  intro hC H locs hH ls hl
  exact lv_ishr hC.1 hC.2.1 hd (hk hC H locs hH ls hl)
theorem pw_o_iushr {a b : Int32} (hd : decode M.2.1 pc = .ok (.iushr, 1))  (hk : pw_V x M d Z (pc + 1) lv (.int ((a.toUInt32 >>> (b.toUInt32 &&& Int32.toUInt32 31)).toInt32) :: r) mm) : pw_V x M d Z pc lv (.int b :: .int a :: r) mm := by
  obtain ⟨p, l, e, R, s, m, args, below, meth, c, D, ad, ⟨cI, cZ, cE⟩, A, X, nc, ns⟩ := x
  intro hC H locs hH ls hl
  exact lv_iushr hC.1 hC.2.1 hd rfl (hk hC H locs hH ls hl)
theorem pw_o_idiv {a b : Int32} (hd : decode M.2.1 pc = .ok (.idiv, 1)) (hn : ¬ b = 0) (hk : pw_V x M d Z (pc + 1) lv (.int (a / b) :: r) mm) : pw_V x M d Z pc lv (.int b :: .int a :: r) mm := by
  obtain ⟨p, l, e, R, s, m, args, below, meth, c, D, ad, ⟨cI, cZ, cE⟩, A, X, nc, ns⟩ := x
  intro hC H locs hH ls hl
  exact lv_idiv hC.1 hC.2.1 hd hn (hk hC H locs hH ls hl)
theorem pw_o_irem {a b : Int32} (hd : decode M.2.1 pc = .ok (.irem, 1)) (hn : ¬ b = 0) (hk : pw_V x M d Z (pc + 1) lv (.int (a - a / b * b) :: r) mm) : pw_V x M d Z pc lv (.int b :: .int a :: r) mm := by
  obtain ⟨p, l, e, R, s, m, args, below, meth, c, D, ad, ⟨cI, cZ, cE⟩, A, X, nc, ns⟩ := x
  intro hC H locs hH ls hl
  exact lv_irem hC.1 hC.2.1 hd hn (hk hC H locs hH ls hl)
theorem pw_o_ladd {a b : Int64} (hd : decode M.2.1 pc = .ok (.ladd, 1))  (hk : pw_V x M d Z (pc + 1) lv (.long (a + b) :: r) mm) : pw_V x M d Z pc lv (.long b :: .long a :: r) mm := by
  obtain ⟨p, l, e, R, s, m, args, below, meth, c, D, ad, ⟨cI, cZ, cE⟩, A, X, nc, ns⟩ := x
  intro hC H locs hH ls hl
  exact lv_ladd hC.1 hC.2.1 hd (hk hC H locs hH ls hl)
theorem pw_o_lmul {a b : Int64} (hd : decode M.2.1 pc = .ok (.lmul, 1))  (hk : pw_V x M d Z (pc + 1) lv (.long (a * b) :: r) mm) : pw_V x M d Z pc lv (.long b :: .long a :: r) mm := by
  obtain ⟨p, l, e, R, s, m, args, below, meth, c, D, ad, ⟨cI, cZ, cE⟩, A, X, nc, ns⟩ := x
  intro hC H locs hH ls hl
  exact lv_lmul hC.1 hC.2.1 hd (hk hC H locs hH ls hl)
theorem pw_o_ldiv {a b : Int64} (hd : decode M.2.1 pc = .ok (.ldiv, 1)) (hn : ¬ b = 0) (hk : pw_V x M d Z (pc + 1) lv (.long (a / b) :: r) mm) : pw_V x M d Z pc lv (.long b :: .long a :: r) mm := by
  obtain ⟨p, l, e, R, s, m, args, below, meth, c, D, ad, ⟨cI, cZ, cE⟩, A, X, nc, ns⟩ := x
  intro hC H locs hH ls hl
  exact lv_ldiv hC.1 hC.2.1 hd hn (hk hC H locs hH ls hl)
theorem pw_o_lrem {a b : Int64} (hd : decode M.2.1 pc = .ok (.lrem, 1)) (hn : ¬ b = 0) (hk : pw_V x M d Z (pc + 1) lv (.long (a - a / b * b) :: r) mm) : pw_V x M d Z pc lv (.long b :: .long a :: r) mm := by
  obtain ⟨p, l, e, R, s, m, args, below, meth, c, D, ad, ⟨cI, cZ, cE⟩, A, X, nc, ns⟩ := x
  intro hC H locs hH ls hl
  exact lv_lrem hC.1 hC.2.1 hd hn (hk hC H locs hH ls hl)
theorem pw_o_lcmp {a b : Int64} (hd : decode M.2.1 pc = .ok (.lcmp, 1))  (hk : pw_V x M d Z (pc + 1) lv (.int (lg_cmp a b) :: r) mm) : pw_V x M d Z pc lv (.long b :: .long a :: r) mm := by
  obtain ⟨p, l, e, R, s, m, args, below, meth, c, D, ad, ⟨cI, cZ, cE⟩, A, X, nc, ns⟩ := x
  intro hC H locs hH ls hl
  exact W.lcmp hC.1 hC.2.1 hd (hk hC H locs hH ls hl)
theorem pw_o_i2l {a : Int32} (hd : decode M.2.1 pc = .ok (.i2l, 1))  (hk : pw_V x M d Z (pc + 1) lv (.long a.toInt64 :: r) mm) : pw_V x M d Z pc lv (.int a :: r) mm := by
  obtain ⟨p, l, e, R, s, m, args, below, meth, c, D, ad, ⟨cI, cZ, cE⟩, A, X, nc, ns⟩ := x
  intro hC H locs hH ls hl
  exact lv_i2l hC.1 hC.2.1 hd rfl (hk hC H locs hH ls hl)
theorem pw_o_dup {v : Value} (hd : decode M.2.1 pc = .ok (.dup, 1)) (hv : v.category = 1) (hk : pw_V x M d Z (pc + 1) lv (v :: v :: r) mm) : pw_V x M d Z pc lv (v :: r) mm := by
  obtain ⟨p, l, e, R, s, m, args, below, meth, c, D, ad, ⟨cI, cZ, cE⟩, A, X, nc, ns⟩ := x
  intro hC H locs hH ls hl
  exact lv_dup hC.1 hC.2.1 hd ((pw_tv_cat ad v).trans hv) (hk hC H locs hH ls hl)
theorem pw_o_dup2 {v w : Value} (hd : decode M.2.1 pc = .ok (.dup2, 1)) (hv : v.category = 1) (hw : w.category = 1) (hk : pw_V x M d Z (pc + 1) lv (v :: w :: v :: w :: r) mm) : pw_V x M d Z pc lv (v :: w :: r) mm := by
  obtain ⟨p, l, e, R, s, m, args, below, meth, c, D, ad, ⟨cI, cZ, cE⟩, A, X, nc, ns⟩ := x
  intro hC H locs hH ls hl
  exact lv_dup2_11 hC.1 hC.2.1 hd ((pw_tv_cat ad v).trans hv) ((pw_tv_cat ad w).trans hw) (hk hC H locs hH ls hl)
theorem pw_o_pop {v : Value} (hd : decode M.2.1 pc = .ok (.pop, 1)) (hv : v.category = 1) (hk : pw_V x M d Z (pc + 1) lv r mm) : pw_V x M d Z pc lv (v :: r) mm := by
  obtain ⟨p, l, e, R, s, m, args, below, meth, c, D, ad, ⟨cI, cZ, cE⟩, A, X, nc, ns⟩ := x
  intro hC H locs hH ls hl
  exact lv_pop hC.1 hC.2.1 hd ((pw_tv_cat ad v).trans hv) (hk hC H locs hH ls hl)
theorem pw_o_iconst {n : Int} (hd : decode M.2.1 pc = .ok (.iconst n, 1))  (hk : pw_V x M d Z (pc + 1) lv (.int (Int32.ofInt n) :: r) mm) : pw_V x M d Z pc lv r mm := by
  obtain ⟨p, l, e, R, s, m, args, below, meth, c, D, ad, ⟨cI, cZ, cE⟩, A, X, nc, ns⟩ := x
  intro hC H locs hH ls hl
  exact lv_iconst hC.1 hC.2.1 hd rfl (hk hC H locs hH ls hl)
theorem pw_o_bipush {n : Int} (hd : decode M.2.1 pc = .ok (.bipush n, 2)) (hn : (Int8.ofInt n).toInt32 = Int32.ofInt n) (hk : pw_V x M d Z (pc + 2) lv (.int (Int32.ofInt n) :: r) mm) : pw_V x M d Z pc lv r mm := by
  obtain ⟨p, l, e, R, s, m, args, below, meth, c, D, ad, ⟨cI, cZ, cE⟩, A, X, nc, ns⟩ := x
  intro hC H locs hH ls hl
  exact lv_bipush hC.1 hC.2.1 hd hn (hk hC H locs hH ls hl)
theorem pw_o_sipush {n : Int} (hd : decode M.2.1 pc = .ok (.sipush n, 3)) (hn : (Int16.ofInt n).toInt32 = Int32.ofInt n) (hk : pw_V x M d Z (pc + 3) lv (.int (Int32.ofInt n) :: r) mm) : pw_V x M d Z pc lv r mm := by
  obtain ⟨p, l, e, R, s, m, args, below, meth, c, D, ad, ⟨cI, cZ, cE⟩, A, X, nc, ns⟩ := x
  intro hC H locs hH ls hl
  exact lv_sipush hC.1 hC.2.1 hd hn (hk hC H locs hH ls hl)
theorem pw_o_lconst {n : Fin 2} (hd : decode M.2.1 pc = .ok (.lconst n, 1)) (hn : Int64.ofNat n = Int64.ofInt ((n : Nat) : Int)) (hk : pw_V x M d Z (pc + 1) lv (.long (Int64.ofInt ((n : Nat) : Int)) :: r) mm) : pw_V x M d Z pc lv r mm := by
  obtain ⟨p, l, e, R, s, m, args, below, meth, c, D, ad, ⟨cI, cZ, cE⟩, A, X, nc, ns⟩ := x
  intro hC H locs hH ls hl
  exact lv_lconst hC.1 hC.2.1 hd hn (hk hC H locs hH ls hl)
theorem pw_o_iload_n {k : Fin 4} {v : Int32} (hd : decode M.2.1 pc = .ok (.iload_n k, 1)) (hv : pw_lk lv k = some (.int v)) (hk : pw_V x M d Z (pc + 1) lv (.int v :: r) mm) : pw_V x M d Z pc lv r mm := by
  obtain ⟨p, l, e, R, s, m, args, below, meth, c, D, ad, ⟨cI, cZ, cE⟩, A, X, nc, ns⟩ := x
  intro hC H locs hH ls hl
  exact lv_iload_n hC.1 hC.2.1 hd rfl (pw_ld hl hv) (hk hC H locs hH ls hl)
theorem pw_o_iload {k : Nat} {v : Int32} (hd : decode M.2.1 pc = .ok (.iload k, 2)) (hv : pw_lk lv k = some (.int v)) (hk : pw_V x M d Z (pc + 2) lv (.int v :: r) mm) : pw_V x M d Z pc lv r mm := by
  obtain ⟨p, l, e, R, s, m, args, below, meth, c, D, ad, ⟨cI, cZ, cE⟩, A, X, nc, ns⟩ := x
  intro hC H locs hH ls hl
  exact lv_iload hC.1 hC.2.1 hd (pw_ld hl hv) (hk hC H locs hH ls hl)
theorem pw_o_istore_n {k : Fin 4} {v : Int32} (hd : decode M.2.1 pc = .ok (.istore_n k, 1)) (hv : (k : Nat) < M.2.2.1) (hk : pw_V x M d Z (pc + 1) (pw_s1 lv k (.int v)) r mm) : pw_V x M d Z pc lv (.int v :: r) mm := by
  obtain ⟨p, l, e, R, s, m, args, below, meth, c, D, ad, ⟨cI, cZ, cE⟩, A, X, nc, ns⟩ := x
  intro hC H locs hH ls hl
  exact lv_istore_n hC.1 hC.2.1 hd rfl hl hv (pw_s1_map (v := .int v)) (fun ls hl => (hk hC H locs hH ls hl))
theorem pw_o_istore {k : Nat} {v : Int32} (hd : decode M.2.1 pc = .ok (.istore k, 2)) (hv : k < M.2.2.1) (hk : pw_V x M d Z (pc + 2) (pw_s1 lv k (.int v)) r mm) : pw_V x M d Z pc lv (.int v :: r) mm := by
  obtain ⟨p, l, e, R, s, m, args, below, meth, c, D, ad, ⟨cI, cZ, cE⟩, A, X, nc, ns⟩ := x
  intro hC H locs hH ls hl
  exact lv_istore hC.1 hC.2.1 hd hl hv (pw_s1_map (v := .int v)) (fun ls hl => (hk hC H locs hH ls hl))
theorem pw_o_lload_n {k : Fin 4} {v : Int64} (hd : decode M.2.1 pc = .ok (.lload_n k, 1)) (hv : pw_lk lv k = some (.long v)) (hk : pw_V x M d Z (pc + 1) lv (.long v :: r) mm) : pw_V x M d Z pc lv r mm := by
  obtain ⟨p, l, e, R, s, m, args, below, meth, c, D, ad, ⟨cI, cZ, cE⟩, A, X, nc, ns⟩ := x
  intro hC H locs hH ls hl
  exact lv_lload_n hC.1 hC.2.1 hd rfl (pw_ld hl hv) (hk hC H locs hH ls hl)
theorem pw_o_lload {k : Nat} {v : Int64} (hd : decode M.2.1 pc = .ok (.lload k, 2)) (hv : pw_lk lv k = some (.long v)) (hk : pw_V x M d Z (pc + 2) lv (.long v :: r) mm) : pw_V x M d Z pc lv r mm := by
  obtain ⟨p, l, e, R, s, m, args, below, meth, c, D, ad, ⟨cI, cZ, cE⟩, A, X, nc, ns⟩ := x
  intro hC H locs hH ls hl
  exact lv_lload hC.1 hC.2.1 hd (pw_ld hl hv) (hk hC H locs hH ls hl)
theorem pw_o_lstore_n {k : Fin 4} {v : Int64} (hd : decode M.2.1 pc = .ok (.lstore_n k, 1)) (hv : (k : Nat) + 1 < M.2.2.1) (hk : pw_V x M d Z (pc + 1) (pw_s2 lv k (.long v)) r mm) : pw_V x M d Z pc lv (.long v :: r) mm := by
  obtain ⟨p, l, e, R, s, m, args, below, meth, c, D, ad, ⟨cI, cZ, cE⟩, A, X, nc, ns⟩ := x
  intro hC H locs hH ls hl
  exact lv_lstore_n hC.1 hC.2.1 hd rfl hl hv (pw_s2_map (v := .long v)) (fun ls hl => (hk hC H locs hH ls hl))
theorem pw_o_lstore {k : Nat} {v : Int64} (hd : decode M.2.1 pc = .ok (.lstore k, 2)) (hv : k + 1 < M.2.2.1) (hk : pw_V x M d Z (pc + 2) (pw_s2 lv k (.long v)) r mm) : pw_V x M d Z pc lv (.long v :: r) mm := by
  obtain ⟨p, l, e, R, s, m, args, below, meth, c, D, ad, ⟨cI, cZ, cE⟩, A, X, nc, ns⟩ := x
  intro hC H locs hH ls hl
  exact lv_lstore hC.1 hC.2.1 hd hl hv (pw_s2_map (v := .long v)) (fun ls hl => (hk hC H locs hH ls hl))
theorem pw_o_aload_n {k : Fin 4} {v : Nat} (hd : decode M.2.1 pc = .ok (.aload_n k, 1)) (hv : pw_lk lv k = some (.ref v)) (hk : pw_V x M d Z (pc + 1) lv (.ref v :: r) mm) : pw_V x M d Z pc lv r mm := by
  obtain ⟨p, l, e, R, s, m, args, below, meth, c, D, ad, ⟨cI, cZ, cE⟩, A, X, nc, ns⟩ := x
  intro hC H locs hH ls hl
  exact lv_aload_n hC.1 hC.2.1 hd rfl (pw_ld hl hv) (hk hC H locs hH ls hl)
theorem pw_o_aload {k : Nat} {v : Nat} (hd : decode M.2.1 pc = .ok (.aload k, 2)) (hv : pw_lk lv k = some (.ref v)) (hk : pw_V x M d Z (pc + 2) lv (.ref v :: r) mm) : pw_V x M d Z pc lv r mm := by
  obtain ⟨p, l, e, R, s, m, args, below, meth, c, D, ad, ⟨cI, cZ, cE⟩, A, X, nc, ns⟩ := x
  intro hC H locs hH ls hl
  exact lv_aload hC.1 hC.2.1 hd (pw_ld hl hv) (hk hC H locs hH ls hl)
theorem pw_o_astore_n {k : Fin 4} {v : Nat} (hd : decode M.2.1 pc = .ok (.astore_n k, 1)) (hv : (k : Nat) < M.2.2.1) (hk : pw_V x M d Z (pc + 1) (pw_s1 lv k (.ref v)) r mm) : pw_V x M d Z pc lv (.ref v :: r) mm := by
  obtain ⟨p, l, e, R, s, m, args, below, meth, c, D, ad, ⟨cI, cZ, cE⟩, A, X, nc, ns⟩ := x
  intro hC H locs hH ls hl
  exact lv_astore_n hC.1 hC.2.1 hd rfl hl hv (pw_s1_map (v := .ref v)) (fun ls hl => (hk hC H locs hH ls hl))
theorem pw_o_astore {k : Nat} {v : Nat} (hd : decode M.2.1 pc = .ok (.astore k, 2)) (hv : k < M.2.2.1) (hk : pw_V x M d Z (pc + 2) (pw_s1 lv k (.ref v)) r mm) : pw_V x M d Z pc lv (.ref v :: r) mm := by
  obtain ⟨p, l, e, R, s, m, args, below, meth, c, D, ad, ⟨cI, cZ, cE⟩, A, X, nc, ns⟩ := x
  intro hC H locs hH ls hl
  exact lv_astore hC.1 hC.2.1 hd hl hv (pw_s1_map (v := .ref v)) (fun ls hl => (hk hC H locs hH ls hl))
theorem pw_o_iinc {k : Nat} {n : Int} {v : Int32} (hd : decode M.2.1 pc = .ok (.iinc k n, 3)) (hv : pw_lk lv k = some (.int v)) (hn : k < M.2.2.1) (hk : pw_V x M d Z (pc + 3) (pw_s1 lv k (.int (v + Int32.ofInt n))) r mm) : pw_V x M d Z pc lv r mm := by
  obtain ⟨p, l, e, R, s, m, args, below, meth, c, D, ad, ⟨cI, cZ, cE⟩, A, X, nc, ns⟩ := x
  intro hC H locs hH ls hl
  obtain ⟨j, hj⟩ := List.getElem?_of_mem (List.mem_map_of_mem (f := pw_tq ad) (pw_lk_mem hv))
  exact lv_iinc hC.1 hC.2.1 hd hl hj rfl hn (pw_s1_map (v := .int (v + Int32.ofInt n))) (fun ls hl => (hk hC H locs hH ls hl))
end PWO
