/-! making things: the world is a plain list of cells -/
def pw_nk : List (String × Nat × MethodName × String) := [(RX7, 9, yX2_init, RX7), (RX2, 11, yX3_init, RX7), (RX7, 18, yX5_init, RX7), (RX7, 39, yX6_init, RX7), (RX7, 46, yX4_init, RX7)]
/-- what a maker needs beside the words: the array class of Evenings, and links to a nest mate's constructor -/
def pw_AN (U : State) : Prop := va_AO RX0 U ∧ ∀ q ∈ pw_nk, va_Nw (.methodLinkNest q.1 q.2.1 q.2.2.1 q.2.2.2) U
theorem pw_AN.warm {s U : State} (hW : s.WarmedH U.vm) (h : pw_AN s) : pw_AN U := ⟨va_AO.moved hW.alike h.1, fun q hq => va_Nw.warmM hW (h.2 q hq)⟩
theorem pw_AN.same {u U : State} (hv : u.vm = U.vm) (h : pw_AN u) : pw_AN U := ⟨va_AO.moved (by rw [hv]; exact Vm.Alike.refl U.vm) h.1, fun q hq => va_Nw.same rfl hv (h.2 q hq)⟩
abbrev pw_Y : Type := Program × Launch × Env × Room × State × MethodId × Array Value × List Frame × Method × Code × va_G × (ClassId × ClassId × ClassId) × (Nat → Prop)
def pw_CY (x : pw_Y) (M : pw_M) (d bc bs : Nat) : Prop := match x with
  | (p, _, _, R, s, m, args, _, meth, c, D, (cI, cZ, cE), A) =>
    p.tables.exec = Jvm.exec ∧ c.code = M.2.1 ∧ c.maxLocals = M.2.2.1 ∧ s.vm.findClass (pw_on M.1) = some m.cls ∧ (∀ w ∈ pw_tb, w.before args s = true) ∧ meth.sig.returnType = M.2.2.2 ∧ meth.locks = false ∧ (d ≤ R.frames ∧ 64 * d ≤ R.locals ∧ bc ≤ R.cells ∧ bs ≤ R.slots) ∧ va_K D vwCl (pw_ty cI cZ cE) s ∧ (∀ q, s.heap.size ≤ q → A q) ∧ pw_AN s ∧ (M.2.2.2 = none → meth.name = "<init>")
def pw_U (x : pw_Y) (M : pw_M) (d bc bs : Nat) (Z : State → Prop) (pc : Nat) (lv : List (Nat × Value)) (st : List Value) (ws : va_W) (nc ns : Nat) : Prop := match x with
  | (p, l, e, R, s, m, args, below, meth, c, D, (cI, cZ, cE), A) => pw_CY (p, l, e, R, s, m, args, below, meth, c, D, (cI, cZ, cE), A) M d bc bs → ∀ (H : Heap) (locs : List Loc), va_P D vwCl ws H → va_D A ws → va_S A s.heap H locs → ∀ ls : Array Slot, lv_has ls M.2.2.1 lv → W p l e R s m args below meth c H locs nc ns Z (F0 m pc ls st)
def pw_yI (x : pw_Y) : ClassId := x.2.2.2.2.2.2.2.2.2.2.2.1.1
def pw_yZ (x : pw_Y) : ClassId := x.2.2.2.2.2.2.2.2.2.2.2.1.2.1
def pw_yE (x : pw_Y) : ClassId := x.2.2.2.2.2.2.2.2.2.2.2.1.2.2
theorem pw_RAu {U : State} {a b : ClassId} {ty : FieldType} (h1 : va_RA U a ty) (h2 : va_RA U b ty) : a = b := by
  cases ty with
  | object C =>
    obtain ⟨-, -, -, -, -, e1⟩ := h1
    obtain ⟨-, -, -, -, -, e2⟩ := h2
    exact Option.some.inj (e1.symm.trans e2)
  | _ => exact Option.some.inj (Eq.trans (Eq.symm h1) h2)
theorem w_arrI : Cond.arrayClass .int ∈ pw_tb := pw_tb_in (i := 119) (by decide +kernel) rfl
theorem w_arrZ : Cond.arrayClass .boolean ∈ pw_tb := pw_tb_in (i := 292) (by decide +kernel) rfl
theorem w_obi : Cond.instanceMethod Lib.objectInit ∈ pw_tb := pw_tb_in (i := 84) (by decide +kernel) rfl
theorem w_obc : Cond.code Lib.objectInit ⟨#[0xb1]⟩ 1 none ∈ pw_tb := pw_tb_in (i := 85) (by decide +kernel) rfl
section PWU
variable {x : pw_Y} {M : pw_M} {d bc bs : Nat} {Z : State → Prop} {pc : Nat} {lv : List (Nat × Value)} {r : List Value} {ws : va_W} {nc ns : Nat}
theorem u_al {k : Fin 4} (i : Nat) {a : Nat} (hd : decode M.2.1 pc = .ok (.aload_n k, 1)) (hi : lv[i]? = some ((k : Nat), .ref a)) (hk : pw_U x M d bc bs Z (pc + 1) lv (.ref a :: r) ws nc ns) : pw_U x M d bc bs Z pc lv r ws nc ns := by
  obtain ⟨p, l, ee, R, s, m, args, below, meth, cc, D, ⟨cI, cZ, cE⟩, A⟩ := x
  intro hC H locs hP hD hS ls hl
  exact lv_aload_n hC.1 hC.2.1 hd rfl (lv_at hl i hi) (hk hC H locs hP hD hS ls hl)
theorem u_il {k : Fin 4} (i : Nat) {a : Int32} (hd : decode M.2.1 pc = .ok (.iload_n k, 1)) (hi : lv[i]? = some ((k : Nat), .int a)) (hk : pw_U x M d bc bs Z (pc + 1) lv (.int a :: r) ws nc ns) : pw_U x M d bc bs Z pc lv r ws nc ns := by
  obtain ⟨p, l, ee, R, s, m, args, below, meth, cc, D, ⟨cI, cZ, cE⟩, A⟩ := x
  intro hC H locs hP hD hS ls hl
  exact lv_iload_n hC.1 hC.2.1 hd rfl (lv_at hl i hi) (hk hC H locs hP hD hS ls hl)
theorem u_du {a : Nat} (hd : decode M.2.1 pc = .ok (.dup, 1)) (hk : pw_U x M d bc bs Z (pc + 1) lv (.ref a :: .ref a :: r) ws nc ns) : pw_U x M d bc bs Z pc lv (.ref a :: r) ws nc ns := by
  obtain ⟨p, l, ee, R, s, m, args, below, meth, cc, D, ⟨cI, cZ, cE⟩, A⟩ := x
  intro hC H locs hP hD hS ls hl
  exact lv_dup hC.1 hC.2.1 hd rfl (hk hC H locs hP hD hS ls hl)
theorem u_ic {n : Int} {v : Int32} (hd : decode M.2.1 pc = .ok (.iconst n, 1)) (hv : Int32.ofInt n = v) (hk : pw_U x M d bc bs Z (pc + 1) lv (.int v :: r) ws nc ns) : pw_U x M d bc bs Z pc lv r ws nc ns := by
  obtain ⟨p, l, ee, R, s, m, args, below, meth, cc, D, ⟨cI, cZ, cE⟩, A⟩ := x
  intro hC H locs hP hD hS ls hl
  exact lv_iconst hC.1 hC.2.1 hd hv (hk hC H locs hP hD hS ls hl)
theorem u_bi {n : Int} {v : Int32} (hd : decode M.2.1 pc = .ok (.bipush n, 2)) (hv : (Int8.ofInt n).toInt32 = v) (hk : pw_U x M d bc bs Z (pc + 2) lv (.int v :: r) ws nc ns) : pw_U x M d bc bs Z pc lv r ws nc ns := by
  obtain ⟨p, l, ee, R, s, m, args, below, meth, cc, D, ⟨cI, cZ, cE⟩, A⟩ := x
  intro hC H locs hP hD hS ls hl
  exact lv_bipush hC.1 hC.2.1 hd hv (hk hC H locs hP hD hS ls hl)
theorem u_si {n : Int} {v : Int32} (hd : decode M.2.1 pc = .ok (.sipush n, 3)) (hv : (Int16.ofInt n).toInt32 = v) (hk : pw_U x M d bc bs Z (pc + 3) lv (.int v :: r) ws nc ns) : pw_U x M d bc bs Z pc lv r ws nc ns := by
  obtain ⟨p, l, ee, R, s, m, args, below, meth, cc, D, ⟨cI, cZ, cE⟩, A⟩ := x
  intro hC H locs hP hD hS ls hl
  exact lv_sipush hC.1 hC.2.1 hd hv (hk hC H locs hP hD hS ls hl)
theorem u_oi {idx a : Nat} (hd : decode M.2.1 pc = .ok (.invokespecial idx, 3)) (hlink : Cond.methodLink (pw_on M.1) idx Lib.objectInit ∈ pw_tb) (h1 : 1 ≤ d) (hr : (r.map fun v => v.category).sum ≤ 8) (hk : pw_U x M d bc bs Z (pc + 3) lv r ws nc ns) : pw_U x M d bc bs Z pc lv (.ref a :: r) ws nc ns := by
  obtain ⟨p, l, ee, R, s, m, args, below, meth, cc, D, ⟨cI, cZ, cE⟩, A⟩ := x
  intro hC H locs hP hD hS ls hl
  have hR := hC.2.2.2.2.2.2.2.1
  refine W.objInit hC.1 hC.2.1 hC.2.2.2.1 (hC.2.2.2.2.1 _ hlink) (hC.2.2.2.2.1 _ w_obi) (hC.2.2.2.2.1 _ w_obc) rfl (by rw [hC.2.2.1]; exact hl.1) rfl hd (Nat.le_trans h1 hR.1) (Nat.le_trans ?_ hR.2.1) ?_
  · show 2 * 0 + (r.map fun v => v.category).sum + 12 ≤ 64 * d
    omega
  · exact hk hC H locs hP hD hS ls hl
theorem u_ni {n : Int32} {N : Nat} (hd : decode M.2.1 pc = .ok (.newarray .int, 2)) (hn : ¬ n < 0) (hN : n.toNatClampNeg = N) (hb : N * 4 ≤ 536870912) (h1 : nc + 1 ≤ bc) (h2 : ns + N ≤ bs) (hk : ∀ q : Nat, pw_U x M d bc bs Z (pc + 2) lv (.ref q :: r) (ws ++ [(q, .inl (pw_yI x, N, .inl (fun _ => 0)))]) (nc + 1) (ns + N)) : pw_U x M d bc bs Z pc lv (.int n :: r) ws nc ns := by
  obtain ⟨p, l, ee, R, s, m, args, below, meth, cc, D, ⟨cI, cZ, cE⟩, A⟩ := x
  intro hC H locs hP hD hS ls hl
  have hR := hC.2.2.2.2.2.2.2.1
  refine va_newa (atype := .int) (a0 := (N, .inl (fun _ => 0))) hC.1 hC.2.1 (hC.2.2.2.2.1 _ w_arrI) rfl hC.2.2.2.2.2.2.2.2.1 hP hD hS hC.2.2.2.2.2.2.2.2.2.1 (fun cA => rfl) hn hN hb (Nat.le_trans h1 hR.2.2.1) (Nat.le_trans h2 hR.2.2.2) hd (fun q cA H1 hK1 hP1 hD1 hS1 => ?_)
  have e : cA = cI := pw_RAu (hK1.2 3 (cA, .int) rfl).2 (hK1.2 0 (cI, .int) rfl).2
  subst e
  exact hk q hC H1 locs hP1 hD1 hS1 ls hl
theorem u_nz {n : Int32} {N : Nat} (hd : decode M.2.1 pc = .ok (.newarray .boolean, 2)) (hn : ¬ n < 0) (hN : n.toNatClampNeg = N) (hb : N * 4 ≤ 536870912) (h1 : nc + 1 ≤ bc) (h2 : ns + N ≤ bs) (hk : ∀ q : Nat, pw_U x M d bc bs Z (pc + 2) lv (.ref q :: r) (ws ++ [(q, .inl (pw_yZ x, N, .inl (fun _ => 0)))]) (nc + 1) (ns + N)) : pw_U x M d bc bs Z pc lv (.int n :: r) ws nc ns := by
  obtain ⟨p, l, ee, R, s, m, args, below, meth, cc, D, ⟨cI, cZ, cE⟩, A⟩ := x
  intro hC H locs hP hD hS ls hl
  have hR := hC.2.2.2.2.2.2.2.1
  refine va_newa (atype := .boolean) (a0 := (N, .inl (fun _ => 0))) hC.1 hC.2.1 (hC.2.2.2.2.1 _ w_arrZ) rfl hC.2.2.2.2.2.2.2.2.1 hP hD hS hC.2.2.2.2.2.2.2.2.2.1 (fun cA => rfl) hn hN (by show N * 1 ≤ _; omega) (Nat.le_trans h1 hR.2.2.1) (Nat.le_trans h2 hR.2.2.2) hd (fun q cA H1 hK1 hP1 hD1 hS1 => ?_)
  have e : cA = cZ := pw_RAu (hK1.2 3 (cA, .boolean) rfl).2 (hK1.2 1 (cZ, .boolean) rfl).2
  subst e
  exact hk q hC H1 locs hP1 hD1 hS1 ls hl
theorem u_ne {n : Int32} {N idx : Nat} (hd : decode M.2.1 pc = .ok (.anewarray idx, 3)) (hlink : Cond.classLink (pw_on M.1) idx RX0 ∈ pw_tb) (hn : ¬ n < 0) (hN : n.toNatClampNeg = N) (hb : N * 4 ≤ 536870912) (h1 : nc + 1 ≤ bc) (h2 : ns + N ≤ bs) (hk : ∀ q : Nat, pw_U x M d bc bs Z (pc + 3) lv (.ref q :: r) (ws ++ [(q, .inl (pw_yE x, N, .inr (.inr (.inr (.inr (fun _ => none))))))]) (nc + 1) (ns + N)) : pw_U x M d bc bs Z pc lv (.int n :: r) ws nc ns := by
  obtain ⟨p, l, ee, R, s, m, args, below, meth, cc, D, ⟨cI, cZ, cE⟩, A⟩ := x
  intro hC H locs hP hD hS ls hl
  have hR := hC.2.2.2.2.2.2.2.1
  refine va_newq (C := RX0) hC.1 hC.2.1 hC.2.2.2.1 (hC.2.2.2.2.1 _ hlink) hC.2.2.2.2.2.2.2.2.2.2.1.1 hC.2.2.2.2.2.2.2.2.1 hP hD hS hC.2.2.2.2.2.2.2.2.2.1 hn hN hb (Nat.le_trans h1 hR.2.2.1) (Nat.le_trans h2 hR.2.2.2) hd (fun q cA H1 hK1 hP1 hD1 hS1 => ?_)
  have e : cA = cE := pw_RAu (hK1.2 3 (cA, .object RX0) rfl).2 (hK1.2 2 (cE, .object RX0) rfl).2
  subst e
  exact hk q hC H1 locs hP1 hD1 hS1 ls hl
theorem u_pF {idx a ci k N : Nat} {C : String} {T : u_T} {v : Value} {ty : FieldType} {fs : List Value} (q0 : Nat) (hd : decode M.2.1 pc = .ok (.putfield idx, 3)) (hr : M.2.2.2 = none) (hc : vwCl[ci]? = some (C, T, N)) (hk0 : k < N) (hlink : Cond.fieldLink (pw_on M.1) idx C (T k).2.1 (T k).2.2.1 ∈ pw_tb) (hq : ws[q0]? = some (a, .inr (ci, fs))) (h1 : (T k).1 = C) (h2 : (T k).1 = pw_on M.1) (hf : (T k).2.2.2 = true) (ht : parseFieldDescriptor (T k).2.2.1 = some ty) (hn : narrow ty v = v) (hfit : fits ty v = true) (hl0 : k < fs.length) (hk : pw_U x M d bc bs Z (pc + 3) lv r (ws.set q0 (a, .inr (ci, fs.set k v))) nc ns) : pw_U x M d bc bs Z pc lv (v :: .ref a :: r) ws nc ns := by
  obtain ⟨p, l, ee, R, s, m, args, below, meth, cc, D, ⟨cI, cZ, cE⟩, A⟩ := x
  intro hC H locs hP hD hS ls hl
  obtain ⟨b1, ty0, b2, b3⟩ := pw_cl hc
  exact va_putF (ref := C) hC.1 hC.2.1 hC.2.2.2.2.1 b1 ty0 b2 b3 hC.2.2.2.1 hC.2.2.2.2.2.2.2.2.1 hP hD hS q0 hq hc k hk0 (hC.2.2.2.2.1 _ hlink) (fun z hz => by rw [← h1]; exact hz) hf (hC.2.2.2.2.2.2.2.2.2.2.2 hr) h2 ht hn hfit hl0 hd (fun H1 locs1 hP1 hD1 hS1 => hk hC H1 locs1 hP1 hD1 hS1 ls hl)
theorem u_pN {idx a ci k N : Nat} {C : String} {T : u_T} {v : Value} {ty : FieldType} {fs : List Value} (q0 : Nat) (hd : decode M.2.1 pc = .ok (.putfield idx, 3)) (hc : vwCl[ci]? = some (C, T, N)) (hk0 : k < N) (hlink : Cond.fieldLink (pw_on M.1) idx C (T k).2.1 (T k).2.2.1 ∈ pw_tb) (hq : ws[q0]? = some (a, .inr (ci, fs))) (h1 : (T k).1 = C) (hf : (T k).2.2.2 = false) (ht : parseFieldDescriptor (T k).2.2.1 = some ty) (hn : narrow ty v = v) (hfit : fits ty v = true) (hl0 : k < fs.length) (hk : pw_U x M d bc bs Z (pc + 3) lv r (ws.set q0 (a, .inr (ci, fs.set k v))) nc ns) : pw_U x M d bc bs Z pc lv (v :: .ref a :: r) ws nc ns := by
  obtain ⟨p, l, ee, R, s, m, args, below, meth, cc, D, ⟨cI, cZ, cE⟩, A⟩ := x
  intro hC H locs hP hD hS ls hl
  obtain ⟨b1, ty0, b2, b3⟩ := pw_cl hc
  exact va_put (ref := C) hC.1 hC.2.1 hC.2.2.2.2.1 b1 ty0 b2 b3 hC.2.2.2.1 hC.2.2.2.2.2.2.2.2.1 hP hD hS q0 hq hc k hk0 (hC.2.2.2.2.1 _ hlink) (fun z hz => by rw [← h1]; exact hz) hf ht hn hfit hl0 hd (fun H1 locs1 hP1 hD1 hS1 => hk hC H1 locs1 hP1 hD1 hS1 ls hl)
theorem u_gf {idx a ci k N : Nat} {C : String} {T : u_T} {v : Value} {fs : List Value} (q0 : Nat) (hd : decode M.2.1 pc = .ok (.getfield idx, 3)) (hc : vwCl[ci]? = some (C, T, N)) (hk0 : k < N) (hlink : Cond.fieldLink (pw_on M.1) idx C (T k).2.1 (T k).2.2.1 ∈ pw_tb) (hq : ws[q0]? = some (a, .inr (ci, fs))) (h1 : (T k).1 = C) (hv : fs[k]? = some v) (hk : pw_U x M d bc bs Z (pc + 3) lv (v :: r) ws nc ns) : pw_U x M d bc bs Z pc lv (.ref a :: r) ws nc ns := by
  obtain ⟨p, l, ee, R, s, m, args, below, meth, cc, D, ⟨cI, cZ, cE⟩, A⟩ := x
  intro hC H locs hP hD hS ls hl
  exact va_get (ref := C) hC.1 hC.2.1 hC.2.2.2.2.1 (pw_cl hc).1 hC.2.2.2.1 hC.2.2.2.2.2.2.2.2.1 hP q0 hq hc k hk0 (hC.2.2.2.2.1 _ hlink) (fun z hz => by rw [← h1]; exact hz) hv hd (hk hC H locs hP hD hS ls hl)
theorem u_ia {a n : Nat} {i v : Int32} {f : Nat → Int32} (q0 : Nat) (hd : decode M.2.1 pc = .ok (.iastore, 1)) (hq : ws[q0]? = some (a, .inl (pw_yI x, n, .inl f))) (hi : vp_in i n) (hk : pw_U x M d bc bs Z (pc + 1) lv r (ws.set q0 (a, .inl (pw_yI x, n, .inl (upd f i.toNatClampNeg v)))) nc ns) : pw_U x M d bc bs Z pc lv (.int v :: .int i :: .ref a :: r) ws nc ns := by
  obtain ⟨p, l, ee, R, s, m, args, below, meth, cc, D, ⟨cI, cZ, cE⟩, A⟩ := x
  intro hC H locs hP hD hS ls hl
  exact va_iast hC.1 hC.2.1 hC.2.2.2.2.2.2.2.2.1 hP hD hS q0 0 hq rfl hi hd (fun H1 locs1 hP1 hD1 hS1 => hk hC H1 locs1 hP1 hD1 hS1 ls hl)
theorem u_aa {a n b : Nat} {i : Int32} {f : Nat → Option Nat} {vs : List Value} (q0 qk : Nat) (hd : decode M.2.1 pc = .ok (.aastore, 1)) (hq : ws[q0]? = some (a, .inl (pw_yE x, n, .inr (.inr (.inr (.inr f)))))) (hb : ws[qk]? = some (b, .inr (0, vs))) (hi : vp_in i n) (hk : pw_U x M d bc bs Z (pc + 1) lv r (ws.set q0 (a, .inl (pw_yE x, n, .inr (.inr (.inr (.inr (va_up f i.toNatClampNeg (some b)))))))) nc ns) : pw_U x M d bc bs Z pc lv (.ref b :: .int i :: .ref a :: r) ws nc ns := by
  obtain ⟨p, l, ee, R, s, m, args, below, meth, cc, D, ⟨cI, cZ, cE⟩, A⟩ := x
  intro hC H locs hP hD hS ls hl
  exact va_astq (r := (RX0, TX0, 5)) hC.1 hC.2.1 hC.2.2.2.2.2.2.2.2.1 hP hD hS q0 2 qk 0 hq rfl hb rfl hi hd (fun H1 locs1 hP1 hD1 hS1 => hk hC H1 locs1 hP1 hD1 hS1 ls hl)
theorem u_nw {idx ci N : Nat} {C : String} {T : u_T} {fs : List Value} (ty : Nat → FieldType) (hd : decode M.2.1 pc = .ok (.new idx, 3)) (hc : vwCl[ci]? = some (C, T, N)) (hty : ∀ k, k < N → parseFieldDescriptor (T k).2.2.1 = some (ty k)) (hcl : Cond.classLink (pw_on M.1) idx C ∈ pw_tb) (hinst : Cond.instantiable C N ∈ pw_tb) (hini : Cond.initialized C ∈ pw_tb) (hfs : ∀ j, j < N → defaultValue (ty j) = vp_V fs j) (h1 : nc + 1 ≤ bc) (h2 : ns + N ≤ bs) (hk : ∀ q : Nat, pw_U x M d bc bs Z (pc + 3) lv (.ref q :: r) (ws ++ [(q, .inr (ci, fs))]) (nc + 1) (ns + N)) : pw_U x M d bc bs Z pc lv r ws nc ns := by
  obtain ⟨p, l, ee, R, s, m, args, below, meth, cc, D, ⟨cI, cZ, cE⟩, A⟩ := x
  intro hC H locs hP hD hS ls hl
  have hR := hC.2.2.2.2.2.2.2.1
  exact va_new hC.1 hC.2.1 hC.2.2.2.2.1 (pw_cl hc).1 ty hty hC.2.2.2.1 (hC.2.2.2.2.1 _ hcl) (hC.2.2.2.2.1 _ hinst) (hC.2.2.2.2.1 _ hini) hC.2.2.2.2.2.2.2.2.1 hP hD hS hC.2.2.2.2.2.2.2.2.2.1 hc hfs (Nat.le_trans h1 hR.2.2.1) (Nat.le_trans h2 hR.2.2.2) hd (fun q H1 hP1 hD1 hS1 => hk q hC H1 locs hP1 hD1 hS1 ls hl)
theorem u_is {k : Fin 4} {v : Int32} {lv' : List (Nat × Value)} (hd : decode M.2.1 pc = .ok (.istore_n k, 1)) (hm : (k : Nat) + 1 ≤ M.2.2.1) (hl' : pw_s1 lv (k : Nat) (.int v) = lv') (hk : pw_U x M d bc bs Z (pc + 1) lv' r ws nc ns) : pw_U x M d bc bs Z pc lv (.int v :: r) ws nc ns := by
  obtain ⟨p, l, ee, R, s, m, args, below, meth, cc, D, ⟨cI, cZ, cE⟩, A⟩ := x
  intro hC H locs hP hD hS ls hl
  exact lv_istore_n hC.1 hC.2.1 hd rfl hl (by omega) hl' (fun ls hl => hk hC H locs hP hD hS ls hl)
theorem u_as {k : Fin 4} {v : Nat} {lv' : List (Nat × Value)} (hd : decode M.2.1 pc = .ok (.astore_n k, 1)) (hm : (k : Nat) + 1 ≤ M.2.2.1) (hl' : pw_s1 lv (k : Nat) (.ref v) = lv') (hk : pw_U x M d bc bs Z (pc + 1) lv' r ws nc ns) : pw_U x M d bc bs Z pc lv (.ref v :: r) ws nc ns := by
  obtain ⟨p, l, ee, R, s, m, args, below, meth, cc, D, ⟨cI, cZ, cE⟩, A⟩ := x
  intro hC H locs hP hD hS ls hl
  exact lv_astore_n hC.1 hC.2.1 hd rfl hl (by omega) hl' (fun ls hl => hk hC H locs hP hD hS ls hl)
theorem u_ii {i : Nat} {n : Int} {v w : Int32} {lv' : List (Nat × Value)} (j : Nat) (hd : decode M.2.1 pc = .ok (.iinc i n, 3)) (hj : lv[j]? = some (i, .int v)) (hw : v + Int32.ofInt n = w) (hm : i + 1 ≤ M.2.2.1) (hl' : pw_s1 lv i (.int w) = lv') (hk : pw_U x M d bc bs Z (pc + 3) lv' r ws nc ns) : pw_U x M d bc bs Z pc lv r ws nc ns := by
  obtain ⟨p, l, ee, R, s, m, args, below, meth, cc, D, ⟨cI, cZ, cE⟩, A⟩ := x
  intro hC H locs hP hD hS ls hl
  exact lv_iinc (k := j) hC.1 hC.2.1 hd hl hj hw (by omega) hl' (fun ls hl => hk hC H locs hP hD hS ls hl)
theorem u_gT {a b : Int32} {off : Int} {tgt : Nat} (hd : decode M.2.1 pc = .ok (.if_icmp .ge off, 3)) (ht : (pc : Int) + off = (tgt : Int)) (hab : b ≤ a) (hk : pw_U x M d bc bs Z tgt lv r ws nc ns) : pw_U x M d bc bs Z pc lv (.int b :: .int a :: r) ws nc ns := by
  obtain ⟨p, l, ee, R, s, m, args, below, meth, cc, D, ⟨cI, cZ, cE⟩, A⟩ := x
  intro hC H locs hP hD hS ls hl
  exact lv_icmp_ge hC.1 hC.2.1 hd ht (fun _ => hk hC H locs hP hD hS ls hl) (fun h => absurd hab h)
theorem u_gF {a b : Int32} {off : Int} {tgt : Nat} (hd : decode M.2.1 pc = .ok (.if_icmp .ge off, 3)) (ht : (pc : Int) + off = (tgt : Int)) (hab : ¬ b ≤ a) (hk : pw_U x M d bc bs Z (pc + 3) lv r ws nc ns) : pw_U x M d bc bs Z pc lv (.int b :: .int a :: r) ws nc ns := by
  obtain ⟨p, l, ee, R, s, m, args, below, meth, cc, D, ⟨cI, cZ, cE⟩, A⟩ := x
  intro hC H locs hP hD hS ls hl
  exact lv_icmp_ge hC.1 hC.2.1 hd ht (fun h => absurd h hab) (fun _ => hk hC H locs hP hD hS ls hl)
theorem u_go {off : Int} {tgt : Nat} (hd : decode M.2.1 pc = .ok (.goto off, 3)) (ht : (pc : Int) + off = (tgt : Int)) (hk : pw_U x M d bc bs Z tgt lv r ws nc ns) : pw_U x M d bc bs Z pc lv r ws nc ns := by
  obtain ⟨p, l, ee, R, s, m, args, below, meth, cc, D, ⟨cI, cZ, cE⟩, A⟩ := x
  intro hC H locs hP hD hS ls hl
  exact lv_goto hC.1 hC.2.1 hd ht (hk hC H locs hP hD hS ls hl)
/-- the cells in another order -/
theorem u_sb {ws' : va_W} (is : List Nat) (hn : va_nd is = true) (hs : is.filterMap (fun i => ws[i]?) = ws') (hs2 : is.map (fun i => ws[i]?) = ws'.map some) (hk : pw_U x M d bc bs Z pc lv r ws' nc ns) : pw_U x M d bc bs Z pc lv r ws nc ns := by
  obtain ⟨p, l, ee, R, s, m, args, below, meth, cc, D, ⟨cI, cZ, cE⟩, A⟩ := x
  intro hC H locs hP hD hS ls hl
  exact hk hC H locs (hP.sub is hs) (hD.sub is hn hs2) hS ls hl
end PWU
