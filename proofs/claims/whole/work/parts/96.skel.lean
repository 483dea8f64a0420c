/-! THE CLAIM OUT OF ONE WALK OF THE LAW'S BODY. Your part is whole_start (and what it stands on); all else here is the same for every law, but numbers. -/
def R_law : String := "PerilSeatLaw"
def lw_P (b : Addr) (xs : List Int32) (args : Array Value) (s : State) : Prop := args = #[.ref b] ∧ s.IntsAt b xs ∧ xs.length ≤ 3072 ∧ (Jvm.Cond.and given_1 narrow_1).before args s = true
def lw_Q (_ : Array Value) (s : State) (o : Outcome) (t : State) : Prop := o = .returned (some (.int 1)) ∧ Framed s o t [] 600000 7302250
def lw_Z (below : List Frame) (a : Array Value) (s : State) : State → Prop := fun t => ∃ o, t.status = .running ∧ Ended t below o ∧ lw_Q a s o t
/-- the law's own end, with 1 on the stack, nothing written that was there before, its room as the claim has it -/
theorem lw_ret {p : Program} {l : Launch} {e : Env} {s : State} {m : MethodId} {below : List Frame} {meth : Method} {c : Code} {b : Nat} (hx : p.tables.exec = Jvm.exec) (hb : c.code = code) (hr : meth.sig.returnType = ret) (hlocks : meth.locks = false) {pc : Nat} {H : Heap} {ls : Array Slot} (hdg : decode code pc = .ok (.ireturn, 1)) : W p l e room_1 s m #[Value.ref b] below meth c H [] 600000 7302250 (lw_Z below #[Value.ref b] s) (F0 m pc ls [.int 1]) := by
  intro T hT X
  obtain ⟨fs, hret, hrun, hended, hW, hframe⟩ := X.leave (v := some (.int 1)) (hlocks := hlocks) (fun h => by rw [hr] at h; cases h)
  have hmeth' : T.vm.method? m = some meth := X.method'
  refine ⟨T.setFrames fs, ?_, .returned (some (.int 1)), hrun, hended, rfl, ⟨_, rfl⟩, hW, hframe⟩
  jvm_step X.here [X.here.top, hx, hb, hdg, hmeth', hr, ret, narrow_b1]
  (try refine ⟨rfl, ?_⟩); (try refine ⟨rfl, ?_⟩)
  first | (intro acts; rw [hret _ acts rfl rfl rfl]) | rw [hret _ _ rfl rfl rfl]
  exact Steps.refl _
/-- what holds at the law's entry: the machine, the code, the tables' words (any of lw_tbl by 'hts w (by decide +kernel)'), the script of L ints xs at the cell b, what the Statement gives of the start (any of its parts by flat_of_before) -/
def lw_At (p : Program) (s : State) (m : MethodId) (meth : Method) (c : Code) (b L : Nat) (xs : Nat → Int32) : Prop :=
  p.tables.exec = Jvm.exec ∧ c.code = code ∧ meth.sig.returnType = ret ∧ c.maxLocals = 4 ∧ s.vm.findClass R_law = some m.cls ∧ (∀ w ∈ lw_tbl, w.before #[Value.ref b] s = true) ∧ va_X b L xs s s.heap ∧ b < s.heap.size ∧ meth.locks = false ∧ (Jvm.Cond.and given_1 narrow_1).before #[Value.ref b] s = true
/-! what the tables say of the start -/
theorem st_N {b : Nat} {s : State} (hts : ∀ w ∈ lw_tbl, w.before #[Value.ref b] s = true) : pw_N s ∧ pw_AN s := by
  refine ⟨fun q hq => ?_, va_AO.of (hts _ (List.mem_of_getElem? (i := 232) (by decide +kernel))), fun q hq => ?_⟩
  · simp only [pw_nl, List.mem_cons, List.not_mem_nil, or_false] at hq
    rcases hq with rfl | rfl | rfl
    · exact va_any rfl (hts _ (List.mem_of_getElem? (i := 628) (by decide +kernel)))
    · exact va_any rfl (hts _ (List.mem_of_getElem? (i := 637) (by decide +kernel)))
    · exact va_any rfl (hts _ (List.mem_of_getElem? (i := 638) (by decide +kernel)))
  · simp only [pw_nk, List.mem_cons, List.not_mem_nil, or_false] at hq
    rcases hq with rfl | rfl | rfl | rfl | rfl
    · exact va_any rfl (hts _ (List.mem_of_getElem? (i := 88) (by decide +kernel)))
    · exact va_any rfl (hts _ (List.mem_of_getElem? (i := 94) (by decide +kernel)))
    · exact va_any rfl (hts _ (List.mem_of_getElem? (i := 146) (by decide +kernel)))
    · exact va_any rfl (hts _ (List.mem_of_getElem? (i := 255) (by decide +kernel)))
    · exact va_any rfl (hts _ (List.mem_of_getElem? (i := 295) (by decide +kernel)))
theorem st_K {b : Nat} {s : State} (hts : ∀ w ∈ lw_tbl, w.before #[Value.ref b] s = true) : ∃ (D : va_G) (cI cZ cE : ClassId), va_K D vwCl (pw_ty cI cZ cE) s := by
  have htb : ∀ w ∈ pw_tb, w.before #[Value.ref b] s = true := fun w hw => hts w (List.mem_filter.mp hw).1
  obtain ⟨c0, i0, h0⟩ := u_known (C := RX0) (T := TX0) (N := 5) (n := 5) htb pw_u0 (hts _ (List.mem_of_getElem? (i := 199) (by decide +kernel)))
  obtain ⟨c1, i1, h1⟩ := u_known (C := RX1) (T := TX1) (N := 5) (n := 5) htb pw_u1 (hts _ (List.mem_of_getElem? (i := 226) (by decide +kernel)))
  obtain ⟨c2, i2, h2⟩ := u_known (C := RX2) (T := TX2) (N := 7) (n := 7) htb pw_u2 (hts _ (List.mem_of_getElem? (i := 87) (by decide +kernel)))
  obtain ⟨c3, i3, h3⟩ := u_known (C := RX3) (T := TX3) (N := 5) (n := 5) htb pw_u3 (hts _ (List.mem_of_getElem? (i := 93) (by decide +kernel)))
  obtain ⟨c4, i4, h4⟩ := u_known (C := RX4) (T := TX4) (N := 9) (n := 9) htb pw_u4 (hts _ (List.mem_of_getElem? (i := 294) (by decide +kernel)))
  obtain ⟨c5, i5, h5⟩ := u_known (C := RX5) (T := TX5) (N := 11) (n := 11) htb pw_u5 (hts _ (List.mem_of_getElem? (i := 145) (by decide +kernel)))
  obtain ⟨c6, i6, h6⟩ := u_known (C := RX6) (T := TX6) (N := 9) (n := 9) htb pw_u6 (hts _ (List.mem_of_getElem? (i := 254) (by decide +kernel)))
  obtain ⟨c7, i7, h7⟩ := u_known (C := RX7) (T := TX7) (N := 7) (n := 7) htb pw_u7 (hts _ (List.mem_of_getElem? (i := 79) (by decide +kernel)))
  obtain ⟨c8, i8, h8⟩ := u_known (C := RX8) (T := TX8) (N := 38) (n := 38) htb pw_u8 (hts _ (List.mem_of_getElem? (i := 749) (by decide +kernel)))
  obtain ⟨cI, kI, eI, fI, gI, jI⟩ := Cond.arrayClass_spec (hts (.arrayClass .int) (List.mem_of_getElem? (i := 119) (by decide +kernel)))
  obtain ⟨cZ, kZ, eZ, fZ, gZ, jZ⟩ := Cond.arrayClass_spec (hts (.arrayClass .boolean) (List.mem_of_getElem? (i := 292) (by decide +kernel)))
  obtain ⟨eE, cE, kE, fE, -, gE, jE, nE⟩ := Cond.arrayOver_spec (hts (.arrayOver (.object RX0)) (List.mem_of_getElem? (i := 232) (by decide +kernel)))
  refine ⟨(fun k => match k with | 0 => c0 | 1 => c1 | 2 => c2 | 3 => c3 | 4 => c4 | 5 => c5 | 6 => c6 | 7 => c7 | _ => c8, fun k => match k with | 0 => i0 | 1 => i1 | 2 => i2 | 3 => i3 | 4 => i4 | 5 => i5 | 6 => i6 | 7 => i7 | _ => i8), cI, cZ, cE, fun k q hq => ?_, fun k q hq => ?_⟩
  · match k, hq with
    | 0, hq => cases hq; exact h0
    | 1, hq => cases hq; exact h1
    | 2, hq => cases hq; exact h2
    | 3, hq => cases hq; exact h3
    | 4, hq => cases hq; exact h4
    | 5, hq => cases hq; exact h5
    | 6, hq => cases hq; exact h6
    | 7, hq => cases hq; exact h7
    | 8, hq => cases hq; exact h8
    | k + 9, hq => simp [vwCl] at hq
  · match k, hq with
    | 0, hq => cases hq; exact ⟨fun n z => ⟨fun k h => (by cases h), kI, gI, eI, jI⟩, fI⟩
    | 1, hq => cases hq; exact ⟨fun n z => ⟨fun k h => (by cases h), kZ, gZ, eZ, jZ⟩, fZ⟩
    | 2, hq => cases hq; exact ⟨fun n z => ⟨fun k h => (by cases h), kE, gE, eE, jE⟩, kE, eE, gE, jE, fE, nE⟩
    | k + 3, hq => simp [pw_ty] at hq
set_option maxHeartbeats 4000000 in
set_option maxRecDepth 100000 in
theorem st_T {b L : Nat} {xs : Nat → Int32} {s : State} (hts : ∀ w ∈ lw_tbl, w.before #[Value.ref b] s = true) (hgv : (Jvm.Cond.and given_1 narrow_1).before #[Value.ref b] s = true) (hL : L ≤ 3072) (hX : va_X b L xs s s.heap) (hbl : b < s.heap.size) : ∃ t0 t1 t2 : Nat, ∀ ad : Nat → Nat, ad 90 = t0 → ad 91 = t1 → ad 92 = t2 → ad 93 = b → pw_T ad (L, xs) (fun q => s.heap.size ≤ q) s s.heap := by
  have hs := flat_of_before _ hgv
  have hA : ∀ a : Nat, a < s.heap.size → ¬ s.heap.size ≤ a := fun a h => by omega
  have m0 : ∀ j, j < 4 → Cond.eq (.elem (.static "PerilSeat" "OVER_KNIGHTS" "[I") (.int (Int32.ofNat j))) (.int (pw_k0 j)) ∈ flatC (Jvm.Cond.and given_1 narrow_1) := by decide +kernel
  have m1 : ∀ j, j < 6 → Cond.eq (.elem (.static "PerilSeat" "OVER_NAMES" "[I") (.int (Int32.ofNat j))) (.int (pw_k1 j)) ∈ flatC (Jvm.Cond.and given_1 narrow_1) := by decide +kernel
  have m2 : ∀ j, j < 74 → Cond.eq (.elem (.static "PerilSeat$Reader" "WORDS" "[C") (.int (Int32.ofNat j))) (.int (pw_k2 j)) ∈ flatC (Jvm.Cond.and given_1 narrow_1) := by decide +kernel
  obtain ⟨t0, e0, h0⟩ := va_Tof (tm := .static "PerilSeat" "OVER_KNIGHTS" "[I") (ty := .int) (N := 4) (f := fun j => .int (pw_k0 j)) (A := fun q => s.heap.size ≤ q) (by decide) (hs (.arrayOf (.static "PerilSeat" "OVER_KNIGHTS" "[I") .int) (by decide +kernel)) (va_eqt (hs (.eq (.length (.static "PerilSeat" "OVER_KNIGHTS" "[I")) (.int 4)) (by decide +kernel))) (fun j hj => va_eqt (hs _ (m0 j hj))) hA
  obtain ⟨t1, e1, h1⟩ := va_Tof (tm := .static "PerilSeat" "OVER_NAMES" "[I") (ty := .int) (N := 6) (f := fun j => .int (pw_k1 j)) (A := fun q => s.heap.size ≤ q) (by decide) (hs (.arrayOf (.static "PerilSeat" "OVER_NAMES" "[I") .int) (by decide +kernel)) (va_eqt (hs (.eq (.length (.static "PerilSeat" "OVER_NAMES" "[I")) (.int 6)) (by decide +kernel))) (fun j hj => va_eqt (hs _ (m1 j hj))) hA
  obtain ⟨t2, e2, h2⟩ := va_Tof (tm := .static "PerilSeat$Reader" "WORDS" "[C") (ty := .char) (N := 74) (f := fun j => .int (pw_k2 j)) (A := fun q => s.heap.size ≤ q) (by decide) (hs (.arrayOf (.static "PerilSeat$Reader" "WORDS" "[C") .char) (by decide +kernel)) (va_eqt (hs (.eq (.length (.static "PerilSeat$Reader" "WORDS" "[C")) (.int 74)) (by decide +kernel))) (fun j hj => va_eqt (hs _ (m2 j hj))) hA
  have z0 := va_Zref (hts (.laysStatic "PerilSeat" "OVER_KNIGHTS" "[I") (List.mem_of_getElem? (i := 502) (by decide +kernel))) (hts (.initialized "PerilSeat") (List.mem_of_getElem? (i := 67) (by decide +kernel))) e0 hA
  have z1 := va_Zref (hts (.laysStatic "PerilSeat" "OVER_NAMES" "[I") (List.mem_of_getElem? (i := 519) (by decide +kernel))) (hts (.initialized "PerilSeat") (List.mem_of_getElem? (i := 67) (by decide +kernel))) e1 hA
  have z2 := va_Zref (hts (.laysStatic "PerilSeat$Reader" "WORDS" "[C") (List.mem_of_getElem? (i := 396) (by decide +kernel))) (hts (.initialized "PerilSeat$Reader") (List.mem_of_getElem? (i := 68) (by decide +kernel))) e2 hA
  obtain ⟨scr, x1, x2, x3, x4, x5⟩ := hX
  refine ⟨t0, t1, t2, fun ad a0 a1 a2 a3 => ?_⟩
  unfold pw_T
  rw [a0, a1, a2, a3]
  exact ⟨⟨z0, h0⟩, ⟨z1, h1⟩, ⟨z2, h2⟩, Or.inr ⟨by show L < 2 ^ 31; omega, scr, x1, x2, x3, Nat.le_of_eq x4.symm, by rw [x4] <;> rfl, fun j hj => x5 j hj, hA b hbl⟩⟩
