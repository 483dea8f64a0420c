/-! branches, returns, contracts, calls -/
section PWB
variable {x : pw_X} {M : pw_M} {d : Nat} {Z : State → Prop} {pc tgt : Nat} {off : Int} {lv : List (Nat × Value)} {r : List Value} {mm : pw_m}
theorem pw_if_eq {a : Int32} (hd : decode M.2.1 pc = .ok (.ifCond .eq off, 3)) (ht : (pc : Int) + off = (tgt : Int)) (kt : a = 0 → pw_V x M d Z tgt lv r mm) (kf : ¬ a = 0 → pw_V x M d Z (pc + 3) lv r mm) : pw_V x M d Z pc lv (.int a :: r) mm := by
  obtain ⟨p, l, ee, R, s, m, args, below, meth, cc, D, ad, ⟨cI, cZ, cE⟩, A, X, nc, ns⟩ := x
  intro hC H locs hH ls hl
  exact lv_if_eq hC.1 hC.2.1 hd ht (fun h => kt h hC H locs hH ls hl) (fun h => kf h hC H locs hH ls hl)
theorem pw_if_ne {a : Int32} (hd : decode M.2.1 pc = .ok (.ifCond .ne off, 3)) (ht : (pc : Int) + off = (tgt : Int)) (kt : ¬ a = 0 → pw_V x M d Z tgt lv r mm) (kf : a = 0 → pw_V x M d Z (pc + 3) lv r mm) : pw_V x M d Z pc lv (.int a :: r) mm := by
  obtain ⟨p, l, ee, R, s, m, args, below, meth, cc, D, ad, ⟨cI, cZ, cE⟩, A, X, nc, ns⟩ := x
  intro hC H locs hH ls hl
  exact lv_if_ne hC.1 hC.2.1 hd ht (fun h => kt h hC H locs hH ls hl) (fun h => kf h hC H locs hH ls hl)
theorem pw_if_lt {a : Int32} (hd : decode M.2.1 pc = .ok (.ifCond .lt off, 3)) (ht : (pc : Int) + off = (tgt : Int)) (kt : a < 0 → pw_V x M d Z tgt lv r mm) (kf : ¬ a < 0 → pw_V x M d Z (pc + 3) lv r mm) : pw_V x M d Z pc lv (.int a :: r) mm := by
  obtain ⟨p, l, ee, R, s, m, args, below, meth, cc, D, ad, ⟨cI, cZ, cE⟩, A, X, nc, ns⟩ := x
  intro hC H locs hH ls hl
  exact lv_if_lt hC.1 hC.2.1 hd ht (fun h => kt h hC H locs hH ls hl) (fun h => kf h hC H locs hH ls hl)
theorem pw_if_ge {a : Int32} (hd : decode M.2.1 pc = .ok (.ifCond .ge off, 3)) (ht : (pc : Int) + off = (tgt : Int)) (kt : 0 ≤ a → pw_V x M d Z tgt lv r mm) (kf : ¬ 0 ≤ a → pw_V x M d Z (pc + 3) lv r mm) : pw_V x M d Z pc lv (.int a :: r) mm := by
  obtain ⟨p, l, ee, R, s, m, args, below, meth, cc, D, ad, ⟨cI, cZ, cE⟩, A, X, nc, ns⟩ := x
  intro hC H locs hH ls hl
  exact lv_if_ge hC.1 hC.2.1 hd ht (fun h => kt h hC H locs hH ls hl) (fun h => kf h hC H locs hH ls hl)
theorem pw_if_gt {a : Int32} (hd : decode M.2.1 pc = .ok (.ifCond .gt off, 3)) (ht : (pc : Int) + off = (tgt : Int)) (kt : 0 < a → pw_V x M d Z tgt lv r mm) (kf : ¬ 0 < a → pw_V x M d Z (pc + 3) lv r mm) : pw_V x M d Z pc lv (.int a :: r) mm := by
  obtain ⟨p, l, ee, R, s, m, args, below, meth, cc, D, ad, ⟨cI, cZ, cE⟩, A, X, nc, ns⟩ := x
  intro hC H locs hH ls hl
  exact lv_if_gt hC.1 hC.2.1 hd ht (fun h => kt h hC H locs hH ls hl) (fun h => kf h hC H locs hH ls hl)
theorem pw_if_le {a : Int32} (hd : decode M.2.1 pc = .ok (.ifCond .le off, 3)) (ht : (pc : Int) + off = (tgt : Int)) (kt : a ≤ 0 → pw_V x M d Z tgt lv r mm) (kf : ¬ a ≤ 0 → pw_V x M d Z (pc + 3) lv r mm) : pw_V x M d Z pc lv (.int a :: r) mm := by
  obtain ⟨p, l, ee, R, s, m, args, below, meth, cc, D, ad, ⟨cI, cZ, cE⟩, A, X, nc, ns⟩ := x
  intro hC H locs hH ls hl
  exact lv_if_le hC.1 hC.2.1 hd ht (fun h => kt h hC H locs hH ls hl) (fun h => kf h hC H locs hH ls hl)
theorem pw_ic_eq {a b : Int32} (hd : decode M.2.1 pc = .ok (.if_icmp .eq off, 3)) (ht : (pc : Int) + off = (tgt : Int)) (kt : a = b → pw_V x M d Z tgt lv r mm) (kf : ¬ a = b → pw_V x M d Z (pc + 3) lv r mm) : pw_V x M d Z pc lv (.int b :: .int a :: r) mm := by
  obtain ⟨p, l, ee, R, s, m, args, below, meth, cc, D, ad, ⟨cI, cZ, cE⟩, A, X, nc, ns⟩ := x
  intro hC H locs hH ls hl
  exact lv_icmp_eq hC.1 hC.2.1 hd ht (fun h => kt h hC H locs hH ls hl) (fun h => kf h hC H locs hH ls hl)
theorem pw_ic_ne {a b : Int32} (hd : decode M.2.1 pc = .ok (.if_icmp .ne off, 3)) (ht : (pc : Int) + off = (tgt : Int)) (kt : ¬ a = b → pw_V x M d Z tgt lv r mm) (kf : a = b → pw_V x M d Z (pc + 3) lv r mm) : pw_V x M d Z pc lv (.int b :: .int a :: r) mm := by
  obtain ⟨p, l, ee, R, s, m, args, below, meth, cc, D, ad, ⟨cI, cZ, cE⟩, A, X, nc, ns⟩ := x
  intro hC H locs hH ls hl
  exact lv_icmp_ne hC.1 hC.2.1 hd ht (fun h => kt h hC H locs hH ls hl) (fun h => kf h hC H locs hH ls hl)
theorem pw_ic_lt {a b : Int32} (hd : decode M.2.1 pc = .ok (.if_icmp .lt off, 3)) (ht : (pc : Int) + off = (tgt : Int)) (kt : a < b → pw_V x M d Z tgt lv r mm) (kf : ¬ a < b → pw_V x M d Z (pc + 3) lv r mm) : pw_V x M d Z pc lv (.int b :: .int a :: r) mm := by
  obtain ⟨p, l, ee, R, s, m, args, below, meth, cc, D, ad, ⟨cI, cZ, cE⟩, A, X, nc, ns⟩ := x
  intro hC H locs hH ls hl
  exact lv_icmp_lt hC.1 hC.2.1 hd ht (fun h => kt h hC H locs hH ls hl) (fun h => kf h hC H locs hH ls hl)
theorem pw_ic_ge {a b : Int32} (hd : decode M.2.1 pc = .ok (.if_icmp .ge off, 3)) (ht : (pc : Int) + off = (tgt : Int)) (kt : b ≤ a → pw_V x M d Z tgt lv r mm) (kf : ¬ b ≤ a → pw_V x M d Z (pc + 3) lv r mm) : pw_V x M d Z pc lv (.int b :: .int a :: r) mm := by
  obtain ⟨p, l, ee, R, s, m, args, below, meth, cc, D, ad, ⟨cI, cZ, cE⟩, A, X, nc, ns⟩ := x
  intro hC H locs hH ls hl
  exact lv_icmp_ge hC.1 hC.2.1 hd ht (fun h => kt h hC H locs hH ls hl) (fun h => kf h hC H locs hH ls hl)
theorem pw_ic_gt {a b : Int32} (hd : decode M.2.1 pc = .ok (.if_icmp .gt off, 3)) (ht : (pc : Int) + off = (tgt : Int)) (kt : b < a → pw_V x M d Z tgt lv r mm) (kf : ¬ b < a → pw_V x M d Z (pc + 3) lv r mm) : pw_V x M d Z pc lv (.int b :: .int a :: r) mm := by
  obtain ⟨p, l, ee, R, s, m, args, below, meth, cc, D, ad, ⟨cI, cZ, cE⟩, A, X, nc, ns⟩ := x
  intro hC H locs hH ls hl
  exact lv_icmp_gt hC.1 hC.2.1 hd ht (fun h => kt h hC H locs hH ls hl) (fun h => kf h hC H locs hH ls hl)
theorem pw_ic_le {a b : Int32} (hd : decode M.2.1 pc = .ok (.if_icmp .le off, 3)) (ht : (pc : Int) + off = (tgt : Int)) (kt : a ≤ b → pw_V x M d Z tgt lv r mm) (kf : ¬ a ≤ b → pw_V x M d Z (pc + 3) lv r mm) : pw_V x M d Z pc lv (.int b :: .int a :: r) mm := by
  obtain ⟨p, l, ee, R, s, m, args, below, meth, cc, D, ad, ⟨cI, cZ, cE⟩, A, X, nc, ns⟩ := x
  intro hC H locs hH ls hl
  exact lv_icmp_le hC.1 hC.2.1 hd ht (fun h => kt h hC H locs hH ls hl) (fun h => kf h hC H locs hH ls hl)
theorem pw_goto (hd : decode M.2.1 pc = .ok (.goto off, 3)) (ht : (pc : Int) + off = (tgt : Int)) (hk : pw_V x M d Z tgt lv r mm) : pw_V x M d Z pc lv r mm := by
  obtain ⟨p, l, ee, R, s, m, args, below, meth, cc, D, ad, ⟨cI, cZ, cE⟩, A, X, nc, ns⟩ := x
  intro hC H locs hH ls hl
  exact lv_goto hC.1 hC.2.1 hd ht (hk hC H locs hH ls hl)
theorem pw_tsw {a : Int32} {dflt lo hi : Int} {offs : Array Int} {len : Nat} (hd : decode M.2.1 pc = .ok (.tableswitch dflt lo hi offs, len)) (ht : (pc : Int) + dflt = (tgt : Int)) (ko : (a.toInt < lo ∨ hi < a.toInt) → pw_V x M d Z tgt lv r mm) (ki : ∀ j : Nat, lo + j ≤ hi → a.toInt = lo + j → ∃ (o : Int) (t : Nat), offs[j]? = some o ∧ (pc : Int) + o = (t : Int) ∧ pw_V x M d Z t lv r mm) : pw_V x M d Z pc lv (.int a :: r) mm := by
  obtain ⟨p, l, ee, R, s, m, args, below, meth, cc, D, ad, ⟨cI, cZ, cE⟩, A, X, nc, ns⟩ := x
  intro hC H locs hH ls hl
  by_cases h1 : a.toInt < lo ∨ hi < a.toInt
  · exact lv_tableOut hC.1 hC.2.1 hd h1 ht (ko h1 hC H locs hH ls hl)
  · obtain ⟨o, t, e1, e2, e3⟩ := ki (a.toInt - lo).toNat (by omega) (by omega)
    exact lv_tableIn hC.1 hC.2.1 hd (by omega) (by omega) e1 e2 (e3 hC H locs hH ls hl)
theorem pw_lsw {a : Int32} {dflt : Int} {ps : Array (Int × Int)} {len : Nat} (hd : decode M.2.1 pc = .ok (.lookupswitch dflt ps, len)) (hp : (ps.toList.zip (ps.toList.drop 1)).all (fun (a, next) => a.1 < next.1) = true) (kk : ∃ (o : Int) (t : Nat), Op.lookupswitch.offset ps.toList dflt a.toInt = o ∧ (pc : Int) + o = (t : Int) ∧ pw_V x M d Z t lv r mm) : pw_V x M d Z pc lv (.int a :: r) mm := by
  obtain ⟨p, l, ee, R, s, m, args, below, meth, cc, D, ad, ⟨cI, cZ, cE⟩, A, X, nc, ns⟩ := x
  intro hC H locs hH ls hl
  obtain ⟨o, t, e1, e2, e3⟩ := kk
  exact lv_lookup hC.1 hC.2.1 hd hp e1 e2 (e3 hC H locs hH ls hl)
/-- fewer locals, or in another order -/
theorem pw_lv {lv' : List (Nat × Value)} (h : lv'.all (fun q => decide (q ∈ lv)) = true) (hk : pw_V x M d Z pc lv' r mm) : pw_V x M d Z pc lv r mm := by
  obtain ⟨p, l, ee, R, s, m, args, below, meth, cc, D, ad, ⟨cI, cZ, cE⟩, A, X, nc, ns⟩ := x
  intro hC H locs hH ls hl
  refine hk hC H locs hH ls ⟨hl.1, hl.2.1, fun q hq => ?_⟩
  obtain ⟨q', hq', rfl⟩ := List.mem_map.mp hq
  exact hl.2.2 _ (List.mem_map_of_mem (of_decide_eq_true (List.all_eq_true.mp h q' hq')))
theorem pw_lvp {lv' : List (Nat × Value)} (ks : List Nat) (h : lv_pick lv ks = lv') (hk : pw_V x M d Z pc lv' r mm) : pw_V x M d Z pc lv r mm := by
  obtain ⟨p, l, ee, R, s, m, args, below, meth, cc, D, ad, ⟨cI, cZ, cE⟩, A, X, nc, ns⟩ := x
  intro hC H locs hH ls hl
  refine hk hC H locs hH ls ⟨hl.1, hl.2.1, fun q hq => ?_⟩
  obtain ⟨q', hq', rfl⟩ := List.mem_map.mp hq
  rw [← h] at hq'
  obtain ⟨i, -, hi⟩ := List.mem_filterMap.mp hq'
  exact hl.2.2 _ (List.mem_map_of_mem (List.mem_of_getElem? hi))
end PWB
/-- a method's end -/
def pw_qq (D : va_G) (ad : Nat → Nat) (cI cZ cE : ClassId) (A : Nat → Prop) (Q : Option Value → pw_m → Prop) : Array Value → State → Outcome → State → Prop := fun _ st oc t =>
  (∃ (r : Option Value) (mm : pw_m), oc = .returned (r.map (pw_tv ad)) ∧ Q r mm ∧ va_P D vwCl (pw_cs ad cI cZ cE mm) t.heap ∧ va_K D vwCl (pw_ty cI cZ cE) t ∧ va_D A (pw_cs ad cI cZ cE mm)) ∧ va_F A st t
def pw_Z (x : pw_X) (Q : Option Value → pw_m → Prop) : State → Prop := match x with
  | (_, _, _, _, s, _, args, below, _, _, D, ad, (cI, cZ, cE), A, _, (nc, ns)) => MQ below (pw_qq D ad cI cZ cE A Q) args s nc ns A
section PWR
variable {x : pw_X} {o : Nat} {cc : ByteArray} {mL d : Nat} {pc : Nat} {lv : List (Nat × Value)} {mm : pw_m} {Q : Option Value → pw_m → Prop}
theorem pw_ri {a : Int32} (hd : decode cc pc = .ok (.ireturn, 1)) (hq : Q (some (.int a)) mm) : pw_V x (o, cc, mL, some .int) d (pw_Z x Q) pc lv [.int a] mm := by
  obtain ⟨p, l, ee, R, s, m, args, below, meth, cc, D, ad, ⟨cI, cZ, cE⟩, A, X, nc, ns⟩ := x
  intro hC H locs hH ls hl
  exact W.iret hC.1 hC.2.1 hC.2.2.2.2.2.1 (fun t ht hW => ⟨⟨some (.int a), mm, rfl, hq, by rw [ht]; exact hH.1, va_K.moved hW.alike hC.2.2.2.2.2.2.2.2.1, hH.2.1⟩, hH.2.2.F ht⟩) hH.2.2.2.2 hd hC.2.2.2.2.2.2.1
theorem pw_rz {a : Int32} (hd : decode cc pc = .ok (.ireturn, 1)) (ha : a = 0 ∨ a = 1) (hq : Q (some (.int a)) mm) : pw_V x (o, cc, mL, some .boolean) d (pw_Z x Q) pc lv [.int a] mm := by
  obtain ⟨p, l, ee, R, s, m, args, below, meth, cc, D, ad, ⟨cI, cZ, cE⟩, A, X, nc, ns⟩ := x
  intro hC H locs hH ls hl
  exact W.zret hC.1 hC.2.1 hC.2.2.2.2.2.1 (pw_z01 ha).1 (fun t ht hW => ⟨⟨some (.int a), mm, rfl, hq, by rw [ht]; exact hH.1, va_K.moved hW.alike hC.2.2.2.2.2.2.2.2.1, hH.2.1⟩, hH.2.2.F ht⟩) hH.2.2.2.2 hd hC.2.2.2.2.2.2.1
theorem pw_rl {a : Int64} (hd : decode cc pc = .ok (.lreturn, 1)) (hq : Q (some (.long a)) mm) : pw_V x (o, cc, mL, some .long) d (pw_Z x Q) pc lv [.long a] mm := by
  obtain ⟨p, l, ee, R, s, m, args, below, meth, cc, D, ad, ⟨cI, cZ, cE⟩, A, X, nc, ns⟩ := x
  intro hC H locs hH ls hl
  exact W.lret hC.1 hC.2.1 hC.2.2.2.2.2.1 (fun t ht hW => ⟨⟨some (.long a), mm, rfl, hq, by rw [ht]; exact hH.1, va_K.moved hW.alike hC.2.2.2.2.2.2.2.2.1, hH.2.1⟩, hH.2.2.F ht⟩) hH.2.2.2.2 hd hC.2.2.2.2.2.2.1
theorem pw_rv (hd : decode cc pc = .ok (.return_, 1)) (hq : Q none mm) : pw_V x (o, cc, mL, none) d (pw_Z x Q) pc lv [] mm := by
  obtain ⟨p, l, ee, R, s, m, args, below, meth, cc, D, ad, ⟨cI, cZ, cE⟩, A, X, nc, ns⟩ := x
  intro hC H locs hH ls hl
  exact W.vret hC.1 hC.2.1 hC.2.2.2.2.2.1 (fun t ht hW => ⟨⟨none, mm, rfl, hq, by rw [ht]; exact hH.1, va_K.moved hW.alike hC.2.2.2.2.2.2.2.2.1, hH.2.1⟩, hH.2.2.F ht⟩) hH.2.2.2.2 hd hC.2.2.2.2.2.2.1
end PWR
def pw_rm (h : Nat) : Room := { frames := h, cells := 0, slots := 0, locals := 64 * h }
def pw_ws (y : MethodName) (M : pw_M) : List Cond := Cond.code y M.2.1 M.2.2.1 M.2.2.2 :: pw_tb
def pw_Pc (D : va_G) (ad : Nat → Nat) (cI cZ cE : ClassId) (sz : Nat) (vs : List Value) (mm : pw_m) : Array Value → State → Prop := va_Pc (vs.map (pw_tv ad)) (fun U => U.heap.size = sz ∧ va_P D vwCl (pw_cs ad cI cZ cE mm) U.heap ∧ va_K D vwCl (pw_ty cI cZ cE) U ∧ va_D (fun _ => True) (pw_cs ad cI cZ cE mm) ∧ pw_T ad (0, fun _ => 0) (va_A (pw_cs ad cI cZ cE mm) sz) U U.heap ∧ pw_N U)
/-- a contract: from the memory mm, with the arguments vs, the method returns with Q -/
def pw_Ct (h : Nat) (y : MethodName) (M : pw_M) (vs : List Value) (mm : pw_m) (Q : Option Value → pw_m → Prop) : Prop := ∀ (l : Launch) (D : va_G) (ad : Nat → Nat) (cI cZ cE : ClassId) (sz : Nat), Met l y (pw_ws y M) (pw_rm h) (pw_Pc D ad cI cZ cE sz vs mm) (pw_qq D ad cI cZ cE (va_A (pw_cs ad cI cZ cE mm) sz) Q) 0 0 (va_A (pw_cs ad cI cZ cE mm) sz)
theorem pw_args_map (ad : Nat → Nat) (vs : List Value) : ∀ k, lv_args k (vs.map (pw_tv ad)) = (lv_args k vs).map (pw_tq ad) := by
  induction vs with
  | nil => intro k; rfl
  | cons v vs ih => intro k; simp only [List.map_cons, lv_args, pw_tv_cat, ih]; rfl
theorem pw_sl_len (ad : Nat → Nat) (vs : List Value) : (lg_sl (vs.map (pw_tv ad))).length = (lg_sl vs).length := by
  induction vs with
  | nil => rfl
  | cons v vs ih =>
    have h := pw_tv_cat ad v
    simp only [lg_sl, List.map_cons, List.flatMap_cons, List.length_append] at ih ⊢
    rw [ih, h]
    split <;> rfl
theorem pw_ct {h : Nat} {y : MethodName} {M : pw_M} {vs : List Value} {mm : pw_m} {Q : Option Value → pw_m → Prop} (hy : plainName y.cls = true) (ho : y.cls = pw_on M.1) (hn : (lg_sl vs).length ≤ M.2.2.1) (hk : ∀ x : pw_X, pw_V x M h (pw_Z x Q) 0 (lv_args 0 vs) [] mm) : pw_Ct h y M vs mm Q := by
  intro l D ad cI cZ cE sz
  refine Met.ofW (cc := M.2.1) (maxL := M.2.2.1) (ret := M.2.2.2) hy rfl ?_
  intro p e s m args below meth c s₁ B hml hv
  obtain ⟨rfl, hsz, hP, hK, hD0, hT, hN⟩ := hv
  subst hsz
  have hD := hD0.self (sz := s.heap.size)
  have hl := lv_entry (vs.map (pw_tv ad)) (n := M.2.2.1) (by rw [pw_sl_len]; exact hn)
  rw [lg_entry_eq]
  rw [pw_args_map] at hl
  have hts : ∀ w ∈ pw_tb, w.before _ s = true := fun w hw => atoms_spec (ws := pw_ws y M) B.pre w (List.mem_cons_of_mem _ hw)
  have hC : pw_C (p, l, e, (headSpec (pw_ws y M) (pw_rm h)).room, s, m, (vs.map (pw_tv ad)).toArray, below, meth, c, D, ad, (cI, cZ, cE), va_A (pw_cs ad cI cZ cE mm) s.heap.size, (0, fun _ => 0), (0, 0)) M h :=
    ⟨B.exec, B.bytes, hml, by rw [← ho]; exact findClass_of_methodNamed B.named, hts, B.returns, B.notSynchronized, ⟨Nat.le_refl _, Nat.le_refl _, Nat.zero_le _, Nat.zero_le _⟩, hK, hT, fun q hq => Or.inr hq, hN⟩
  exact hk _ hC s.heap [] ⟨hP, hD, va_S.rf⟩ _ hl
