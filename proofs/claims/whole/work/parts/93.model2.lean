theorem n_X8 (l : Launch) (D : va_G) (cI cZ cE : ClassId) (qc : Nat) (uc : Nat → Nat) (t0 t1 t2 b q sz : Nat) : Met l yX8_init (pw_ws yX8_init m_X8_init) (pw_km 1 15 512) (va_Pc [.ref q] (fun U => U.heap.size = sz ∧ va_P D vwCl (pw_w8 cI cZ cE qc uc q) U.heap ∧ va_K D vwCl (pw_ty cI cZ cE) U ∧ va_D (fun _ => True) (pw_w8 cI cZ cE qc uc q) ∧ pw_AN U ∧ pw_N U ∧ ∀ u8 : Nat → Nat, pw_T (pw_ad qc uc q u8 t0 t1 t2 b) (0, fun _ => 0) (va_A (pw_w8 cI cZ cE qc uc q) sz) U U.heap))
    (va_Qv (fun _ : Nat → Nat => True) (fun u8 t => va_P D vwCl (pw_cs (pw_ad qc uc q u8 t0 t1 t2 b) cI cZ cE (pw_beM pw_mA 0)) t.heap ∧ va_K D vwCl (pw_ty cI cZ cE) t ∧ va_D (va_A (pw_w8 cI cZ cE qc uc q) sz) (pw_cs (pw_ad qc uc q u8 t0 t1 t2 b) cI cZ cE (pw_beM pw_mA 0))) (va_A (pw_w8 cI cZ cE qc uc q) sz)) 15 512 (va_A (pw_w8 cI cZ cE qc uc q) sz) := by
  refine Met.ofW (cc := cX8_init) (maxL := 1) (ret := none) (by decide +kernel) rfl ?_
  intro p e s m args below meth c s₁ B hml hv
  obtain ⟨rfl, hsz, hP, hK, hD0, hAo, hN, hT⟩ := hv
  subst hsz
  have hD := hD0.self (sz := s.heap.size)
  have hl := lv_entry [.ref q] (n := 1) (Nat.le_refl 1)
  rw [lg_entry_eq]
  have hts : ∀ w ∈ pw_tb, w.before _ s = true := fun w hw => atoms_spec (ws := pw_ws yX8_init m_X8_init) B.pre w (List.mem_cons_of_mem _ hw)
  have hin : meth.name = "<init>" := (name_of_methodNamed B.named B.method).1
  refine walk8 (x := (p, l, e, (headSpec (pw_ws yX8_init m_X8_init) (pw_km 1 15 512)).room, s, m, [Value.ref q].toArray, below, meth, c, D, (cI, cZ, cE), va_A (pw_w8 cI cZ cE qc uc q) s.heap.size)) (qc := qc) (uc := uc) (q := q) (t0 := t0) (t1 := t1) (t2 := t2) (b := b) (fun u8 => ⟨hT u8, hN⟩) (fun lv u8 => ?_) ⟨B.exec, B.bytes, hml, findClass_of_methodNamed B.named, hts, B.returns, B.notSynchronized, ⟨Nat.le_refl _, Nat.le_refl _, Nat.le_refl _, Nat.le_refl _⟩, hK, fun q hq => Or.inr hq, hAo, fun _ => hin⟩ s.heap [] hP hD va_S.rf _ hl
  intro hC H locs hH ls hl1
  exact W.vret B.exec B.bytes B.returns (fun t ht hW => ⟨⟨u8, rfl, trivial, by rw [ht]; exact hH.1, va_K.moved hW.alike hK, hH.2.1⟩, hH.2.2.F ht⟩) hH.2.2.2.2 (by decide +kernel) B.notSynchronized
theorem u_c8 {x : pw_Y} {M : pw_M} {d bc bs : Nat} {Z : State → Prop} {pc : Nat} {lv lv' : List (Nat × Value)} {r r' : List Value} {nc ns qc q t0 t1 t2 b idx : Nat} {uc : Nat → Nat} {X : Nat × (Nat → Int32)} (hT : ∀ u8 : Nat → Nat, pw_YT x (pw_ad qc uc q u8 t0 t1 t2 b) X) (hd : decode M.2.1 pc = .ok (.invokespecial idx, 3)) (hlink : Cond.methodLink (pw_on M.1) idx yX8_init ∈ pw_tb) (hh : 2 ≤ d) (hc1 : nc + 15 ≤ bc) (hc2 : ns + 512 ≤ bs) (hW : (r.map fun v => v.category).sum ≤ 8) (hlv : ∀ u8 : Nat → Nat, lv'.map (pw_tq (pw_ad qc uc q u8 t0 t1 t2 b)) = lv) (hr : ∀ u8 : Nat → Nat, r'.map (pw_tv (pw_ad qc uc q u8 t0 t1 t2 b)) = r)
    (hk : ∀ u8 : Nat → Nat, pw_V (pw_yx x (pw_ad qc uc q u8 t0 t1 t2 b) X (nc + 15) (ns + 512)) M d Z (pc + 3) lv' r' (pw_beM pw_mA 0)) : pw_U x M d bc bs Z pc lv (.ref q :: r) (pw_w8 (pw_yI x) (pw_yZ x) (pw_yE x) qc uc q) nc ns := by
  obtain ⟨p, l, ee, R, s, m, args, below, meth, cc, D, ⟨cI, cZ, cE⟩, A⟩ := x
  intro hC H locs hP hD hS ls hl
  obtain ⟨⟨o1, o2, o3⟩, o4, o5, o6, o7⟩ := k_X8_init
  have hRR := hC.2.2.2.2.2.2.2.1
  have hts := hC.2.2.2.2.1
  have hG : GoodIn pw_tb (pw_ws yX8_init m_X8_init) := pw_gi (fun w hw => by
    rcases List.mem_cons.mp hw with rfl | h1
    · exact o2
    · exact h1)
  have hFc := pw_fr hD hS hC.2.2.2.2.2.2.2.2.2.1
  have hK := hC.2.2.2.2.2.2.2.2.1
  have hAo := hC.2.2.2.2.2.2.2.2.2.2.1
  refine va_callv (va_runI (e := ee) (As := []) (rest := r) ⟨hC.1, hC.2.1, hC.2.2.1, hC.2.2.2.1, hts⟩ (n_X8 l D cI cZ cE qc uc t0 t1 t2 b q H.size) (cwI 0 hts hG rfl rfl rfl (hts _ o1) (hts _ hlink) (hts _ o3) o4 o5 ⟨Nat.le_trans hh hRR.1, Nat.le_trans (by show 8 + (1 + 11) + 64 * 1 ≤ 64 * d; omega) hRR.2.1⟩) ⟨fun b U g mk q => by obtain ⟨q0, q1, qP, qK, qD, qA, qN, qT⟩ := q; exact ⟨q0, q1, qP, va_K.moved (u := U) (U := U.calling g mk b) (Vm.Alike.refl U.vm) qK, qD, pw_AN.same (u := U) (U := U.calling g mk b) rfl qA, pw_N.same (u := U) (U := U.calling g mk b) rfl qN, fun u8 => pw_T.moved (u := U) (U := U.calling g mk b) (Vm.Alike.refl U.vm) (qT u8)⟩, fun U hU hW => ⟨rfl, by rw [hU], by rw [hU]; exact hP, va_K.moved hW.alike hK, hD.weaken (fun _ _ _ _ => trivial), pw_AN.warm hW hAo, pw_N.warm hW (hT (fun _ => 0)).2, fun u8 => by rw [hU]; exact ((((hT u8).1.kept hS.2.1).narrow hFc).moved hW.alike).noX _⟩⟩ rfl rfl hl.1 rfl (lv_room hW) hd ⟨Nat.le_trans hc1 hRR.2.2.1, Nat.le_trans hc2 hRR.2.2.2⟩) hS (fun q _ h => hFc q h) hFc (fun u8 t H1 locs ht hvm hw hB hz1 hk1 hS => ?_)
  obtain ⟨hP1, hK1, hD1⟩ := hB
  rw [ht] at hP1
  have hlv8 := hlv u8
  have hr8 := hr u8
  subst hlv8 hr8
  exact hk u8 ⟨hC.1, hC.2.1, hC.2.2.1, hC.2.2.2.1, hC.2.2.2.2.1, hC.2.2.2.2.2.1, hC.2.2.2.2.2.2.1, ⟨hRR.1, hRR.2.1, Nat.le_trans hc1 hRR.2.2.1, Nat.le_trans hc2 hRR.2.2.2⟩, hK, (hT u8).1, hC.2.2.2.2.2.2.2.2.2.1, (hT u8).2⟩ H1 locs ⟨hP1, hD1.weaken (fun _ q _ h => hFc q.1 h), hS⟩ ls hl
