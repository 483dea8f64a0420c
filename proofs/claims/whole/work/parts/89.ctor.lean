/-! a constructor's contract: out of a bare object, the cells wf of it, at addresses of its choice -/
def pw_km (h mc ms : Nat) : Room := { frames := h, cells := mc, slots := ms, locals := 64 * h }
def pw_Kt (h mc ms : Nat) (y : MethodName) (M : pw_M) (ci : Nat) (df : List Value) (wf : ClassId → ClassId → ClassId → Nat → (Nat → Nat) → va_W) : Prop := ∀ (l : Launch) (D : va_G) (cI cZ cE : ClassId) (q sz : Nat), Met l y (pw_ws y M) (pw_km h mc ms) (va_Pc [.ref q] (fun U => U.heap.size = sz ∧ va_P D vwCl [(q, .inr (ci, df))] U.heap ∧ va_K D vwCl (pw_ty cI cZ cE) U ∧ va_D (fun _ => True) [(q, .inr (ci, df))] ∧ pw_AN U))
  (va_Qv (fun _ : Nat → Nat => True) (fun u t => va_P D vwCl (wf cI cZ cE q u) t.heap ∧ va_K D vwCl (pw_ty cI cZ cE) t ∧ va_D (va_A [(q, .inr (ci, df))] sz) (wf cI cZ cE q u)) (va_A [(q, .inr (ci, df))] sz)) mc ms (va_A [(q, .inr (ci, df))] sz)
/-- a constructor's end -/
def pw_zq (x : pw_Y) (mc ms : Nat) (Q : va_W → Prop) : State → Prop := match x with
  | (_, _, _, _, s, _, args, below, _, _, D, (cI, cZ, cE), A) => MQ below (va_Qv (fun _ : Nat → Nat => True) (fun _ t => ∃ ws : va_W, Q ws ∧ va_P D vwCl ws t.heap ∧ va_K D vwCl (pw_ty cI cZ cE) t ∧ va_D A ws) A) args s mc ms A
theorem pw_kt {h mc ms : Nat} {y : MethodName} {M : pw_M} {ci : Nat} {df : List Value} {wf : ClassId → ClassId → ClassId → Nat → (Nat → Nat) → va_W} (hy : plainName y.cls = true) (hy2 : y.name = "<init>") (ho : y.cls = pw_on M.1) (hr : M.2.2.2 = none) (hn : 1 ≤ M.2.2.1) (hk : ∀ (x : pw_Y) (q : Nat) (Z : State → Prop), (∀ (pc : Nat) (lv : List (Nat × Value)) (u : Nat → Nat), decode M.2.1 pc = .ok (.return_, 1) → pw_U x M h mc ms Z pc lv [] (wf (pw_yI x) (pw_yZ x) (pw_yE x) q u) mc ms) → pw_U x M h mc ms Z 0 [(0, .ref q)] [] [(q, .inr (ci, df))] 0 0) : pw_Kt h mc ms y M ci df wf := by
  obtain ⟨o, co, mL, rt⟩ := M
  dsimp only at hr hn ho
  subst hr
  intro l D cI cZ cE q sz
  refine Met.ofW (cc := co) (maxL := mL) (ret := none) hy rfl ?_
  intro p e s m args below meth c s₁ B hml hv
  obtain ⟨rfl, hsz, hP, hK, hD0, hAO⟩ := hv
  subst hsz
  have hD := hD0.self (sz := s.heap.size)
  have hl := lv_entry [.ref q] (n := mL) hn
  rw [lg_entry_eq]
  have hts : ∀ w ∈ pw_tb, w.before _ s = true := fun w hw => atoms_spec (ws := pw_ws y (o, co, mL, none)) B.pre w (List.mem_cons_of_mem _ hw)
  have hin : meth.name = "<init>" := by rw [← hy2]; exact (name_of_methodNamed B.named B.method).1
  refine hk (p, l, e, (headSpec (pw_ws y (o, co, mL, none)) (pw_km h mc ms)).room, s, m, [Value.ref q].toArray, below, meth, c, D, (cI, cZ, cE), va_A [(q, .inr (ci, df))] s.heap.size) q _ (fun pc lv u hd => ?_) ⟨B.exec, B.bytes, hml, by rw [← ho]; exact findClass_of_methodNamed B.named, hts, B.returns, B.notSynchronized, ⟨Nat.le_refl _, Nat.le_refl _, Nat.le_refl _, Nat.le_refl _⟩, hK, fun q hq => Or.inr hq, hAO, fun _ => hin⟩ s.heap [] hP hD va_S.rf _ hl
  intro hC H locs hP1 hD1 hS1 ls hl1
  exact W.vret B.exec B.bytes B.returns (fun t ht hW => ⟨⟨u, rfl, trivial, by rw [ht]; exact hP1, va_K.moved hW.alike hK, hD1⟩, hS1.F ht⟩) hS1.2.2 hd B.notSynchronized
def pw_okI (y : MethodName) (M : pw_M) : Prop := (Cond.initialized y.cls ∈ pw_tb ∧ Cond.code y M.2.1 M.2.2.1 M.2.2.2 ∈ pw_tb ∧ Cond.instanceMethod y ∈ pw_tb) ∧ y.name = "<init>" ∧ (y.cls ≠ "java/lang/invoke/MethodHandle" ∧ y.cls ≠ "java/lang/invoke/VarHandle" ∧ (parseMethodDescriptor y.desc).map (fun d => d.parameters.length) = some 0) ∧ M.2.2.1 ≤ 40 ∧ M.2.2.2 = none
section PWUC
variable {x : pw_Y} {M M1 : pw_M} {d bc bs h mc ms ci idx a : Nat} {Z : State → Prop} {pc : Nat} {lv : List (Nat × Value)} {r : List Value} {ws wr : va_W} {nc ns : Nat} {y : MethodName} {df : List Value} {wf : ClassId → ClassId → ClassId → Nat → (Nat → Nat) → va_W}
theorem u_ca (q0 : Nat) (isR : List Nat) (hok : pw_okI y M1) (hct : pw_Kt h mc ms y M1 ci df wf) (hd : decode M.2.1 pc = .ok (.invokespecial idx, 3)) (hlink : Cond.methodLink (pw_on M.1) idx y ∈ pw_tb) (hq : ws[q0]? = some (a, .inr (ci, df))) (hR : isR.map (fun i => ws[i]?) = wr.map some) (hn : va_nd isR = true) (hdis : ∀ i ∈ isR, i ∉ [q0]) (hh : h + 1 ≤ d) (hc1 : nc + mc ≤ bc) (hc2 : ns + ms ≤ bs) (hW : (r.map fun v => v.category).sum ≤ 8)
    (hk : ∀ u : Nat → Nat, pw_U x M d bc bs Z (pc + 3) lv r (wr ++ wf (pw_yI x) (pw_yZ x) (pw_yE x) a u) (nc + mc) (ns + ms)) : pw_U x M d bc bs Z pc lv (.ref a :: r) ws nc ns := by
  obtain ⟨p, l, ee, R, s, m, args, below, meth, cc, D, ⟨cI, cZ, cE⟩, A⟩ := x
  intro hC H locs hP hD hS ls hl
  obtain ⟨⟨o1, o2, o3⟩, o4, o5, o6, o7⟩ := hok
  obtain ⟨oM, co, mL, rt⟩ := M1
  dsimp only at o7 o6 o2
  subst o7
  have hRR := hC.2.2.2.2.2.2.2.1
  have hts := hC.2.2.2.2.1
  have hG : GoodIn pw_tb (pw_ws y (oM, co, mL, none)) := pw_gi (fun w hw => by
    rcases List.mem_cons.mp hw with rfl | h1
    · exact o2
    · exact h1)
  have hPc := hP.sub (ws' := [(a, .inr (ci, df))]) [q0] (by simp [hq])
  have hDc := hD.sub (ws' := [(a, .inr (ci, df))]) [q0] rfl (by simp [hq])
  have hFc := va_free (wc := [(a, .inr (ci, df))]) hD hS hC.2.2.2.2.2.2.2.2.2.1 [q0] (by simp [hq])
  have hK := hC.2.2.2.2.2.2.2.2.1
  have hAO := hC.2.2.2.2.2.2.2.2.2.2.1
  refine va_callv (va_runI (e := ee) (As := []) (rest := r) ⟨hC.1, hC.2.1, hC.2.2.1, hC.2.2.2.1, hts⟩ (hct l D cI cZ cE a H.size) (cwI 0 hts hG rfl rfl rfl (hts _ o1) (hts _ hlink) (hts _ o3) o4 o5 ⟨Nat.le_trans hh hRR.1, Nat.le_trans (by show 8 + (mL + 11) + 64 * h ≤ 64 * d; omega) hRR.2.1⟩) ⟨fun b U g mk q => by obtain ⟨q0, q1, qP, qK, qD, qA⟩ := q; exact ⟨q0, q1, qP, va_K.moved (u := U) (U := U.calling g mk b) (Vm.Alike.refl U.vm) qK, qD, pw_AN.same (u := U) (U := U.calling g mk b) rfl qA⟩, fun U hU hW => ⟨rfl, by rw [hU], by rw [hU]; exact hPc, va_K.moved hW.alike hK, hDc.weaken (fun _ _ _ _ => trivial), pw_AN.warm hW hAO⟩⟩ rfl rfl hl.1 rfl (lv_room hW) hd ⟨Nat.le_trans hc1 hRR.2.2.1, Nat.le_trans hc2 hRR.2.2.2⟩) hS (fun q _ h => hFc q h) hFc (fun u t H1 locs ht hvm hw hB hz1 hk1 hS => ?_)
  obtain ⟨hP1, hK1, hD1⟩ := hB
  rw [ht] at hP1
  obtain ⟨hP2, hD2⟩ := va_join (wr := wr) (w1 := wf cI cZ cE a u) hP hD [q0] isR (by simp [hq]) hR hn hdis hk1 hFc hP1 hD1
  exact hk u hC H1 locs hP2 hD2 hS ls hl
theorem u_cN (q0 : Nat) (isR : List Nat) (hok : pw_okI y M1) (hct : pw_Kt h mc ms y M1 ci df wf) (hd : decode M.2.1 pc = .ok (.invokespecial idx, 3)) {host : String} (hlink : (pw_on M.1, idx, y, host) ∈ pw_nk) (hq : ws[q0]? = some (a, .inr (ci, df))) (hR : isR.map (fun i => ws[i]?) = wr.map some) (hn : va_nd isR = true) (hdis : ∀ i ∈ isR, i ∉ [q0]) (hh : h + 1 ≤ d) (hc1 : nc + mc ≤ bc) (hc2 : ns + ms ≤ bs) (hW : (r.map fun v => v.category).sum ≤ 8)
    (hk : ∀ u : Nat → Nat, pw_U x M d bc bs Z (pc + 3) lv r (wr ++ wf (pw_yI x) (pw_yZ x) (pw_yE x) a u) (nc + mc) (ns + ms)) : pw_U x M d bc bs Z pc lv (.ref a :: r) ws nc ns := by
  obtain ⟨p, l, ee, R, s, m, args, below, meth, cc, D, ⟨cI, cZ, cE⟩, A⟩ := x
  intro hC H locs hP hD hS ls hl
  obtain ⟨⟨o1, o2, o3⟩, o4, o5, o6, o7⟩ := hok
  obtain ⟨oM, co, mL, rt⟩ := M1
  dsimp only at o7 o6 o2
  subst o7
  have hRR := hC.2.2.2.2.2.2.2.1
  have hts := hC.2.2.2.2.1
  have hG : GoodIn pw_tb (pw_ws y (oM, co, mL, none)) := pw_gi (fun w hw => by
    rcases List.mem_cons.mp hw with rfl | h1
    · exact o2
    · exact h1)
  have hPc := hP.sub (ws' := [(a, .inr (ci, df))]) [q0] (by simp [hq])
  have hDc := hD.sub (ws' := [(a, .inr (ci, df))]) [q0] rfl (by simp [hq])
  have hFc := va_free (wc := [(a, .inr (ci, df))]) hD hS hC.2.2.2.2.2.2.2.2.2.1 [q0] (by simp [hq])
  have hK := hC.2.2.2.2.2.2.2.2.1
  have hAO := hC.2.2.2.2.2.2.2.2.2.2.1
  refine va_callv (va_runIN (e := ee) (host := host) (As := []) (rest := r) ⟨hC.1, hC.2.1, hC.2.2.1, hC.2.2.2.1, hts⟩ (hct l D cI cZ cE a H.size) ⟨va_cnB (own := pw_on M.1) (index := idx) (y := y) (host := host) (bytes := co) (maxL := mL) (ret := none) (ws := pw_ws y (oM, co, mL, none)) (rm := pw_km h mc ms) (mc := mc) (ms := ms) 0 hts hG rfl rfl rfl (hAO.2 _ hlink) (hts _ o1) o5 ⟨Nat.le_trans hh hRR.1, Nat.le_trans (by show 8 + (mL + 11) + 64 * h ≤ 64 * d; omega) hRR.2.1⟩, o4, hts _ o3⟩ ⟨fun b U g mk q => by obtain ⟨q0, q1, qP, qK, qD, qA⟩ := q; exact ⟨q0, q1, qP, va_K.moved (u := U) (U := U.calling g mk b) (Vm.Alike.refl U.vm) qK, qD, pw_AN.same (u := U) (U := U.calling g mk b) rfl qA⟩, fun U hU hW => ⟨rfl, by rw [hU], by rw [hU]; exact hPc, va_K.moved hW.alike hK, hDc.weaken (fun _ _ _ _ => trivial), pw_AN.warm hW hAO⟩⟩ rfl rfl hl.1 rfl (lv_room hW) hd ⟨Nat.le_trans hc1 hRR.2.2.1, Nat.le_trans hc2 hRR.2.2.2⟩) hS (fun q _ h => hFc q h) hFc (fun u t H1 locs ht hvm hw hB hz1 hk1 hS => ?_)
  obtain ⟨hP1, hK1, hD1⟩ := hB
  rw [ht] at hP1
  obtain ⟨hP2, hD2⟩ := va_join (wr := wr) (w1 := wf cI cZ cE a u) hP hD [q0] isR (by simp [hq]) hR hn hdis hk1 hFc hP1 hD1
  exact hk u hC H1 locs hP2 hD2 hS ls hl
end PWUC
