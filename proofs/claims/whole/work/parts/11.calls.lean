/-! calls by contract -/
theorem pw_gi {ws : List Cond} (h : ∀ w ∈ ws, w ∈ pw_tb) : GoodIn pw_tb ws := fun w hw => ⟨h w hw, good_of_word (List.mem_filter.mp (h w hw)).2⟩
def pw_okB (y : MethodName) (M : pw_M) (n : Nat) : Prop := Cond.initialized y.cls ∈ pw_tb ∧ Cond.code y M.2.1 M.2.2.1 M.2.2.2 ∈ pw_tb ∧ (y.cls ≠ "java/lang/invoke/MethodHandle" ∧ y.cls ≠ "java/lang/invoke/VarHandle" ∧ (parseMethodDescriptor y.desc).map (fun d => d.parameters.length) = some n) ∧ M.2.2.1 ≤ 40
def pw_okV (y : MethodName) (M : pw_M) (n : Nat) : Prop := pw_okB y M n ∧ Cond.instanceMethod y ∈ pw_tb ∧ Cond.selects y.cls y y ∈ pw_tb
def pw_okS (y : MethodName) (M : pw_M) (n : Nat) : Prop := pw_okB y M n ∧ Cond.static y ∈ pw_tb
theorem pw_blind {D : va_G} {ad : Nat → Nat} {cI cZ cE : ClassId} {sz : Nat} {vs : List Value} {mm : pw_m} : FrameBlind (pw_Pc D ad cI cZ cE sz vs mm) := by
  intro a U g mk q
  obtain ⟨q0, q1, q2, q3, q4, q5, q6⟩ := q
  exact ⟨q0, q1, q2, va_K.moved (u := U) (U := U.calling g mk a) (Vm.Alike.refl U.vm) q3, q4, pw_T.moved (u := U) (U := U.calling g mk a) (Vm.Alike.refl U.vm) q5, pw_N.same (u := U) (U := U.calling g mk a) rfl q6⟩
theorem pw_fr {A : Nat → Prop} {ws : va_W} {H0 H : Heap} {locs : List Loc} (hD : va_D A ws) (hS : va_S A H0 H locs) (hA : ∀ q, H0.size ≤ q → A q) : ∀ q, va_A ws H.size q → A q := by
  intro q h
  rcases h with ⟨k, e, h⟩ | h
  · exact hD.2 k _ h
  · exact hA q (Nat.le_trans hS.1 h)
section PWC
variable {p : Program} {l : Launch} {e : Env} {R : Room} {s : State} {m : MethodId} {args : Array Value} {below : List Frame} {meth : Method} {c : Code} {D : va_G} {ad : Nat → Nat} {cI cZ cE : ClassId} {A : Nat → Prop} {X : Nat × (Nat → Int32)} {nc ns : Nat}
theorem pw_pre {M : pw_M} {d : Nat} {mm : pw_m} {H : Heap} {locs : List Loc} (hC : pw_C (p, l, e, R, s, m, args, below, meth, c, D, ad, (cI, cZ, cE), A, X, (nc, ns)) M d) (hH : pw_H (p, l, e, R, s, m, args, below, meth, c, D, ad, (cI, cZ, cE), A, X, (nc, ns)) mm H locs) (vs : List Value) : ∀ U : State, U.heap = H → s.WarmedH U.vm → pw_Pc D ad cI cZ cE H.size vs mm (vs.map (pw_tv ad)).toArray U := by
  intro U hU hW
  have hF := pw_fr hH.2.1 hH.2.2 hC.2.2.2.2.2.2.2.2.2.2.1
  refine ⟨rfl, by rw [hU], by rw [hU]; exact hH.1, va_K.moved hW.alike hC.2.2.2.2.2.2.2.2.1, hH.2.1.weaken (fun _ _ _ _ => trivial), ?_, pw_N.warm hW hC.2.2.2.2.2.2.2.2.2.2.2⟩
  rw [hU]
  exact (((hC.2.2.2.2.2.2.2.2.2.1.kept hH.2.2.2.1).narrow hF).moved hW.alike).noX _
theorem pw_cont {M : pw_M} {d : Nat} {Z : State → Prop} {mm : pw_m} {H : Heap} {locs : List Loc} {pc : Nat} {ls : Array Slot} {st0 rest : List Value} {a : Array Value} {Q1 : Option Value → pw_m → Prop} (hC : pw_C (p, l, e, R, s, m, args, below, meth, c, D, ad, (cI, cZ, cE), A, X, (nc, ns)) M d) (hH : pw_H (p, l, e, R, s, m, args, below, meth, c, D, ad, (cI, cZ, cE), A, X, (nc, ns)) mm H locs)
    (hr : va_Run p l e R s m args below meth c H locs nc ns 0 0 (F0 m pc ls st0) (rest.map (pw_tv ad)) (pw_qq D ad cI cZ cE (va_A (pw_cs ad cI cZ cE mm) H.size) Q1 a) (va_A (pw_cs ad cI cZ cE mm) H.size))
    (kk : ∀ (r : Option Value) (m' : pw_m) (H1 : Heap) (locs1 : List Loc), Q1 r m' → pw_H (p, l, e, R, s, m, args, below, meth, c, D, ad, (cI, cZ, cE), A, X, (nc, ns)) m' H1 locs1 → W p l e R s m args below meth c H1 locs1 nc ns Z (F0 m (pc + 3) ls ((r.toList ++ rest).map (pw_tv ad)))) : W p l e R s m args below meth c H locs nc ns Z (F0 m pc ls st0) := by
  have hF := pw_fr hH.2.1 hH.2.2 hC.2.2.2.2.2.2.2.2.2.2.1
  have hS := hH.2.2
  intro T hT X0
  obtain ⟨v, st₀, t, T', L, h0, X', hL, e1, e2, ⟨⟨r, m', hv, hq, hP, hK, hD⟩, hz, hk⟩, st⟩ := hr T hT X0
  cases hv
  rw [h0] at hz hk
  obtain ⟨t2, a1, b1⟩ := kk r m' T'.heap (locs ++ L) hq ⟨by rw [e1]; exact hP, hD.weaken (fun _ q _ h => hF q.1 h), ⟨Nat.le_trans hS.1 (by rw [e1]; exact hz), fun q h1 h2 => by rw [e1, hk q (Nat.lt_of_lt_of_le h1 hS.1) (fun z => h2 (hF q z))]; exact hS.2.1 q h1 h2, fun q hq => by
      rcases List.mem_append.mp hq with h | h
      · exact hS.2.2 q h
      · exact hF _ (hL q h)⟩⟩ T' rfl X'
  refine ⟨t2, st t2 ?_, b1⟩
  have hm : (r.toList ++ rest).map (pw_tv ad) = (r.map (pw_tv ad)).toList ++ rest.map (pw_tv ad) := by cases r <;> simp
  rw [hm] at a1
  exact a1
end PWC
section PWD
variable {x : pw_X} {M M1 : pw_M} {d h n idx : Nat} {Z : State → Prop} {pc : Nat} {lv : List (Nat × Value)} {rest : List Value} {mm : pw_m} {y : MethodName} {Q1 : Option Value → pw_m → Prop}
theorem pw_cV (hok : pw_okV y M1 n) {c : Nat} {o : Nat × List (Option Nat)} {q : vw_C} {vs : List Value} (hct : pw_Ct h y M1 (.ref c :: vs) mm Q1) (hlink : Cond.methodLink (pw_on M.1) idx y ∈ pw_tb) (hs : pw_shp c = some (.inl o)) (hc : vwCl[o.1]? = some q) (hq : q.1 = y.cls) (hn : vs.length = n) (hh : h + 1 ≤ d) (hW : (rest.map fun v => v.category).sum ≤ 8) (hd : decode M.2.1 pc = .ok (.invokevirtual idx, 3))
    (hk : ∀ (r : Option Value) (m' : pw_m), Q1 r m' → pw_V x M d Z (pc + 3) lv (r.toList ++ rest) m') : pw_V x M d Z pc lv (vs.reverse ++ .ref c :: rest) mm := by
  obtain ⟨p, l, ee, R, s, m, args, below, meth, cc, D, ad, ⟨cI, cZ, cE⟩, A, X, nc, ns⟩ := x
  intro hC H locs hH ls hl
  obtain ⟨⟨o1, o2, o3, o4⟩, o5, o6⟩ := hok
  have hG : GoodIn pw_tb (wsV (pw_on M.1) idx y.cls y (pw_ws y M1)) := pw_gi (fun w hw => by
    rcases List.mem_append.mp hw with h1 | h1
    · simp only [List.mem_cons, List.not_mem_nil, or_false] at h1
      rcases h1 with rfl | rfl | rfl | rfl
      · exact hlink
      · exact o5
      · exact o6
      · exact o1
    · rcases List.mem_cons.mp h1 with rfl | h1
      · exact o2
      · exact h1)
  have hRR := hC.2.2.2.2.2.2.2.1
  have cw : CallW R s args (pw_on M.1) y.cls idx y M1.2.1 M1.2.2.1 M1.2.2.2 (pw_ws y M1) (pw_rm h) 0 0 n := cwV n hC.2.2.2.2.1 hG rfl rfl rfl ⟨rfl, o3⟩ ⟨Nat.le_trans hh hRR.1, Nat.le_trans (by show 8 + (M1.2.2.1 + 11) + 64 * h ≤ 64 * d; omega) hRR.2.1⟩
  have hrec := va_recv hC.2.2.2.2.2.2.2.2.1 hH.1 (ci := o.1) (q0 := c) hc ((pw_cs_at (pw_shp_lt hs)).trans (by rw [pw_cel_o hs]))
  rw [hq] at hrec
  have hr := va_runV (e := ee) (g := F0 m pc ls ((vs.reverse ++ .ref c :: rest).map (pw_tv ad))) (b := ad c) (As := vs.map (pw_tv ad)) (rest := rest.map (pw_tv ad)) (locs := locs) (cells := nc) (slots := ns) (below := below) (meth := meth) ⟨hC.1, hC.2.1, hC.2.2.1, hC.2.2.2.1, hC.2.2.2.2.1⟩ (hct l D ad cI cZ cE H.size) cw ⟨pw_blind, hrec, pw_pre hC hH (.ref c :: vs)⟩ rfl ((List.length_map _).trans hn) hl.1 (by simp [pw_tv]) (lv_room (by rw [List.map_map]; simpa [Function.comp_def, pw_tv_cat] using hW)) hd ⟨hRR.2.2.1, hRR.2.2.2⟩
  exact pw_cont hC hH hr (fun r m' H1 locs1 h1 h2 => hk r m' h1 hC H1 locs1 h2 ls hl)
theorem pw_cS (hok : pw_okS y M1 n) {vs : List Value} (hct : pw_Ct h y M1 vs mm Q1) (hlink : Cond.methodLink (pw_on M.1) idx y ∈ pw_tb) (hn : vs.length = n) (hh : h + 1 ≤ d) (hW : (rest.map fun v => v.category).sum ≤ 8) (hd : decode M.2.1 pc = .ok (.invokestatic idx, 3))
    (hk : ∀ (r : Option Value) (m' : pw_m), Q1 r m' → pw_V x M d Z (pc + 3) lv (r.toList ++ rest) m') : pw_V x M d Z pc lv (vs.reverse ++ rest) mm := by
  obtain ⟨p, l, ee, R, s, m, args, below, meth, cc, D, ad, ⟨cI, cZ, cE⟩, A, X, nc, ns⟩ := x
  intro hC H locs hH ls hl
  obtain ⟨⟨o1, o2, o3, o4⟩, o5⟩ := hok
  have hG : GoodIn pw_tb (va_wsS (pw_on M.1) idx y (pw_ws y M1)) := pw_gi (fun w hw => by
    rcases List.mem_append.mp hw with h1 | h1
    · simp only [List.mem_cons, List.not_mem_nil, or_false] at h1
      rcases h1 with rfl | rfl | rfl
      · exact hlink
      · exact o5
      · exact o1
    · rcases List.mem_cons.mp h1 with rfl | h1
      · exact o2
      · exact h1)
  have hRR := hC.2.2.2.2.2.2.2.1
  have cw := va_cwS (R := R) (s := s) (args := args) (own := pw_on M.1) (index := idx) (y := y) (bytes := M1.2.1) (maxL := M1.2.2.1) (ret := M1.2.2.2) (ws := pw_ws y M1) (rm := pw_rm h) (mc := 0) (ms := 0) n hC.2.2.2.2.1 hG rfl rfl rfl o3 ⟨Nat.le_trans hh hRR.1, Nat.le_trans (by show 8 + (M1.2.2.1 + 11) + 64 * h ≤ 64 * d; omega) hRR.2.1⟩
  have hr := va_runS (e := ee) (g := F0 m pc ls ((vs.reverse ++ rest).map (pw_tv ad))) (As := vs.map (pw_tv ad)) (rest := rest.map (pw_tv ad)) (locs := locs) (cells := nc) (slots := ns) (below := below) (meth := meth) ⟨hC.1, hC.2.1, hC.2.2.1, hC.2.2.2.1, hC.2.2.2.2.1⟩ (hct l D ad cI cZ cE H.size) cw ⟨pw_blind, pw_pre hC hH vs⟩ rfl ((List.length_map _).trans hn) hl.1 (by simp) (lv_room (by rw [List.map_map]; simpa [Function.comp_def, pw_tv_cat] using hW)) hd ⟨hRR.2.2.1, hRR.2.2.2⟩
  exact pw_cont hC hH hr (fun r m' H1 locs1 h1 h2 => hk r m' h1 hC H1 locs1 h2 ls hl)
theorem pw_cN (hok : pw_okS y M1 n) {vs : List Value} (hct : pw_Ct h y M1 vs mm Q1) {host : String} (hlink : (pw_on M.1, idx, y, host) ∈ pw_nl) (hn : vs.length = n) (hh : h + 1 ≤ d) (hW : (rest.map fun v => v.category).sum ≤ 8) (hd : decode M.2.1 pc = .ok (.invokestatic idx, 3))
    (hk : ∀ (r : Option Value) (m' : pw_m), Q1 r m' → pw_V x M d Z (pc + 3) lv (r.toList ++ rest) m') : pw_V x M d Z pc lv (vs.reverse ++ rest) mm := by
  obtain ⟨p, l, ee, R, s, m, args, below, meth, cc, D, ad, ⟨cI, cZ, cE⟩, A, X, nc, ns⟩ := x
  intro hC H locs hH ls hl
  obtain ⟨⟨o1, o2, o3, o4⟩, o5⟩ := hok
  have hG : GoodIn pw_tb (pw_ws y M1) := pw_gi (fun w hw => by
    rcases List.mem_cons.mp hw with rfl | h1
    · exact o2
    · exact h1)
  have hRR := hC.2.2.2.2.2.2.2.1
  have hN : pw_N s := hC.2.2.2.2.2.2.2.2.2.2.2
  have cw := va_cnB (R := R) (s := s) (args := args) (own := pw_on M.1) (index := idx) (y := y) (host := host) (bytes := M1.2.1) (maxL := M1.2.2.1) (ret := M1.2.2.2) (ws := pw_ws y M1) (rm := pw_rm h) (mc := 0) (ms := 0) n hC.2.2.2.2.1 hG rfl rfl rfl (hN _ hlink) (hC.2.2.2.2.1 _ o1) o3 ⟨Nat.le_trans hh hRR.1, Nat.le_trans (by show 8 + (M1.2.2.1 + 11) + 64 * h ≤ 64 * d; omega) hRR.2.1⟩
  have hr := va_runSN (e := ee) (g := F0 m pc ls ((vs.reverse ++ rest).map (pw_tv ad))) (As := vs.map (pw_tv ad)) (rest := rest.map (pw_tv ad)) (locs := locs) (cells := nc) (slots := ns) (below := below) (meth := meth) ⟨hC.1, hC.2.1, hC.2.2.1, hC.2.2.2.1, hC.2.2.2.2.1⟩ (hct l D ad cI cZ cE H.size) ⟨cw, hC.2.2.2.2.1 _ o5, trivial⟩ ⟨pw_blind, pw_pre hC hH vs⟩ rfl ((List.length_map _).trans hn) hl.1 (by simp) (lv_room (by rw [List.map_map]; simpa [Function.comp_def, pw_tv_cat] using hW)) hd ⟨hRR.2.2.1, hRR.2.2.2⟩
  exact pw_cont hC hH hr (fun r m' H1 locs1 h1 h2 => hk r m' h1 hC H1 locs1 h2 ls hl)
end PWD
