/-! the search, prepared -/
def pw_gdb (A : pw_m) (q : Option Nat) (k s : Nat) : Bool := (decide (q = some s) || pw_fnow A k s) && !pw_inp A k s
def pw_gd (A : pw_m) (q : Option Nat) (k : Nat) : Nat := pw_ob (pw_gdb A q k) (pw_n A)
def pw_psI (A : pw_m) (q : Option Nat) (i : Nat) : pw_m := fun c => if c = 20 then upd (upd (upd (A 20) 0 (A 4 0)) 1 (A 4 1)) 2 (A 42 1) else if c = 21 then pw_c6 (A 21) (fun k => nI (pw_gd A q k)) i else if c = 22 then pw_c6 (A 22) (A 10) i else if c = 24 then pw_c6 (A 24) (A 45) i else A c
theorem pw_psI_o {A : pw_m} {q : Option Nat} {i c : Nat} (h : c < 20 ∨ c = 23 ∨ 25 ≤ c) : pw_psI A q i c = A c := by
  unfold pw_psI
  rw [if_neg (by omega), if_neg (by omega), if_neg (by omega), if_neg (by omega)]
theorem pw_psI_0 {A : pw_m} {q : Option Nat} : pw_up (pw_up (pw_up A 20 0 (A 4 0)) 20 1 (A 4 1)) 20 2 (A 42 1) = pw_psI A q 0 := by
  funext c
  by_cases h : c = 20
  · subst h; rw [pw_up_eq, pw_up_eq, pw_up_eq]; rfl
  · rw [pw_up_ne h, pw_up_ne h, pw_up_ne h]
    unfold pw_psI
    rw [if_neg h]
    split
    · rename_i e; subst e; rw [pw_c6_0]
    · split
      · rename_i e; subst e; rw [pw_c6_0]
      · split
        · rename_i e; subst e; rw [pw_c6_0]
        · rfl
theorem pw_psI_s {A : pw_m} {q : Option Nat} {i : Nat} : pw_up (pw_up (pw_up (pw_psI A q i) 21 i (nI (pw_gd A q i))) 22 i (A 10 i)) 24 i (A 45 i) = pw_psI A q (i + 1) := by
  funext c
  by_cases h4 : c = 24
  · subst h4; rw [pw_up_eq, pw_up_ne (by omega), pw_up_ne (by omega)]; exact pw_c6_s
  · rw [pw_up_ne h4]
    by_cases h2 : c = 22
    · subst h2; rw [pw_up_eq, pw_up_ne (by omega)]; exact pw_c6_s
    · rw [pw_up_ne h2]
      by_cases h1 : c = 21
      · subst h1; rw [pw_up_eq]; exact pw_c6_s (g := fun k => nI (pw_gd A q k))
      · rw [pw_up_ne h1]
        unfold pw_psI
        rw [if_neg h1, if_neg h1, if_neg h2, if_neg h2, if_neg h4, if_neg h4]
theorem pw_ok_ps {A : pw_m} {q : Option Nat} {i : Nat} (h : pw_ok A) : pw_ok (pw_psI A q i) := pw_ok_f (fun c hc => pw_psI_o (by omega)) (by rw [pw_psI_o (by omega)]) (by rw [pw_psI_o (by omega)]) h

set_option maxHeartbeats 4000000 in
set_option maxRecDepth 100000 in
theorem c_prepareSearch (q : Option Nat) (mm : pw_m) (hok : pw_ok mm) (hq : ∀ c, q = some c → c < 8) : pw_Ct 3 yX7_prepareSearch m_X7_prepareSearch [.ref 0, .int (pw_o (q))] mm (fun r m' => r = none ∧ m' = pw_psI mm q (pw_k mm)) := by
  refine pw_ct (by decide +kernel) rfl (Nat.le_of_ble_eq_true rfl) (fun x => ?_)
  generalize hZ : pw_Z x _ = Z
  have bn := pw_bn hok
  have bk := pw_bk hok
  have loop : ∀ i : Nat, i ≤ pw_k mm → pw_V x m_X7_prepareSearch 3 Z 44 [(0, .ref 0), (1, .int (pw_o (q))), (2, .int (nI i))] [] (pw_psI mm q i) := by
    refine pw_dn (pw_k mm) (fun i hi ih => ?_)
    have hokI : pw_ok (pw_psI mm q i) := pw_ok_ps hok
    refine pw_blk (pc' := 52) [.iload 2, .aload 0, .getfield 701, .getfield 501] (by decide +kernel) ?_
    show pw_V x m_X7_prepareSearch 3 Z 52 [(0, .ref 0), (1, .int (pw_o (q))), (2, .int (nI i))] [.int (mm 4 1), .int (nI i)] (pw_psI mm q i)
    rw [show mm 4 1 = nI (pw_k mm) from pw_q41 hok]
    refine pw_in_ge (tgt := 163) (off := 111) (by omega) (by omega) (by decide +kernel) (by decide) (fun h52 => ?_) (fun h52 => ?_)
    · rw [← hZ]
      refine pw_rv (by decide +kernel) ?_
      have e : i = pw_k mm := by omega
      subst e
      exact ⟨rfl, rfl⟩
    · refine pw_blk (pc' := 60) [.iconst 0, .istore 3, .iconst 0, .istore 4] (by decide +kernel) ?_
      show pw_V x m_X7_prepareSearch 3 Z 60 [(4, .int (nI 0)), (3, .int (nI 0)), (0, .ref 0), (1, .int (pw_o (q))), (2, .int (nI i))] [] (pw_psI mm q i)
      refine pw_lvp [2, 3, 4, 1, 0] rfl ?_
      suffices inn : ∀ s : Nat, s ≤ pw_n mm → pw_V x m_X7_prepareSearch 3 Z 60 [(0, .ref 0), (1, .int (pw_o (q))), (2, .int (nI i)), (3, .int (nI (pw_ob (pw_gdb mm q i) s))), (4, .int (nI s))] [] (pw_psI mm q i) from inn 0 (by omega)
      refine pw_dn (pw_n mm) (fun s hs ih2 => ?_)
      refine pw_blk (pc' := 69) [.iload 4, .aload 0, .getfield 701, .getfield 500] (by decide +kernel) ?_
      show pw_V x m_X7_prepareSearch 3 Z 69 [(0, .ref 0), (1, .int (pw_o (q))), (2, .int (nI i)), (3, .int (nI (pw_ob (pw_gdb mm q i) s))), (4, .int (nI s))] [.int (mm 4 0), .int (nI s)] (pw_psI mm q i)
      rw [show mm 4 0 = nI (pw_n mm) from pw_q40 hok]
      refine pw_in_ge (tgt := 111) (off := 42) (by omega) (by omega) (by decide +kernel) (by decide) (fun h69 => ?_) (fun h69 => ?_)
      · have e9 : s = pw_n mm := by omega
        rw [show pw_ob (pw_gdb mm q i) s = pw_gd mm q i from by rw [e9]; rfl]
        show pw_V x m_X7_prepareSearch 3 Z 111 [(0, .ref 0), (1, .int (pw_o (q))), (2, .int (nI i)), (3, .int (nI (pw_gd mm q i))), (4, .int (nI s))] [] (pw_psI mm q i)
        refine pw_blk (pc' := 160) [.aload 0, .getfield 705, .getfield 403, .iload 2, .iload 3, .iastore, .aload 0, .getfield 705, .getfield 404, .iload 2, .aload 0, .getfield 701, .getfield 507, .iload 2, .iaload, .iastore, .aload 0, .getfield 705, .getfield 406, .iload 2, .aload 0, .getfield 702, .getfield 4, .iload 2, .iaload, .iastore, .iinc 2 1] (by decide +kernel) ?_
        refine ⟨i, rfl, by omega, ?_⟩
        refine ⟨i, rfl, by omega, ?_⟩
        refine ⟨i, rfl, by omega, ?_⟩
        refine ⟨i, rfl, by omega, ?_⟩
        refine ⟨i, rfl, by omega, ?_⟩
        show pw_V x m_X7_prepareSearch 3 Z 160 [(2, .int ((nI i) + (nI 1))), (0, .ref 0), (1, .int (pw_o (q))), (3, .int (nI (pw_gd mm q i))), (4, .int (nI s))] [] (pw_up (pw_up (pw_up (pw_psI mm q i) 21 i (nI (pw_gd mm q i))) 22 i (mm 10 i)) 24 i (mm 45 i))
        rw [show (nI i) + (nI 1) = nI (i + 1) from nI_add _ _]
        refine pw_goto (tgt := 44) (off := -116) (by decide +kernel) (by decide) ?_
        have e := ih (by omega)
        rw [← pw_psI_s] at e
        refine pw_lvp [1, 2, 0] rfl ?_
        exact e
      · refine pw_blk (pc' := 75) [.iload 4, .iload 1] (by decide +kernel) ?_
        show pw_V x m_X7_prepareSearch 3 Z 75 [(0, .ref 0), (1, .int (pw_o (q))), (2, .int (nI i)), (3, .int (nI (pw_ob (pw_gdb mm q i) s))), (4, .int (nI s))] [.int (pw_o (q)), .int (nI s)] (pw_psI mm q i)
        refine pw_no_eq (tgt := 88) (off := 13) (by decide +kernel) (by decide) (by omega) (fun a ha => Nat.lt_trans (hq _ ha) (by omega)) (fun h75 => ?_) (fun h75 => ?_)
        · refine pw_blk (pc' := 92) [.aload 0, .iload 2, .iload 4] (by decide +kernel) ?_
          show pw_V x m_X7_prepareSearch 3 Z 92 [(0, .ref 0), (1, .int (pw_o (q))), (2, .int (nI i)), (3, .int (nI (pw_ob (pw_gdb mm q i) s))), (4, .int (nI s))] [.int (nI s), .int (nI i), .ref 0] (pw_psI mm q i)
          refine pw_cV (vs := [.int (nI i), .int (nI s)]) (rest := []) k_X7_isInPeril (c_isInPeril i s (pw_psI mm q i) hokI (by omega) (by omega)) l_7_268 rfl rfl rfl rfl (by decide) (Nat.le_of_ble_eq_true rfl) (by decide +kernel) ?_
          rintro _ m1 ⟨rfl, e1⟩
          rw [e1]
          clear e1 m1
          show pw_V x m_X7_prepareSearch 3 Z 95 [(0, .ref 0), (1, .int (pw_o (q))), (2, .int (nI i)), (3, .int (nI (pw_ob (pw_gdb mm q i) s))), (4, .int (nI s))] [.int (pw_b (pw_inp mm i s))] (pw_psI mm q i)
          refine pw_ib_ne (tgt := 105) (off := 10) (by decide +kernel) (by decide) (fun h95 => ?_) (fun h95 => ?_)
          · refine pw_blk (pc' := 108) [.iinc 4 1] (by decide +kernel) ?_
            show pw_V x m_X7_prepareSearch 3 Z 108 [(4, .int ((nI s) + (nI 1))), (0, .ref 0), (1, .int (pw_o (q))), (2, .int (nI i)), (3, .int (nI (pw_ob (pw_gdb mm q i) s)))] [] (pw_psI mm q i)
            rw [show (nI s) + (nI 1) = nI (s + 1) from nI_add _ _]
            refine pw_goto (tgt := 60) (off := -48) (by decide +kernel) (by decide) ?_
            rw [show (pw_ob (pw_gdb mm q i) s) = (pw_ob (pw_gdb mm q i) (s + 1)) from by simp [pw_ob, pw_gdb, h75, h95]]
            refine pw_lvp [1, 2, 3, 4, 0] rfl ?_
            exact ih2 (by omega)
          · refine pw_blk (pc' := 108) [.iload 3, .iconst 1, .iload 4, .ishl, .ior, .istore 3, .iinc 4 1] (by decide +kernel) ?_
            show pw_V x m_X7_prepareSearch 3 Z 108 [(4, .int ((nI s) + (nI 1))), (3, .int ((nI (pw_ob (pw_gdb mm q i) s)) ||| ((nI 1) <<< ((nI s) &&& 31)))), (0, .ref 0), (1, .int (pw_o (q))), (2, .int (nI i))] [] (pw_psI mm q i)
            rw [show (nI s) + (nI 1) = nI (s + 1) from nI_add _ _]
            rw [show (nI 1) <<< ((nI s) &&& 31) = nI (2 ^ s) from pw_shl1 (by omega)]
            rw [show (nI (pw_ob (pw_gdb mm q i) s)) ||| (nI (2 ^ s)) = nI ((pw_ob (pw_gdb mm q i) s) ||| (2 ^ s)) from fa_or _ _]
            refine pw_goto (tgt := 60) (off := -48) (by decide +kernel) (by decide) ?_
            rw [show ((pw_ob (pw_gdb mm q i) s) ||| (2 ^ s)) = (pw_ob (pw_gdb mm q i) (s + 1)) from by simp [pw_ob, pw_gdb, h75, h95]]
            refine pw_lvp [2, 3, 4, 1, 0] rfl ?_
            exact ih2 (by omega)
        · refine pw_blk (pc' := 82) [.aload 0, .iload 2, .iload 4] (by decide +kernel) ?_
          show pw_V x m_X7_prepareSearch 3 Z 82 [(0, .ref 0), (1, .int (pw_o (q))), (2, .int (nI i)), (3, .int (nI (pw_ob (pw_gdb mm q i) s))), (4, .int (nI s))] [.int (nI s), .int (nI i), .ref 0] (pw_psI mm q i)
          refine pw_cV (vs := [.int (nI i), .int (nI s)]) (rest := []) k_X7_fitsNow (c_fitsNow i s (pw_psI mm q i) hokI (by omega) (by omega)) l_7_144 rfl rfl rfl rfl (by decide) (Nat.le_of_ble_eq_true rfl) (by decide +kernel) ?_
          rintro _ m1 ⟨rfl, e1⟩
          rw [e1]
          clear e1 m1
          show pw_V x m_X7_prepareSearch 3 Z 85 [(0, .ref 0), (1, .int (pw_o (q))), (2, .int (nI i)), (3, .int (nI (pw_ob (pw_gdb mm q i) s))), (4, .int (nI s))] [.int (pw_b (pw_fnow mm i s))] (pw_psI mm q i)
          refine pw_ib_eq (tgt := 105) (off := 20) (by decide +kernel) (by decide) (fun h85 => ?_) (fun h85 => ?_)
          · refine pw_blk (pc' := 108) [.iinc 4 1] (by decide +kernel) ?_
            show pw_V x m_X7_prepareSearch 3 Z 108 [(4, .int ((nI s) + (nI 1))), (0, .ref 0), (1, .int (pw_o (q))), (2, .int (nI i)), (3, .int (nI (pw_ob (pw_gdb mm q i) s)))] [] (pw_psI mm q i)
            rw [show (nI s) + (nI 1) = nI (s + 1) from nI_add _ _]
            refine pw_goto (tgt := 60) (off := -48) (by decide +kernel) (by decide) ?_
            rw [show (pw_ob (pw_gdb mm q i) s) = (pw_ob (pw_gdb mm q i) (s + 1)) from by simp [pw_ob, pw_gdb, h75, h85]]
            refine pw_lvp [1, 2, 3, 4, 0] rfl ?_
            exact ih2 (by omega)
          · refine pw_blk (pc' := 92) [.aload 0, .iload 2, .iload 4] (by decide +kernel) ?_
            show pw_V x m_X7_prepareSearch 3 Z 92 [(0, .ref 0), (1, .int (pw_o (q))), (2, .int (nI i)), (3, .int (nI (pw_ob (pw_gdb mm q i) s))), (4, .int (nI s))] [.int (nI s), .int (nI i), .ref 0] (pw_psI mm q i)
            refine pw_cV (vs := [.int (nI i), .int (nI s)]) (rest := []) k_X7_isInPeril (c_isInPeril i s (pw_psI mm q i) hokI (by omega) (by omega)) l_7_268 rfl rfl rfl rfl (by decide) (Nat.le_of_ble_eq_true rfl) (by decide +kernel) ?_
            rintro _ m1 ⟨rfl, e1⟩
            rw [e1]
            clear e1 m1
            show pw_V x m_X7_prepareSearch 3 Z 95 [(0, .ref 0), (1, .int (pw_o (q))), (2, .int (nI i)), (3, .int (nI (pw_ob (pw_gdb mm q i) s))), (4, .int (nI s))] [.int (pw_b (pw_inp mm i s))] (pw_psI mm q i)
            refine pw_ib_ne (tgt := 105) (off := 10) (by decide +kernel) (by decide) (fun h95 => ?_) (fun h95 => ?_)
            · refine pw_blk (pc' := 108) [.iinc 4 1] (by decide +kernel) ?_
              show pw_V x m_X7_prepareSearch 3 Z 108 [(4, .int ((nI s) + (nI 1))), (0, .ref 0), (1, .int (pw_o (q))), (2, .int (nI i)), (3, .int (nI (pw_ob (pw_gdb mm q i) s)))] [] (pw_psI mm q i)
              rw [show (nI s) + (nI 1) = nI (s + 1) from nI_add _ _]
              refine pw_goto (tgt := 60) (off := -48) (by decide +kernel) (by decide) ?_
              rw [show (pw_ob (pw_gdb mm q i) s) = (pw_ob (pw_gdb mm q i) (s + 1)) from by simp [pw_ob, pw_gdb, h75, h85, h95]]
              refine pw_lvp [1, 2, 3, 4, 0] rfl ?_
              exact ih2 (by omega)
            · refine pw_blk (pc' := 108) [.iload 3, .iconst 1, .iload 4, .ishl, .ior, .istore 3, .iinc 4 1] (by decide +kernel) ?_
              show pw_V x m_X7_prepareSearch 3 Z 108 [(4, .int ((nI s) + (nI 1))), (3, .int ((nI (pw_ob (pw_gdb mm q i) s)) ||| ((nI 1) <<< ((nI s) &&& 31)))), (0, .ref 0), (1, .int (pw_o (q))), (2, .int (nI i))] [] (pw_psI mm q i)
              rw [show (nI s) + (nI 1) = nI (s + 1) from nI_add _ _]
              rw [show (nI 1) <<< ((nI s) &&& 31) = nI (2 ^ s) from pw_shl1 (by omega)]
              rw [show (nI (pw_ob (pw_gdb mm q i) s)) ||| (nI (2 ^ s)) = nI ((pw_ob (pw_gdb mm q i) s) ||| (2 ^ s)) from fa_or _ _]
              refine pw_goto (tgt := 60) (off := -48) (by decide +kernel) (by decide) ?_
              rw [show ((pw_ob (pw_gdb mm q i) s) ||| (2 ^ s)) = (pw_ob (pw_gdb mm q i) (s + 1)) from by simp [pw_ob, pw_gdb, h75, h85, h95]]
              refine pw_lvp [2, 3, 4, 1, 0] rfl ?_
              exact ih2 (by omega)
  show pw_V x m_X7_prepareSearch 3 Z 0 [(0, .ref 0), (1, .int (pw_o (q)))] [] mm
  refine pw_blk (pc' := 44) [.aload 0, .getfield 705, .aload 0, .getfield 701, .getfield 500, .putfield 400, .aload 0, .getfield 705, .aload 0, .getfield 701, .getfield 501, .putfield 401, .aload 0, .getfield 705, .aload 0, .getfield 702, .getfield 1, .putfield 402, .iconst 0, .istore 2] (by decide +kernel) ?_
  show pw_V x m_X7_prepareSearch 3 Z 44 [(2, .int (nI 0)), (0, .ref 0), (1, .int (pw_o (q)))] [] (pw_up (pw_up (pw_up mm 20 0 (mm 4 0)) 20 1 (mm 4 1)) 20 2 (mm 42 1))
  rw [show mm 4 0 = nI (pw_n mm) from pw_q40 hok]
  rw [show mm 4 1 = nI (pw_k mm) from pw_q41 hok]
  refine pw_lvp [1, 2, 0] rfl ?_
  have e := loop 0 (by omega)
  rw [← pw_psI_0, pw_q40 hok, pw_q41 hok] at e
  exact e
