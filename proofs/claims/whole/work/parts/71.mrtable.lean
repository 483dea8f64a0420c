theorem TK.u {A m : pw_m} {e : Nat} {v : Int32} (h : TK A m e) : TK A (pw_up m 26 21 v) e := by
  unfold TK
  rw [pw_up_eq]
  exact h
theorem TK.v {A m : pw_m} {e k : Nat} {v : Int32} (h : TK A m e) (hk : 20 < k) : TK A (pw_up m 26 k v) e := by
  unfold TK
  rw [pw_up_eq]
  unfold upd
  rw [if_neg (by omega), if_neg (by omega), if_neg (by omega), if_neg (by omega)]
  exact h
theorem TK.c {A m : pw_m} {e c k : Nat} {v : Int32} (h : TK A m e) (hc : c ≠ 26) : TK A (pw_up m c k v) e := by
  unfold TK
  rw [pw_up_ne (fun z => hc z.symm)]
  exact h
theorem TK.z {A m : pw_m} {e c i : Nat} (h : TK A m e) (hc : c ≠ 26) : TK A (pw_zI m c i) e := by
  unfold TK
  rw [pw_zI_o (fun z => hc z.symm)]
  exact h
theorem TK.lay {A m : pw_m} {e : Nat} {v : Int32} (h : TK A m e) : TK A (pw_layM m v) e := by
  unfold pw_layM
  exact TK.v (TK.v (TK.v (TK.z (TK.z (TK.v (TK.v h (by omega)) (by omega)) (by omega)) (by omega)) (by omega)) (by omega)) (by omega)
theorem pw_up_26 {m : pw_m} {j k : Nat} {v : Int32} (h : j ≠ k) : pw_up m 26 k v 26 j = m 26 j := by rw [pw_up_eq]; unfold upd; rw [if_neg h]
theorem pw_up_o6 {m : pw_m} {c j k : Nat} {v : Int32} (h : 26 ≠ c) : pw_up m c k v 26 j = m 26 j := by rw [pw_up_ne h]
theorem pw_lay_w {m : pw_m} {v : Int32} : pw_layM m v 26 21 = m 26 21 := by
  unfold pw_layM
  rw [pw_up_26 (by omega), pw_up_26 (by omega), pw_up_26 (by omega), pw_zI_o (by omega), pw_zI_o (by omega), pw_up_26 (by omega), pw_up_26 (by omega)]

set_option maxHeartbeats 4000000 in
set_option maxRecDepth 100000 in
theorem c_mlays (mm : pw_m) (v : Int32) : pw_Ct 0 yX8_laysTable m_X8_laysTable [.ref 26, .int v] mm (fun r m' => r = none ∧ m' = pw_layM mm v) := by
  refine pw_ct (by decide +kernel) rfl (Nat.le_of_ble_eq_true rfl) (fun x => ?_)
  generalize hZ : pw_Z x _ = Z
  show pw_V x m_X8_laysTable 0 Z 0 [(0, .ref 26), (1, .int v)] [] mm
  refine pw_blk (pc' := 12) [.aload 0, .iload 1, .putfield 823, .aload 0, .iconst 0, .putfield 825, .iconst 0, .istore 2] (by decide +kernel) ?_
  show pw_V x m_X8_laysTable 0 Z 12 [(2, .int (nI 0)), (0, .ref 26), (1, .int v)] [] (pw_up (pw_up mm 26 23 v) 26 25 (nI 0))
  refine pw_lvp [1, 2, 0] rfl ?_
  suffices lo : ∀ ix : Nat, ix ≤ 16 → pw_V x m_X8_laysTable 0 Z 12 [(0, .ref 26), (1, .int v), (2, .int (nI ix))] [] (pw_zI (pw_up (pw_up mm 26 23 v) 26 25 (nI 0)) 36 ix) from lo 0 (by omega)
  refine pw_dn 16 (fun ix hix ih => ?_)
  refine pw_blk (pc' := 15) [.iload 2, .iconst (16)] (by decide +kernel) ?_
  show pw_V x m_X8_laysTable 0 Z 15 [(0, .ref 26), (1, .int v), (2, .int (nI ix))] [.int (nI 16), .int (nI ix)] (pw_zI (pw_up (pw_up mm 26 23 v) 26 25 (nI 0)) 36 ix)
  refine pw_in_ge (tgt := 31) (off := 16) (by omega) (by omega) (by decide +kernel) (by decide) (fun h15 => ?_) (fun h15 => ?_)
  · have e16 : ix = 16 := by omega
    subst e16
    refine pw_blk (pc' := 33) [.iconst 0, .istore 2] (by decide +kernel) ?_
    show pw_V x m_X8_laysTable 0 Z 33 [(2, .int (nI 0)), (0, .ref 26), (1, .int v)] [] (pw_zI (pw_up (pw_up mm 26 23 v) 26 25 (nI 0)) 36 16)
    refine pw_lvp [1, 2, 0] rfl ?_
    skip
    suffices lo : ∀ ix : Nat, ix ≤ 6 → pw_V x m_X8_laysTable 0 Z 33 [(0, .ref 26), (1, .int v), (2, .int (nI ix))] [] (pw_zI (pw_zI (pw_up (pw_up mm 26 23 v) 26 25 (nI 0)) 36 16) 38 ix) from lo 0 (by omega)
    refine pw_dn 6 (fun ix hix ih => ?_)
    refine pw_blk (pc' := 36) [.iload 2, .iconst (6)] (by decide +kernel) ?_
    show pw_V x m_X8_laysTable 0 Z 36 [(0, .ref 26), (1, .int v), (2, .int (nI ix))] [.int (nI 6), .int (nI ix)] (pw_zI (pw_zI (pw_up (pw_up mm 26 23 v) 26 25 (nI 0)) 36 16) 38 ix)
    refine pw_in_ge (tgt := 52) (off := 16) (by omega) (by omega) (by decide +kernel) (by decide) (fun h36 => ?_) (fun h36 => ?_)
    · refine pw_blk (pc' := 67) [.aload 0, .iconst 0, .putfield 828, .aload 0, .iconst 0, .putfield 829, .aload 0, .iconst (-1), .putfield 830] (by decide +kernel) ?_
      show pw_V x m_X8_laysTable 0 Z 67 [(0, .ref 26), (1, .int v), (2, .int (nI ix))] [] (pw_up (pw_up (pw_up (pw_zI (pw_zI (pw_up (pw_up mm 26 23 v) 26 25 (nI 0)) 36 16) 38 ix) 26 28 (nI 0)) 26 29 (nI 0)) 26 30 (-1))
      rw [← hZ]
      refine pw_rv (by decide +kernel) ?_
      exact ⟨rfl, by unfold pw_layM; rw [show ix = 6 by omega]⟩
    · refine pw_blk (pc' := 49) [.aload 0, .getfield 827, .iload 2, .iconst 0, .iastore, .iinc 2 1] (by decide +kernel) ?_
      refine ⟨ix, rfl, by omega, ?_⟩
      show pw_V x m_X8_laysTable 0 Z 49 [(2, .int ((nI ix) + (nI 1))), (0, .ref 26), (1, .int v)] [] (pw_up (pw_zI (pw_zI (pw_up (pw_up mm 26 23 v) 26 25 (nI 0)) 36 16) 38 ix) 38 ix (nI 0))
      rw [show (nI ix) + (nI 1) = nI (ix + 1) from nI_add _ _]
      refine pw_goto (tgt := 33) (off := -16) (by decide +kernel) (by decide) ?_
      refine pw_lvp [1, 2, 0] rfl ?_
      exact ih (by omega)
  · refine pw_blk (pc' := 28) [.aload 0, .getfield 824, .iload 2, .iconst 0, .iastore, .iinc 2 1] (by decide +kernel) ?_
    refine ⟨ix, rfl, by omega, ?_⟩
    show pw_V x m_X8_laysTable 0 Z 28 [(2, .int ((nI ix) + (nI 1))), (0, .ref 26), (1, .int v)] [] (pw_up (pw_zI (pw_up (pw_up mm 26 23 v) 26 25 (nI 0)) 36 ix) 36 ix (nI 0))
    rw [show (nI ix) + (nI 1) = nI (ix + 1) from nI_add _ _]
    refine pw_goto (tgt := 12) (off := -16) (by decide +kernel) (by decide) ?_
    refine pw_lvp [1, 2, 0] rfl ?_
    exact ih (by omega)

set_option maxHeartbeats 4000000 in
set_option maxRecDepth 100000 in
theorem c_mrTable {A : pw_m} (mm : pw_m) (hx : MX A mm) (hok : pw_ok A) (X : pw_m) (hX : SD X mm) (s k : Nat) (hs : X 4 0 = nI s) (hk : X 4 1 = nI k) (hs8 : s ≤ 8) (hk6 : k ≤ 6) (e : Nat) (he2 : e ≤ pw_g A 2 1) (hT : TK A mm e) (hw1 : mm 26 21 = nI 1) : pw_Ct 4 yX8_readTable m_X8_readTable [.ref 26] mm (fun r m' => r = none ∧ pw_rp A X mm m' (pw_rest A s k 0 e)) := by
  refine pw_ct (by decide +kernel) rfl (Nat.le_of_ble_eq_true rfl) (fun x => ?_)
  generalize hZ : pw_Z x _ = Z
  have b21 := pw_b21 hok
  have z0 := pw_tb1 he2
  show pw_V x m_X8_readTable 4 Z 0 [(0, .ref 26)] [] mm
  refine pw_blk (pc' := 4) [.aload 0, .iconst 3, .iconst (8)] (by decide +kernel) ?_
  show pw_V x m_X8_readTable 4 Z 4 [(0, .ref 26)] [.int (nI 8), .int (nI 3), .ref 26] mm
  refine pw_cV (vs := [.int (nI 3), .int (nI 8)]) (rest := []) k_X8_number (c_mnumb (A := A) mm hx e (by omega) hT b21 hok true hw1 3 9 (nI 8) (by decide) (by omega) (by omega)) l_8_145 rfl rfl rfl rfl (by omega) (Nat.le_of_ble_eq_true rfl) (by decide +kernel) ?_
  rintro _ m1 ⟨rfl, e1⟩
  rw [e1]
  clear e1 m1
  show pw_V x m_X8_readTable 4 Z 7 [(0, .ref 26)] [.int (pw_nuR A e 3 9 true)] (pw_nuM A mm e 3 9 true)
  by_cases c4 : pw_rgb 3 9 (pw_tN A e) = true
  · obtain ⟨y4, ey4, ya4, yb4⟩ := pw_rgb_t c4 (by omega) (by omega)
    rw [show pw_nuR A e 3 9 true = nI y4 from by unfold pw_nuR pw_nuC; rw [c4, ← ey4]; rfl, show pw_nuM A mm e 3 9 true = pw_tok A (pw_up mm 26 21 (nI 1)) (pw_tE A e) from by unfold pw_nuM pw_nuC; rw [c4]; rfl]
    have w4 := pw_tb1 (A := A) (e := pw_tE A e) (by omega)
    obtain ⟨m4, hm4⟩ : ∃ m, m = pw_tok A (pw_up mm 26 21 (nI 1)) (pw_tE A e) := ⟨_, rfl⟩
    rw [← hm4]
    have T4 : TK A m4 (pw_tE A e) := by rw [hm4]; exact pw_tok_TK
    have W4 : m4 26 21 = nI 1 := by rw [hm4]; exact (pw_tok_6 (by omega)).trans pw_up_gs
    have X4 : MX A m4 := by rw [hm4]; exact MX.t (MX.u hx (by decide))
    have S4 : SD X m4 := by rw [hm4]; exact SD.t (SD.w hX)
    have F4 : pw_rfm mm m4 := by rw [hm4]; exact pw_rfm_k (pw_rfm_6 pw_rfm_r (by decide))
    clear hm4
    show pw_V x m_X8_readTable 4 Z 7 [(0, .ref 26)] [.int (nI y4)] m4
    refine pw_blk (pc' := 12) [.istore 1, .aload 0, .getfield 821] (by decide +kernel) ?_
    show pw_V x m_X8_readTable 4 Z 12 [(1, .int (nI y4)), (0, .ref 26)] [.int (m4 26 21)] m4
    rw [show m4 26 21 = nI 1 from W4]
    refine pw_iz_eq (tgt := 20) (off := 8) (by omega) (by decide +kernel) (by decide) (fun h => by omega) (fun _ => ?_)
    refine pw_blk (pc' := 17) [.aload 0, .iload 1] (by decide +kernel) ?_
    show pw_V x m_X8_readTable 4 Z 17 [(1, .int (nI y4)), (0, .ref 26)] [.int (nI y4), .ref 26] m4
    refine pw_cV (vs := [.int (nI y4)]) (rest := []) k_X8_laysTable (c_mlays m4 (nI y4)) l_8_149 rfl rfl rfl rfl (by omega) (Nat.le_of_ble_eq_true rfl) (by decide +kernel) ?_
    rintro _ m1 ⟨rfl, e1⟩
    rw [e1]
    clear e1 m1
    show pw_V x m_X8_readTable 4 Z 20 [(1, .int (nI y4)), (0, .ref 26)] [] (pw_layM m4 (nI y4))
    rw [← hZ]
    refine pw_rv (by decide +kernel) ?_
    have hr : pw_rest A s k 0 e = (some (0, y4, 0), (pw_tE A e)) := by
      unfold pw_rest
      rw [if_neg (show ¬ pw_nb 0 < 1 by decide), if_pos (show pw_rgb (pw_le_ 0) (pw_mf s k 0) (pw_tN A e) = true from c4), if_pos (show pw_nb 0 < 2 by decide), ey4, pw_c_nI (show y4 < 2 ^ 31 by omega)]
    exact ⟨rfl, pw_rp_ok hr (TK.lay T4) ((pw_lay_w).trans W4) (pw_rfm_lay F4) (SD.lay S4)⟩
  · rw [show pw_nuR A e 3 9 true = nI 3 from by unfold pw_nuR pw_nuC; rw [Bool.true_and, if_neg c4], show pw_nuM A mm e 3 9 true = pw_up mm 26 21 (nI 0) from by unfold pw_nuM pw_nuC; rw [Bool.true_and, if_neg c4]]
    obtain ⟨m4, hm4⟩ : ∃ m, m = pw_up mm 26 21 (nI 0) := ⟨_, rfl⟩
    rw [← hm4]
    have T4 : TK A m4 e := by rw [hm4]; exact (TK.u hT)
    have W4 : m4 26 21 = nI 0 := by rw [hm4]; exact pw_up_gs
    have X4 : MX A m4 := by rw [hm4]; exact MX.u hx (by decide)
    have S4 : SD X m4 := by rw [hm4]; exact SD.w hX
    have F4 : pw_rfm mm m4 := by rw [hm4]; exact pw_rfm_6 pw_rfm_r (by decide)
    clear hm4
    show pw_V x m_X8_readTable 4 Z 7 [(0, .ref 26)] [.int (nI 3)] m4
    refine pw_blk (pc' := 12) [.istore 1, .aload 0, .getfield 821] (by decide +kernel) ?_
    show pw_V x m_X8_readTable 4 Z 12 [(1, .int (nI 3)), (0, .ref 26)] [.int (m4 26 21)] m4
    rw [show m4 26 21 = nI 0 from W4]
    refine pw_iz_eq (tgt := 20) (off := 8) (by omega) (by decide +kernel) (by decide) (fun _ => ?_) (fun h => by omega)
    rw [← hZ]
    refine pw_rv (by decide +kernel) ?_
    have hr : pw_rest A s k 0 e = (none, e) := by
      unfold pw_rest
      rw [if_neg (show ¬ pw_nb 0 < 1 by decide), if_neg (show ¬ pw_rgb (pw_le_ 0) (pw_mf s k 0) (pw_tN A e) = true from c4)]
    exact ⟨rfl, pw_rp_no hr T4 W4 F4⟩
