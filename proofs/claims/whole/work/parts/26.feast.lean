def pw_f2 (A : pw_m) : pw_m := pw_crI (pw_rem A) (pw_wrs (pw_rem A)) (pw_k (pw_rem A))
def pw_f3 (A : pw_m) : pw_m := pw_snI (pw_f2 A) (pw_k (pw_f2 A))
def pw_f4 (A : pw_m) : pw_m := pw_up (pw_f3 A) 42 1 (nI (pw_an (pw_g (pw_f3 A) 42 1) (pw_wrs (pw_rem A))))
def pw_f5 (A : pw_m) : pw_m := pw_rsI (pw_f4 A) 6
def pw_f6 (A : pw_m) : pw_m := pw_up (pw_f5 A) 42 0 (nI (pw_g (pw_f5 A) 42 0 + 1))
def F_feast (A : pw_m) : Int32 := if pw_sb A = 0 then -4 else if pw_g A 42 0 < 999 then nI (pw_wrs (pw_rem A)) else -5
def G_feast (A : pw_m) : pw_m := if pw_sb A = 0 then A else if pw_g A 42 0 < 999 then pw_f6 A else A
theorem pw_okf2 {A : pw_m} (h : pw_ok A) : pw_ok (pw_f2 A) := pw_ok_crI (pw_ok_rem h)
theorem pw_okf3 {A : pw_m} (h : pw_ok A) : pw_ok (pw_f3 A) := pw_ok_snI (pw_okf2 h)
theorem pw_okf4 {A : pw_m} (h : pw_ok A) : pw_ok (pw_f4 A) := pw_ok_th (pw_okf3 h) (pw_an_lt (pw_b421 (pw_okf3 h)))
theorem pw_okf5 {A : pw_m} (h : pw_ok A) : pw_ok (pw_f5 A) := pw_ok_rise (pw_okf4 h)
theorem pw_gf5 {A : pw_m} (h : pw_ok A) : pw_g (pw_f5 A) 42 0 = pw_g A 42 0 := by
  have bx := pw_b114 h
  have e : pw_f5 A 42 0 = A 42 0 := by
    show pw_rsI (pw_f4 A) 6 42 0 = _
    unfold pw_rsI
    rw [if_neg (by omega)]
    unfold pw_f4
    rw [pw_up_eq]
    unfold upd
    rw [if_neg (by omega)]
    unfold pw_f3
    rw [pw_snI_o (by omega) (by omega)]
    unfold pw_f2
    rw [pw_crI_o (by omega), pw_rem_o bx (by omega) (by omega)]
  unfold pw_g
  rw [e]
theorem pw_okf6 {A : pw_m} (h : pw_ok A) (hd : pw_g A 42 0 < 999) : pw_ok (pw_f6 A) := pw_ok_dy (pw_okf5 h) (by rw [pw_gf5 h]; omega)

set_option maxHeartbeats 4000000 in
set_option maxRecDepth 100000 in
theorem c_feast (mm : pw_m) (hok : pw_ok mm) : pw_Ct 4 yX7_feast m_X7_feast [.ref 0] mm (fun r m' => r = some (.int (F_feast mm)) ∧ m' = G_feast mm) := by
  refine pw_ct (by decide +kernel) rfl (Nat.le_of_ble_eq_true rfl) (fun x => ?_)
  generalize hZ : pw_Z x _ = Z
  have bn := pw_bn hok
  have bk := pw_bk hok
  have bt := pw_b421' hok
  have bx := pw_b114 hok
  have hok1 := pw_ok_rem hok
  have hT : ∀ c, 4 ≤ c → c ≤ 10 → pw_rem mm c = mm c := fun c h1 h2 => pw_rem_o bx (by omega) (by omega)
  have bs := pw_sb_lt (A := mm)
  have hok2 := pw_okf2 hok
  have hok3 := pw_okf3 hok
  have hok4 := pw_okf4 hok
  have hok5 := pw_okf5 hok
  have bw := pw_wrs_lt hok1
  have bd := pw_b420 hok5
  have bd0 := pw_b420 hok
  show pw_V x m_X7_feast 4 Z 0 [(0, .ref 0)] [] mm
  refine pw_blk (pc' := 4) [.aload 0, .getfield 702] (by decide +kernel) ?_
  show pw_V x m_X7_feast 4 Z 4 [(0, .ref 0)] [.ref 42] mm
  refine pw_cV (vs := []) (rest := []) k_X0_whoSit (c_whoSit mm hok) l_7_157 rfl rfl rfl rfl (by decide) (Nat.le_of_ble_eq_true rfl) (by decide +kernel) ?_
  rintro _ m1 ⟨rfl, e1⟩
  rw [e1]
  clear e1 m1
  show pw_V x m_X7_feast 4 Z 7 [(0, .ref 0)] [.int (nI (pw_sb mm))] mm
  refine pw_iz_ne (tgt := 13) (off := 6) (by omega) (by decide +kernel) (by decide) (fun h7 => ?_) (fun h7 => ?_)
  · refine pw_blk (pc' := 23) [.aload 0, .getfield 702, .getfield 0, .iconst (999)] (by decide +kernel) ?_
    show pw_V x m_X7_feast 4 Z 23 [(0, .ref 0)] [.int (nI 999), .int (mm 42 0)] mm
    rw [show mm 42 0 = nI (pw_g mm 42 0) from pw_q420 hok]
    refine pw_in_lt (tgt := 29) (off := 6) (by omega) (by omega) (by decide +kernel) (by decide) (fun h23 => ?_) (fun h23 => ?_)
    · refine pw_blk (pc' := 37) [.aload 0, .getfield 703, .aload 0, .getfield 702] (by decide +kernel) ?_
      show pw_V x m_X7_feast 4 Z 37 [(0, .ref 0)] [.ref 42, .ref 11] mm
      refine pw_cV (vs := [.ref 42]) (rest := []) k_X1_remember (c_remember mm hok) l_7_153 rfl rfl rfl rfl (by decide) (Nat.le_of_ble_eq_true rfl) (by decide +kernel) ?_
      rintro _ m1 ⟨rfl, e1⟩
      rw [e1]
      clear e1 m1
      show pw_V x m_X7_feast 4 Z 40 [(0, .ref 0)] [] (pw_rem mm)
      refine pw_blk (pc' := 41) [.aload 0] (by decide +kernel) ?_
      show pw_V x m_X7_feast 4 Z 41 [(0, .ref 0)] [.ref 0] (pw_rem mm)
      refine pw_cV (vs := []) (rest := []) k_X7_whoIsWrong (c_whoIsWrong (pw_rem mm) hok1) l_7_172 rfl rfl rfl rfl (by decide) (Nat.le_of_ble_eq_true rfl) (by decide +kernel) ?_
      rintro _ m1 ⟨rfl, e1⟩
      rw [e1]
      clear e1 m1
      show pw_V x m_X7_feast 4 Z 44 [(0, .ref 0)] [.int (nI (pw_wrs (pw_rem mm)))] (pw_rem mm)
      refine pw_blk (pc' := 47) [.istore 1, .aload 0, .iload 1] (by decide +kernel) ?_
      show pw_V x m_X7_feast 4 Z 47 [(1, .int (nI (pw_wrs (pw_rem mm)))), (0, .ref 0)] [.int (nI (pw_wrs (pw_rem mm))), .ref 0] (pw_rem mm)
      refine pw_cV (vs := [.int (nI (pw_wrs (pw_rem mm)))]) (rest := []) k_X7_changeRenown (c_changeRenown (pw_wrs (pw_rem mm)) (pw_rem mm) hok1 (by omega)) l_7_175 rfl rfl rfl rfl (by decide) (Nat.le_of_ble_eq_true rfl) (by decide +kernel) ?_
      rintro _ m1 ⟨rfl, e1⟩
      rw [e1]
      clear e1 m1
      show pw_V x m_X7_feast 4 Z 50 [(1, .int (nI (pw_wrs (pw_rem mm)))), (0, .ref 0)] [] (pw_f2 mm)
      refine pw_blk (pc' := 51) [.aload 0] (by decide +kernel) ?_
      show pw_V x m_X7_feast 4 Z 51 [(1, .int (nI (pw_wrs (pw_rem mm)))), (0, .ref 0)] [.ref 0] (pw_f2 mm)
      refine pw_cV (vs := []) (rest := []) k_X7_spreadNews (c_spreadNews (pw_f2 mm) hok2) l_7_178 rfl rfl rfl rfl (by decide) (Nat.le_of_ble_eq_true rfl) (by decide +kernel) ?_
      rintro _ m1 ⟨rfl, e1⟩
      rw [e1]
      clear e1 m1
      show pw_V x m_X7_feast 4 Z 54 [(1, .int (nI (pw_wrs (pw_rem mm)))), (0, .ref 0)] [] (pw_f3 mm)
      refine pw_blk (pc' := 69) [.aload 0, .getfield 702, .dup, .getfield 1, .iload 1, .iconst (-1), .ixor, .iand, .putfield 1] (by decide +kernel) ?_
      show pw_V x m_X7_feast 4 Z 69 [(1, .int (nI (pw_wrs (pw_rem mm)))), (0, .ref 0)] [] (pw_up (pw_f3 mm) 42 1 (((pw_f3 mm) 42 1) &&& ((nI (pw_wrs (pw_rem mm))) ^^^ (-1))))
      rw [show (pw_f3 mm) 42 1 = nI (pw_g (pw_f3 mm) 42 1) from pw_q421 hok3]
      have b3 := pw_b421' hok3
      rw [pw_anN _ b3 _ bw]
      show pw_V x m_X7_feast 4 Z 69 [(1, .int (nI (pw_wrs (pw_rem mm)))), (0, .ref 0)] [] (pw_f4 mm)
      refine pw_blk (pc' := 73) [.aload 0, .getfield 702] (by decide +kernel) ?_
      show pw_V x m_X7_feast 4 Z 73 [(1, .int (nI (pw_wrs (pw_rem mm)))), (0, .ref 0)] [.ref 42] (pw_f4 mm)
      refine pw_cV (vs := []) (rest := []) k_X0_allRise (c_allRise (pw_f4 mm)) l_7_166 rfl rfl rfl rfl (by decide) (Nat.le_of_ble_eq_true rfl) (by decide +kernel) ?_
      rintro _ m1 ⟨rfl, e1⟩
      rw [e1]
      clear e1 m1
      show pw_V x m_X7_feast 4 Z 76 [(1, .int (nI (pw_wrs (pw_rem mm)))), (0, .ref 0)] [] (pw_f5 mm)
      refine pw_blk (pc' := 90) [.aload 0, .getfield 702, .dup, .getfield 0, .iconst 1, .iadd, .putfield 0, .iload 1] (by decide +kernel) ?_
      show pw_V x m_X7_feast 4 Z 90 [(1, .int (nI (pw_wrs (pw_rem mm)))), (0, .ref 0)] [.int (nI (pw_wrs (pw_rem mm)))] (pw_up (pw_f5 mm) 42 0 (((pw_f5 mm) 42 0) + (nI 1)))
      rw [show (pw_f5 mm) 42 0 = nI (pw_g (pw_f5 mm) 42 0) from pw_q420 hok5]
      rw [show (nI (pw_g (pw_f5 mm) 42 0)) + (nI 1) = nI ((pw_g (pw_f5 mm) 42 0) + 1) from nI_add _ _]
      rw [← hZ]
      refine pw_ri (by decide +kernel) ?_
      constructor
      · simp [F_feast, h7, h23]
      · simp only [G_feast, if_neg h7, if_pos h23]; rfl
    · refine pw_blk (pc' := 28) [.iconst (-5)] (by decide +kernel) ?_
      show pw_V x m_X7_feast 4 Z 28 [(0, .ref 0)] [.int (-5)] mm
      rw [← hZ]
      refine pw_ri (by decide +kernel) ?_
      constructor
      · simp [F_feast, h7, show ¬ pw_g mm 42 0 < 999 by omega]
      · simp [G_feast, h7, show ¬ pw_g mm 42 0 < 999 by omega]
  · refine pw_blk (pc' := 12) [.iconst (-4)] (by decide +kernel) ?_
    show pw_V x m_X7_feast 4 Z 12 [(0, .ref 0)] [.int (-4)] mm
    rw [← hZ]
    refine pw_ri (by decide +kernel) ?_
    constructor
    · simp [F_feast, h7]
    · simp [G_feast, h7]
