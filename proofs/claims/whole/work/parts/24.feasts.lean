def F_sit (A : pw_m) (k s : Int32) : Int32 := if pw_inr k (pw_k A) = true ∧ pw_inr s (pw_n A) = true then (if (pw_g A 42 1).testBit (pw_c k) = true ∧ pw_pl A (pw_c k) = none ∧ pw_si A (pw_c s) = none then nI (pw_pc (pw_sb (pw_up (pw_rem A) 45 (pw_c k) s))) else -4) else -2
def G_sit (A : pw_m) (k s : Int32) : pw_m := if (pw_inr k (pw_k A) = true ∧ pw_inr s (pw_n A) = true) ∧ (pw_g A 42 1).testBit (pw_c k) = true ∧ pw_pl A (pw_c k) = none ∧ pw_si A (pw_c s) = none then pw_up (pw_rem A) 45 (pw_c k) s else A
def F_tell (A : pw_m) (k w : Int32) : Int32 := if pw_inr k (pw_k A) then (if pw_inr w 4 then (if (pw_g A 42 1).testBit (pw_c k) then nI (pw_g (pw_rem A) 44 (pw_c k) ||| 2 ^ pw_c w) else -4) else -3) else -2
def G_tell (A : pw_m) (k w : Int32) : pw_m := if pw_inr k (pw_k A) = true ∧ pw_inr w 4 = true ∧ (pw_g A 42 1).testBit (pw_c k) = true then pw_up (pw_rem A) 44 (pw_c k) (nI (pw_g (pw_rem A) 44 (pw_c k) ||| 2 ^ pw_c w)) else A
def F_undo (A : pw_m) : Int32 := if pw_g A 11 2 = 0 then -4 else nI (pw_g A 11 2 - 1)
def G_undo (A : pw_m) : pw_m := if pw_g A 11 2 = 0 then A else pw_rec A
def F_keep (A : pw_m) (k : Int32) : Int32 := if pw_inr k 2 then A 42 0 else -2
def G_keep (A : pw_m) (k : Int32) : pw_m := if pw_inr k 2 then pw_kp A (pw_c k) else A
def F_back (A : pw_m) (k : Int32) : Int32 := if pw_inr k 2 then (if (pw_g A 11 3).testBit (pw_c k) then A (78 + 4 * pw_c k) 0 else -4) else -2
def G_back (A : pw_m) (k : Int32) : pw_m := if pw_inr k 2 = true ∧ (pw_g A 11 3).testBit (pw_c k) = true then pw_bk_ A (pw_c k) else A

set_option maxHeartbeats 4000000 in
set_option maxRecDepth 100000 in
theorem c_sit (k s : Int32) (mm : pw_m) (hok : pw_ok mm) : pw_Ct 2 yX7_sit m_X7_sit [.ref 0, .int k, .int s] mm (fun r m' => r = some (.int (F_sit mm k s)) ∧ m' = G_sit mm k s) := by
  refine pw_ct (by decide +kernel) rfl (Nat.le_of_ble_eq_true rfl) (fun x => ?_)
  generalize hZ : pw_Z x _ = Z
  have bn := pw_bn hok
  have bk := pw_bk hok
  have bt := pw_b421' hok
  have bx := pw_b114 hok
  have hok1 := pw_ok_rem hok
  have hT : ∀ c, 4 ≤ c → c ≤ 10 → pw_rem mm c = mm c := fun c h1 h2 => pw_rem_o bx (by omega) (by omega)
  show pw_V x m_X7_sit 2 Z 0 [(0, .ref 0), (1, .int k), (2, .int s)] [] mm
  refine pw_blk (pc' := 2) [.aload 0, .iload 1] (by decide +kernel) ?_
  show pw_V x m_X7_sit 2 Z 2 [(0, .ref 0), (1, .int k), (2, .int s)] [.int k, .ref 0] mm
  refine pw_cV (vs := [.int k]) (rest := []) k_X7_isKnight (c_isKnight k mm hok) l_7_106 rfl rfl rfl rfl (by decide) (Nat.le_of_ble_eq_true rfl) (by decide +kernel) ?_
  rintro _ m1 ⟨rfl, e1⟩
  rw [e1]
  clear e1 m1
  show pw_V x m_X7_sit 2 Z 5 [(0, .ref 0), (1, .int k), (2, .int s)] [.int (pw_b (pw_inr k (pw_k mm)))] mm
  refine pw_ib_eq (tgt := 16) (off := 11) (by decide +kernel) (by decide) (fun h5 => ?_) (fun h5 => ?_)
  · refine pw_blk (pc' := 18) [.iconst (-2)] (by decide +kernel) ?_
    show pw_V x m_X7_sit 2 Z 18 [(0, .ref 0), (1, .int k), (2, .int s)] [.int (-2)] mm
    rw [← hZ]
    refine pw_ri (by decide +kernel) ?_
    constructor
    · simp [F_sit, h5]
    · simp [G_sit, h5]
  · obtain ⟨j5, b5, e5⟩ := pw_inr_t (by omega) h5
    subst e5
    refine pw_blk (pc' := 10) [.aload 0, .iload 2] (by decide +kernel) ?_
    show pw_V x m_X7_sit 2 Z 10 [(0, .ref 0), (1, .int (nI j5)), (2, .int s)] [.int s, .ref 0] mm
    refine pw_cV (vs := [.int s]) (rest := []) k_X7_isSeat (c_isSeat s mm hok) l_7_86 rfl rfl rfl rfl (by decide) (Nat.le_of_ble_eq_true rfl) (by decide +kernel) ?_
    rintro _ m1 ⟨rfl, e1⟩
    rw [e1]
    clear e1 m1
    show pw_V x m_X7_sit 2 Z 13 [(0, .ref 0), (1, .int (nI j5)), (2, .int s)] [.int (pw_b (pw_inr s (pw_n mm)))] mm
    refine pw_ib_ne (tgt := 19) (off := 6) (by decide +kernel) (by decide) (fun h13 => ?_) (fun h13 => ?_)
    · obtain ⟨j13, b13, e13⟩ := pw_inr_t (by omega) h13
      subst e13
      refine pw_blk (pc' := 27) [.aload 0, .getfield 702, .getfield 1, .iload 1] (by decide +kernel) ?_
      show pw_V x m_X7_sit 2 Z 27 [(0, .ref 0), (1, .int (nI j5)), (2, .int (nI j13))] [.int (nI j5), .int (mm 42 1)] mm
      rw [show mm 42 1 = nI (pw_g mm 42 1) from pw_q421 hok]
      refine pw_cS (vs := [.int (nI (pw_g mm 42 1)), .int (nI j5)]) (rest := []) k_X7_has (c_has (nI (pw_g mm 42 1)) (nI j5) mm) l_7_124 rfl (by decide) (Nat.le_of_ble_eq_true rfl) (by decide +kernel) ?_
      rintro _ m1 ⟨rfl, e1⟩
      rw [e1]
      clear e1 m1
      show pw_V x m_X7_sit 2 Z 30 [(0, .ref 0), (1, .int (nI j5)), (2, .int (nI j13))] [.int (pw_b (pw_hs (nI (pw_g mm 42 1)) (nI j5)))] mm
      rw [pw_hs_n (by omega) (by omega)]
      refine pw_ib_eq (tgt := 58) (off := 28) (by decide +kernel) (by decide) (fun h30 => ?_) (fun h30 => ?_)
      · refine pw_blk (pc' := 60) [.iconst (-4)] (by decide +kernel) ?_
        show pw_V x m_X7_sit 2 Z 60 [(0, .ref 0), (1, .int (nI j5)), (2, .int (nI j13))] [.int (-4)] mm
        rw [← hZ]
        refine pw_ri (by decide +kernel) ?_
        constructor
        · simp [F_sit, pw_inr_nI (show j5 < 2 ^ 31 by omega) (show pw_k mm < 2 ^ 31 by omega), pw_c_nI (show j5 < 2 ^ 31 by omega), b5, pw_inr_nI (show j13 < 2 ^ 31 by omega) (show pw_n mm < 2 ^ 31 by omega), pw_c_nI (show j13 < 2 ^ 31 by omega), b13, h5, h13, h30]
        · simp [G_sit, pw_inr_nI (show j5 < 2 ^ 31 by omega) (show pw_k mm < 2 ^ 31 by omega), pw_c_nI (show j5 < 2 ^ 31 by omega), b5, pw_inr_nI (show j13 < 2 ^ 31 by omega) (show pw_n mm < 2 ^ 31 by omega), pw_c_nI (show j13 < 2 ^ 31 by omega), b13, h5, h13, h30]
      · refine pw_blk (pc' := 43) [.aload 0, .getfield 702, .getfield 4, .iload 1, .iaload, .iconst (-1)] (by decide +kernel) ?_
        refine ⟨j5, rfl, by omega, ?_⟩
        show pw_V x m_X7_sit 2 Z 43 [(0, .ref 0), (1, .int (nI j5)), (2, .int (nI j13))] [.int (-1), .int (mm 45 j5)] mm
        rw [show mm 45 j5 = pw_o (pw_pl mm j5) from pw_q45 hok (by omega)]
        rcases h43 : pw_pl mm j5 with _ | s43
        · show pw_V x m_X7_sit 2 Z 43 [(0, .ref 0), (1, .int (nI j5)), (2, .int (nI j13))] [.int (-1), .int (-1)] mm
          refine pw_ic_ne (tgt := 58) (off := 15) (by decide +kernel) (by decide) (fun h => absurd rfl h) (fun _ => ?_)
          refine pw_blk (pc' := 51) [.aload 0, .getfield 702, .iload 2] (by decide +kernel) ?_
          show pw_V x m_X7_sit 2 Z 51 [(0, .ref 0), (1, .int (nI j5)), (2, .int (nI j13))] [.int (nI j13), .ref 42] mm
          refine pw_cV (vs := [.int (nI j13)]) (rest := []) k_X0_whoSitsOn (c_whoSitsOn j13 mm hok (by omega)) l_7_96 rfl rfl rfl rfl (by decide) (Nat.le_of_ble_eq_true rfl) (by decide +kernel) ?_
          rintro _ m1 ⟨rfl, e1⟩
          rw [e1]
          clear e1 m1
          show pw_V x m_X7_sit 2 Z 54 [(0, .ref 0), (1, .int (nI j5)), (2, .int (nI j13))] [.int (pw_o (pw_si mm j13))] mm
          refine pw_blk (pc' := 55) [.iconst (-1)] (by decide +kernel) ?_
          show pw_V x m_X7_sit 2 Z 55 [(0, .ref 0), (1, .int (nI j5)), (2, .int (nI j13))] [.int (-1), .int (pw_o (pw_si mm j13))] mm
          rcases h55 : pw_si mm j13 with _ | s55
          · show pw_V x m_X7_sit 2 Z 55 [(0, .ref 0), (1, .int (nI j5)), (2, .int (nI j13))] [.int (-1), .int (-1)] mm
            refine pw_ic_eq (tgt := 61) (off := 6) (by decide +kernel) (by decide) (fun _ => ?_) (fun h => absurd rfl h)
            refine pw_blk (pc' := 69) [.aload 0, .getfield 703, .aload 0, .getfield 702] (by decide +kernel) ?_
            show pw_V x m_X7_sit 2 Z 69 [(0, .ref 0), (1, .int (nI j5)), (2, .int (nI j13))] [.ref 42, .ref 11] mm
            refine pw_cV (vs := [.ref 42]) (rest := []) k_X1_remember (c_remember mm hok) l_7_153 rfl rfl rfl rfl (by decide) (Nat.le_of_ble_eq_true rfl) (by decide +kernel) ?_
            rintro _ m1 ⟨rfl, e1⟩
            rw [e1]
            clear e1 m1
            show pw_V x m_X7_sit 2 Z 72 [(0, .ref 0), (1, .int (nI j5)), (2, .int (nI j13))] [] (pw_rem mm)
            refine pw_blk (pc' := 82) [.aload 0, .getfield 702, .getfield 4, .iload 1, .iload 2, .iastore] (by decide +kernel) ?_
            refine ⟨j5, rfl, by omega, ?_⟩
            show pw_V x m_X7_sit 2 Z 82 [(0, .ref 0), (1, .int (nI j5)), (2, .int (nI j13))] [] (pw_up (pw_rem mm) 45 j5 (nI j13))
            have hok2 : pw_ok (pw_up (pw_rem mm) 45 j5 (nI j13)) := pw_ok_sit hok1 (by rw [pw_k_c (A := mm) hT]; exact b5) (by rw [pw_n_c (A := mm) hT]; exact b13) (by show pw_oc (pw_rem mm 45 j5) = none; rw [pw_rem_o bx (by omega) (by omega)]; exact h43) (by have e : pw_si (pw_rem mm) j13 = pw_si mm j13 := (by unfold pw_si pw_pl; rw [pw_rem_o bx (by omega) (by omega)]); rw [e]; exact h55)
            have bs := pw_sb_lt (A := pw_up (pw_rem mm) 45 j5 (nI j13))
            refine pw_blk (pc' := 86) [.aload 0, .getfield 702] (by decide +kernel) ?_
            show pw_V x m_X7_sit 2 Z 86 [(0, .ref 0), (1, .int (nI j5)), (2, .int (nI j13))] [.ref 42] (pw_up (pw_rem mm) 45 j5 (nI j13))
            refine pw_cV (vs := []) (rest := []) k_X0_whoSit (c_whoSit (pw_up (pw_rem mm) 45 j5 (nI j13)) hok2) l_7_157 rfl rfl rfl rfl (by decide) (Nat.le_of_ble_eq_true rfl) (by decide +kernel) ?_
            rintro _ m1 ⟨rfl, e1⟩
            rw [e1]
            clear e1 m1
            show pw_V x m_X7_sit 2 Z 89 [(0, .ref 0), (1, .int (nI j5)), (2, .int (nI j13))] [.int (nI (pw_sb (pw_up (pw_rem mm) 45 j5 (nI j13))))] (pw_up (pw_rem mm) 45 j5 (nI j13))
            refine pw_cS (vs := [.int (nI (pw_sb (pw_up (pw_rem mm) 45 j5 (nI j13))))]) (rest := []) k_J6_bitCount_0f7a4 (c_bitCount (nI (pw_sb (pw_up (pw_rem mm) 45 j5 (nI j13)))) (pw_up (pw_rem mm) 45 j5 (nI j13))) l_7_161 rfl (by decide) (Nat.le_of_ble_eq_true rfl) (by decide +kernel) ?_
            rintro _ m1 ⟨rfl, e1⟩
            rw [e1]
            clear e1 m1
            show pw_V x m_X7_sit 2 Z 92 [(0, .ref 0), (1, .int (nI j5)), (2, .int (nI j13))] [.int (pw_bc (nI (pw_sb (pw_up (pw_rem mm) 45 j5 (nI j13)))))] (pw_up (pw_rem mm) 45 j5 (nI j13))
            rw [pw_bcN _ (by omega)]
            rw [← hZ]
            refine pw_ri (by decide +kernel) ?_
            constructor
            · simp [F_sit, pw_inr_nI (show j5 < 2 ^ 31 by omega) (show pw_k mm < 2 ^ 31 by omega), pw_c_nI (show j5 < 2 ^ 31 by omega), b5, pw_inr_nI (show j13 < 2 ^ 31 by omega) (show pw_n mm < 2 ^ 31 by omega), pw_c_nI (show j13 < 2 ^ 31 by omega), b13, h5, h13, h30, h43, h55]
            · simp [G_sit, pw_inr_nI (show j5 < 2 ^ 31 by omega) (show pw_k mm < 2 ^ 31 by omega), pw_c_nI (show j5 < 2 ^ 31 by omega), b5, pw_inr_nI (show j13 < 2 ^ 31 by omega) (show pw_n mm < 2 ^ 31 by omega), pw_c_nI (show j13 < 2 ^ 31 by omega), b13, h5, h13, h30, h43, h55]
          · show pw_V x m_X7_sit 2 Z 55 [(0, .ref 0), (1, .int (nI j5)), (2, .int (nI j13))] [.int (-1), .int (nI s55)] mm
            have b55 := pw_si_lt h55
            refine pw_ic_eq (tgt := 61) (off := 6) (by decide +kernel) (by decide) (fun h => absurd h (pw_n1 (by omega))) (fun _ => ?_)
            refine pw_blk (pc' := 60) [.iconst (-4)] (by decide +kernel) ?_
            show pw_V x m_X7_sit 2 Z 60 [(0, .ref 0), (1, .int (nI j5)), (2, .int (nI j13))] [.int (-4)] mm
            rw [← hZ]
            refine pw_ri (by decide +kernel) ?_
            constructor
            · simp [F_sit, pw_inr_nI (show j5 < 2 ^ 31 by omega) (show pw_k mm < 2 ^ 31 by omega), pw_c_nI (show j5 < 2 ^ 31 by omega), b5, pw_inr_nI (show j13 < 2 ^ 31 by omega) (show pw_n mm < 2 ^ 31 by omega), pw_c_nI (show j13 < 2 ^ 31 by omega), b13, h5, h13, h30, h43, h55]
            · simp [G_sit, pw_inr_nI (show j5 < 2 ^ 31 by omega) (show pw_k mm < 2 ^ 31 by omega), pw_c_nI (show j5 < 2 ^ 31 by omega), b5, pw_inr_nI (show j13 < 2 ^ 31 by omega) (show pw_n mm < 2 ^ 31 by omega), pw_c_nI (show j13 < 2 ^ 31 by omega), b13, h5, h13, h30, h43, h55]
        · show pw_V x m_X7_sit 2 Z 43 [(0, .ref 0), (1, .int (nI j5)), (2, .int (nI j13))] [.int (-1), .int (nI s43)] mm
          have b43 := pw_b45 hok (show j5 < 6 by omega) h43
          refine pw_ic_ne (tgt := 58) (off := 15) (by decide +kernel) (by decide) (fun _ => ?_) (fun h => absurd h (pw_n1 (by omega)))
          refine pw_blk (pc' := 60) [.iconst (-4)] (by decide +kernel) ?_
          show pw_V x m_X7_sit 2 Z 60 [(0, .ref 0), (1, .int (nI j5)), (2, .int (nI j13))] [.int (-4)] mm
          rw [← hZ]
          refine pw_ri (by decide +kernel) ?_
          constructor
          · simp [F_sit, pw_inr_nI (show j5 < 2 ^ 31 by omega) (show pw_k mm < 2 ^ 31 by omega), pw_c_nI (show j5 < 2 ^ 31 by omega), b5, pw_inr_nI (show j13 < 2 ^ 31 by omega) (show pw_n mm < 2 ^ 31 by omega), pw_c_nI (show j13 < 2 ^ 31 by omega), b13, h5, h13, h30, h43]
          · simp [G_sit, pw_inr_nI (show j5 < 2 ^ 31 by omega) (show pw_k mm < 2 ^ 31 by omega), pw_c_nI (show j5 < 2 ^ 31 by omega), b5, pw_inr_nI (show j13 < 2 ^ 31 by omega) (show pw_n mm < 2 ^ 31 by omega), pw_c_nI (show j13 < 2 ^ 31 by omega), b13, h5, h13, h30, h43]
    · refine pw_blk (pc' := 18) [.iconst (-2)] (by decide +kernel) ?_
      show pw_V x m_X7_sit 2 Z 18 [(0, .ref 0), (1, .int (nI j5)), (2, .int s)] [.int (-2)] mm
      rw [← hZ]
      refine pw_ri (by decide +kernel) ?_
      constructor
      · simp [F_sit, pw_inr_nI (show j5 < 2 ^ 31 by omega) (show pw_k mm < 2 ^ 31 by omega), pw_c_nI (show j5 < 2 ^ 31 by omega), b5, h5, h13]
      · simp [G_sit, pw_inr_nI (show j5 < 2 ^ 31 by omega) (show pw_k mm < 2 ^ 31 by omega), pw_c_nI (show j5 < 2 ^ 31 by omega), b5, h5, h13]

set_option maxHeartbeats 4000000 in
set_option maxRecDepth 100000 in
theorem c_rise (mm : pw_m) (hok : pw_ok mm) : pw_Ct 2 yX7_rise m_X7_rise [.ref 0] mm (fun r m' => r = some (.int (nI (pw_pc (pw_sb mm)))) ∧ m' = pw_rsI (pw_rem mm) 6) := by
  refine pw_ct (by decide +kernel) rfl (Nat.le_of_ble_eq_true rfl) (fun x => ?_)
  generalize hZ : pw_Z x _ = Z
  have bn := pw_bn hok
  have bk := pw_bk hok
  have bt := pw_b421' hok
  have bx := pw_b114 hok
  have hok1 := pw_ok_rem hok
  have hT : ∀ c, 4 ≤ c → c ≤ 10 → pw_rem mm c = mm c := fun c h1 h2 => pw_rem_o bx (by omega) (by omega)
  have bs := pw_sb_lt (A := mm)
  show pw_V x m_X7_rise 2 Z 0 [(0, .ref 0)] [] mm
  refine pw_blk (pc' := 4) [.aload 0, .getfield 702] (by decide +kernel) ?_
  show pw_V x m_X7_rise 2 Z 4 [(0, .ref 0)] [.ref 42] mm
  refine pw_cV (vs := []) (rest := []) k_X0_whoSit (c_whoSit mm hok) l_7_157 rfl rfl rfl rfl (by decide) (Nat.le_of_ble_eq_true rfl) (by decide +kernel) ?_
  rintro _ m1 ⟨rfl, e1⟩
  rw [e1]
  clear e1 m1
  show pw_V x m_X7_rise 2 Z 7 [(0, .ref 0)] [.int (nI (pw_sb mm))] mm
  refine pw_cS (vs := [.int (nI (pw_sb mm))]) (rest := []) k_J6_bitCount_0f7a4 (c_bitCount (nI (pw_sb mm)) mm) l_7_161 rfl (by decide) (Nat.le_of_ble_eq_true rfl) (by decide +kernel) ?_
  rintro _ m1 ⟨rfl, e1⟩
  rw [e1]
  clear e1 m1
  show pw_V x m_X7_rise 2 Z 10 [(0, .ref 0)] [.int (pw_bc (nI (pw_sb mm)))] mm
  rw [pw_bcN _ (by omega)]
  refine pw_blk (pc' := 19) [.istore 1, .aload 0, .getfield 703, .aload 0, .getfield 702] (by decide +kernel) ?_
  show pw_V x m_X7_rise 2 Z 19 [(1, .int (nI (pw_pc (pw_sb mm)))), (0, .ref 0)] [.ref 42, .ref 11] mm
  refine pw_cV (vs := [.ref 42]) (rest := []) k_X1_remember (c_remember mm hok) l_7_153 rfl rfl rfl rfl (by decide) (Nat.le_of_ble_eq_true rfl) (by decide +kernel) ?_
  rintro _ m1 ⟨rfl, e1⟩
  rw [e1]
  clear e1 m1
  show pw_V x m_X7_rise 2 Z 22 [(1, .int (nI (pw_pc (pw_sb mm)))), (0, .ref 0)] [] (pw_rem mm)
  refine pw_blk (pc' := 26) [.aload 0, .getfield 702] (by decide +kernel) ?_
  show pw_V x m_X7_rise 2 Z 26 [(1, .int (nI (pw_pc (pw_sb mm)))), (0, .ref 0)] [.ref 42] (pw_rem mm)
  refine pw_cV (vs := []) (rest := []) k_X0_allRise (c_allRise (pw_rem mm)) l_7_166 rfl rfl rfl rfl (by decide) (Nat.le_of_ble_eq_true rfl) (by decide +kernel) ?_
  rintro _ m1 ⟨rfl, e1⟩
  rw [e1]
  clear e1 m1
  show pw_V x m_X7_rise 2 Z 29 [(1, .int (nI (pw_pc (pw_sb mm)))), (0, .ref 0)] [] (pw_rsI (pw_rem mm) 6)
  refine pw_blk (pc' := 30) [.iload 1] (by decide +kernel) ?_
  show pw_V x m_X7_rise 2 Z 30 [(1, .int (nI (pw_pc (pw_sb mm)))), (0, .ref 0)] [.int (nI (pw_pc (pw_sb mm)))] (pw_rsI (pw_rem mm) 6)
  rw [← hZ]
  refine pw_ri (by decide +kernel) ?_
  exact ⟨rfl, rfl⟩

set_option maxHeartbeats 4000000 in
set_option maxRecDepth 100000 in
theorem c_tell (k w : Int32) (mm : pw_m) (hok : pw_ok mm) : pw_Ct 2 yX7_tell m_X7_tell [.ref 0, .int k, .int w] mm (fun r m' => r = some (.int (F_tell mm k w)) ∧ m' = G_tell mm k w) := by
  refine pw_ct (by decide +kernel) rfl (Nat.le_of_ble_eq_true rfl) (fun x => ?_)
  generalize hZ : pw_Z x _ = Z
  have bn := pw_bn hok
  have bk := pw_bk hok
  have bt := pw_b421' hok
  have bx := pw_b114 hok
  have hok1 := pw_ok_rem hok
  have hT : ∀ c, 4 ≤ c → c ≤ 10 → pw_rem mm c = mm c := fun c h1 h2 => pw_rem_o bx (by omega) (by omega)
  show pw_V x m_X7_tell 2 Z 0 [(0, .ref 0), (1, .int k), (2, .int w)] [] mm
  refine pw_blk (pc' := 2) [.aload 0, .iload 1] (by decide +kernel) ?_
  show pw_V x m_X7_tell 2 Z 2 [(0, .ref 0), (1, .int k), (2, .int w)] [.int k, .ref 0] mm
  refine pw_cV (vs := [.int k]) (rest := []) k_X7_isKnight (c_isKnight k mm hok) l_7_106 rfl rfl rfl rfl (by decide) (Nat.le_of_ble_eq_true rfl) (by decide +kernel) ?_
  rintro _ m1 ⟨rfl, e1⟩
  rw [e1]
  clear e1 m1
  show pw_V x m_X7_tell 2 Z 5 [(0, .ref 0), (1, .int k), (2, .int w)] [.int (pw_b (pw_inr k (pw_k mm)))] mm
  refine pw_ib_ne (tgt := 11) (off := 6) (by decide +kernel) (by decide) (fun h5 => ?_) (fun h5 => ?_)
  · obtain ⟨j5, b5, e5⟩ := pw_inr_t (by omega) h5
    subst e5
    refine pw_blk (pc' := 12) [.iload 2] (by decide +kernel) ?_
    show pw_V x m_X7_tell 2 Z 12 [(0, .ref 0), (1, .int (nI j5)), (2, .int w)] [.int w] mm
    refine pw_cS (vs := [.int w]) (rest := []) k_X7_isNews (c_isNews w mm) l_7_169 rfl (by decide) (Nat.le_of_ble_eq_true rfl) (by decide +kernel) ?_
    rintro _ m1 ⟨rfl, e1⟩
    rw [e1]
    clear e1 m1
    show pw_V x m_X7_tell 2 Z 15 [(0, .ref 0), (1, .int (nI j5)), (2, .int w)] [.int (pw_b (pw_inr w 4))] mm
    refine pw_ib_ne (tgt := 21) (off := 6) (by decide +kernel) (by decide) (fun h15 => ?_) (fun h15 => ?_)
    · obtain ⟨j15, b15, e15⟩ := pw_inr_t (by omega) h15
      subst e15
      refine pw_blk (pc' := 29) [.aload 0, .getfield 702, .getfield 1, .iload 1] (by decide +kernel) ?_
      show pw_V x m_X7_tell 2 Z 29 [(0, .ref 0), (1, .int (nI j5)), (2, .int (nI j15))] [.int (nI j5), .int (mm 42 1)] mm
      rw [show mm 42 1 = nI (pw_g mm 42 1) from pw_q421 hok]
      refine pw_cS (vs := [.int (nI (pw_g mm 42 1)), .int (nI j5)]) (rest := []) k_X7_has (c_has (nI (pw_g mm 42 1)) (nI j5) mm) l_7_124 rfl (by decide) (Nat.le_of_ble_eq_true rfl) (by decide +kernel) ?_
      rintro _ m1 ⟨rfl, e1⟩
      rw [e1]
      clear e1 m1
      show pw_V x m_X7_tell 2 Z 32 [(0, .ref 0), (1, .int (nI j5)), (2, .int (nI j15))] [.int (pw_b (pw_hs (nI (pw_g mm 42 1)) (nI j5)))] mm
      rw [pw_hs_n (by omega) (by omega)]
      refine pw_ib_ne (tgt := 38) (off := 6) (by decide +kernel) (by decide) (fun h32 => ?_) (fun h32 => ?_)
      · refine pw_blk (pc' := 46) [.aload 0, .getfield 703, .aload 0, .getfield 702] (by decide +kernel) ?_
        show pw_V x m_X7_tell 2 Z 46 [(0, .ref 0), (1, .int (nI j5)), (2, .int (nI j15))] [.ref 42, .ref 11] mm
        refine pw_cV (vs := [.ref 42]) (rest := []) k_X1_remember (c_remember mm hok) l_7_153 rfl rfl rfl rfl (by decide) (Nat.le_of_ble_eq_true rfl) (by decide +kernel) ?_
        rintro _ m1 ⟨rfl, e1⟩
        rw [e1]
        clear e1 m1
        show pw_V x m_X7_tell 2 Z 49 [(0, .ref 0), (1, .int (nI j5)), (2, .int (nI j15))] [] (pw_rem mm)
        refine pw_blk (pc' := 73) [.aload 0, .getfield 702, .getfield 3, .iload 1, .dup2, .iaload, .iconst 1, .iload 2, .ishl, .ior, .iastore, .aload 0, .getfield 702, .getfield 3, .iload 1, .iaload] (by decide +kernel) ?_
        refine ⟨j5, rfl, by omega, ?_⟩
        refine ⟨j5, rfl, by omega, ?_⟩
        refine ⟨j5, rfl, by omega, ?_⟩
        show pw_V x m_X7_tell 2 Z 73 [(0, .ref 0), (1, .int (nI j5)), (2, .int (nI j15))] [.int ((pw_up (pw_rem mm) 44 j5 (((pw_rem mm) 44 j5) ||| ((nI 1) <<< ((nI j15) &&& 31)))) 44 j5)] (pw_up (pw_rem mm) 44 j5 (((pw_rem mm) 44 j5) ||| ((nI 1) <<< ((nI j15) &&& 31))))
        rw [show (pw_rem mm) 44 j5 = nI (pw_g (pw_rem mm) 44 j5) from pw_q44 hok1 (by omega)]
        rw [show (nI 1) <<< ((nI j15) &&& 31) = nI (2 ^ j15) from pw_shl1 (by omega)]
        rw [show (nI (pw_g (pw_rem mm) 44 j5)) ||| (nI (2 ^ j15)) = nI ((pw_g (pw_rem mm) 44 j5) ||| (2 ^ j15)) from fa_or _ _]
        rw [show (pw_up (pw_rem mm) 44 j5 (nI ((pw_g (pw_rem mm) 44 j5) ||| (2 ^ j15)))) 44 j5 = nI ((pw_g (pw_rem mm) 44 j5) ||| (2 ^ j15)) from pw_up_gs]
        rw [← hZ]
        refine pw_ri (by decide +kernel) ?_
        constructor
        · simp [F_tell, pw_inr_nI (show j5 < 2 ^ 31 by omega) (show pw_k mm < 2 ^ 31 by omega), pw_c_nI (show j5 < 2 ^ 31 by omega), b5, pw_inr_nI (show j15 < 2 ^ 31 by omega) (show 4 < 2 ^ 31 by omega), pw_c_nI (show j15 < 2 ^ 31 by omega), b15, h5, h15, h32]
        · simp [G_tell, pw_inr_nI (show j5 < 2 ^ 31 by omega) (show pw_k mm < 2 ^ 31 by omega), pw_c_nI (show j5 < 2 ^ 31 by omega), b5, pw_inr_nI (show j15 < 2 ^ 31 by omega) (show 4 < 2 ^ 31 by omega), pw_c_nI (show j15 < 2 ^ 31 by omega), b15, h5, h15, h32]
      · refine pw_blk (pc' := 37) [.iconst (-4)] (by decide +kernel) ?_
        show pw_V x m_X7_tell 2 Z 37 [(0, .ref 0), (1, .int (nI j5)), (2, .int (nI j15))] [.int (-4)] mm
        rw [← hZ]
        refine pw_ri (by decide +kernel) ?_
        constructor
        · simp [F_tell, pw_inr_nI (show j5 < 2 ^ 31 by omega) (show pw_k mm < 2 ^ 31 by omega), pw_c_nI (show j5 < 2 ^ 31 by omega), b5, pw_inr_nI (show j15 < 2 ^ 31 by omega) (show 4 < 2 ^ 31 by omega), pw_c_nI (show j15 < 2 ^ 31 by omega), b15, h5, h15, h32]
        · simp [G_tell, pw_inr_nI (show j5 < 2 ^ 31 by omega) (show pw_k mm < 2 ^ 31 by omega), pw_c_nI (show j5 < 2 ^ 31 by omega), b5, pw_inr_nI (show j15 < 2 ^ 31 by omega) (show 4 < 2 ^ 31 by omega), pw_c_nI (show j15 < 2 ^ 31 by omega), b15, h5, h15, h32]
    · refine pw_blk (pc' := 20) [.iconst (-3)] (by decide +kernel) ?_
      show pw_V x m_X7_tell 2 Z 20 [(0, .ref 0), (1, .int (nI j5)), (2, .int w)] [.int (-3)] mm
      rw [← hZ]
      refine pw_ri (by decide +kernel) ?_
      constructor
      · simp [F_tell, pw_inr_nI (show j5 < 2 ^ 31 by omega) (show pw_k mm < 2 ^ 31 by omega), pw_c_nI (show j5 < 2 ^ 31 by omega), b5, h5, h15]
      · simp [G_tell, pw_inr_nI (show j5 < 2 ^ 31 by omega) (show pw_k mm < 2 ^ 31 by omega), pw_c_nI (show j5 < 2 ^ 31 by omega), b5, h5, h15]
  · refine pw_blk (pc' := 10) [.iconst (-2)] (by decide +kernel) ?_
    show pw_V x m_X7_tell 2 Z 10 [(0, .ref 0), (1, .int k), (2, .int w)] [.int (-2)] mm
    rw [← hZ]
    refine pw_ri (by decide +kernel) ?_
    constructor
    · simp [F_tell, h5]
    · simp [G_tell, h5]

set_option maxHeartbeats 4000000 in
set_option maxRecDepth 100000 in
theorem c_undo (mm : pw_m) (hok : pw_ok mm) : pw_Ct 2 yX7_undo m_X7_undo [.ref 0] mm (fun r m' => r = some (.int (F_undo mm)) ∧ m' = G_undo mm) := by
  refine pw_ct (by decide +kernel) rfl (Nat.le_of_ble_eq_true rfl) (fun x => ?_)
  generalize hZ : pw_Z x _ = Z
  have bu := pw_b112 hok
  show pw_V x m_X7_undo 2 Z 0 [(0, .ref 0)] [] mm
  refine pw_blk (pc' := 7) [.aload 0, .getfield 703, .getfield 102] (by decide +kernel) ?_
  show pw_V x m_X7_undo 2 Z 7 [(0, .ref 0)] [.int (mm 11 2)] mm
  rw [show mm 11 2 = nI (pw_g mm 11 2) from pw_q112 hok]
  refine pw_iz_ne (tgt := 13) (off := 6) (by omega) (by decide +kernel) (by decide) (fun h7 => ?_) (fun h7 => ?_)
  · refine pw_blk (pc' := 21) [.aload 0, .getfield 703, .aload 0, .getfield 702] (by decide +kernel) ?_
    show pw_V x m_X7_undo 2 Z 21 [(0, .ref 0)] [.ref 42, .ref 11] mm
    refine pw_cV (vs := [.ref 42]) (rest := []) k_X1_recall (c_recall mm hok (by omega)) l_7_184 rfl rfl rfl rfl (by decide) (Nat.le_of_ble_eq_true rfl) (by decide +kernel) ?_
    rintro _ m1 ⟨rfl, e1⟩
    rw [e1]
    clear e1 m1
    show pw_V x m_X7_undo 2 Z 24 [(0, .ref 0)] [] (pw_rec mm)
    refine pw_blk (pc' := 31) [.aload 0, .getfield 703, .getfield 102] (by decide +kernel) ?_
    show pw_V x m_X7_undo 2 Z 31 [(0, .ref 0)] [.int ((pw_rec mm) 11 2)] (pw_rec mm)
    rw [← hZ]
    refine pw_ri (by decide +kernel) ?_
    constructor
    · simp only [F_undo, if_neg h7]; rfl
    · simp [G_undo, h7]
  · refine pw_blk (pc' := 12) [.iconst (-4)] (by decide +kernel) ?_
    show pw_V x m_X7_undo 2 Z 12 [(0, .ref 0)] [.int (-4)] mm
    rw [← hZ]
    refine pw_ri (by decide +kernel) ?_
    constructor
    · simp [F_undo, h7]
    · simp [G_undo, h7]

set_option maxHeartbeats 4000000 in
set_option maxRecDepth 100000 in
theorem c_keep (k : Int32) (mm : pw_m) (hok : pw_ok mm) : pw_Ct 1 yX7_keep m_X7_keep [.ref 0, .int k] mm (fun r m' => r = some (.int (F_keep mm k)) ∧ m' = G_keep mm k) := by
  refine pw_ct (by decide +kernel) rfl (Nat.le_of_ble_eq_true rfl) (fun x => ?_)
  generalize hZ : pw_Z x _ = Z
  have bb := pw_b113 hok
  show pw_V x m_X7_keep 1 Z 0 [(0, .ref 0), (1, .int k)] [] mm
  refine pw_blk (pc' := 1) [.iload 1] (by decide +kernel) ?_
  show pw_V x m_X7_keep 1 Z 1 [(0, .ref 0), (1, .int k)] [.int k] mm
  refine pw_if_lt (tgt := 9) (off := 8) (by decide +kernel) (by decide) (fun h1 => ?_) (fun h1 => ?_)
  · refine pw_blk (pc' := 11) [.iconst (-2)] (by decide +kernel) ?_
    show pw_V x m_X7_keep 1 Z 11 [(0, .ref 0), (1, .int k)] [.int (-2)] mm
    rw [← hZ]
    refine pw_ri (by decide +kernel) ?_
    constructor
    · simp [F_keep, pw_inr_f1 h1]
    · simp [G_keep, pw_inr_f1 h1]
  · refine pw_blk (pc' := 6) [.iload 1, .iconst 2] (by decide +kernel) ?_
    show pw_V x m_X7_keep 1 Z 6 [(0, .ref 0), (1, .int k)] [.int (nI 2), .int k] mm
    refine pw_ic_lt (tgt := 12) (off := 6) (by decide +kernel) (by decide) (fun h6 => ?_) (fun h6 => ?_)
    · have y1 := pw_inr_y (n := 2) h1 (fun z => pw_nlt z h6)
      obtain ⟨j, bj, ej⟩ := pw_inr_t (by omega) y1
      subst ej
      rcases (show j = 0 ∨ j = 1 by omega) with ex | ex
      · subst ex
        show pw_V x m_X7_keep 1 Z 12 [(0, .ref 0), (1, .int (nI 0))] [] mm
        refine pw_blk (pc' := 25) [.aload 0, .getfield 703, .getfield 101, .iload 1, .aaload, .aload 0, .getfield 702] (by decide +kernel) ?_
        refine ⟨0, rfl, by omega, ?_⟩
        show pw_V x m_X7_keep 1 Z 25 [(0, .ref 0), (1, .int (nI 0))] [.ref 42, .ref 78] mm
        refine pw_cV (vs := [.ref 42]) (rest := []) k_X0_copy (c_copy_78_42 mm) l_7_191 rfl rfl rfl rfl (by decide) (Nat.le_of_ble_eq_true rfl) (by decide +kernel) ?_
        rintro _ m1 ⟨rfl, e1⟩
        rw [e1]
        clear e1 m1
        show pw_V x m_X7_keep 1 Z 28 [(0, .ref 0), (1, .int (nI 0))] [] (pw_cpI mm 78 42 6)
        refine pw_blk (pc' := 50) [.aload 0, .getfield 703, .dup, .getfield 103, .iconst 1, .iload 1, .ishl, .ior, .putfield 103, .aload 0, .getfield 702, .getfield 0] (by decide +kernel) ?_
        show pw_V x m_X7_keep 1 Z 50 [(0, .ref 0), (1, .int (nI 0))] [.int (mm 42 0)] (pw_up (pw_cpI mm 78 42 6) 11 3 ((mm 11 3) ||| ((nI 1) <<< ((nI 0) &&& 31))))
        rw [show mm 11 3 = nI (pw_g mm 11 3) from pw_q113 hok]
        rw [show (nI 1) <<< ((nI 0) &&& 31) = nI (2 ^ 0) from pw_shl1 (by omega)]
        rw [show (nI (pw_g mm 11 3)) ||| (nI (2 ^ 0)) = nI ((pw_g mm 11 3) ||| (2 ^ 0)) from fa_or _ _]
        rw [← hZ]
        refine pw_ri (by decide +kernel) ?_
        constructor
        · unfold F_keep; rw [if_pos y1]
        · unfold G_keep; rw [if_pos y1]; rfl
      · subst ex
        show pw_V x m_X7_keep 1 Z 12 [(0, .ref 0), (1, .int (nI 1))] [] mm
        refine pw_blk (pc' := 25) [.aload 0, .getfield 703, .getfield 101, .iload 1, .aaload, .aload 0, .getfield 702] (by decide +kernel) ?_
        refine ⟨1, rfl, by omega, ?_⟩
        show pw_V x m_X7_keep 1 Z 25 [(0, .ref 0), (1, .int (nI 1))] [.ref 42, .ref 82] mm
        refine pw_cV (vs := [.ref 42]) (rest := []) k_X0_copy (c_copy_82_42 mm) l_7_191 rfl rfl rfl rfl (by decide) (Nat.le_of_ble_eq_true rfl) (by decide +kernel) ?_
        rintro _ m1 ⟨rfl, e1⟩
        rw [e1]
        clear e1 m1
        show pw_V x m_X7_keep 1 Z 28 [(0, .ref 0), (1, .int (nI 1))] [] (pw_cpI mm 82 42 6)
        refine pw_blk (pc' := 50) [.aload 0, .getfield 703, .dup, .getfield 103, .iconst 1, .iload 1, .ishl, .ior, .putfield 103, .aload 0, .getfield 702, .getfield 0] (by decide +kernel) ?_
        show pw_V x m_X7_keep 1 Z 50 [(0, .ref 0), (1, .int (nI 1))] [.int (mm 42 0)] (pw_up (pw_cpI mm 82 42 6) 11 3 ((mm 11 3) ||| ((nI 1) <<< ((nI 1) &&& 31))))
        rw [show mm 11 3 = nI (pw_g mm 11 3) from pw_q113 hok]
        rw [show (nI 1) <<< ((nI 1) &&& 31) = nI (2 ^ 1) from pw_shl1 (by omega)]
        rw [show (nI (pw_g mm 11 3)) ||| (nI (2 ^ 1)) = nI ((pw_g mm 11 3) ||| (2 ^ 1)) from fa_or _ _]
        rw [← hZ]
        refine pw_ri (by decide +kernel) ?_
        constructor
        · unfold F_keep; rw [if_pos y1]
        · unfold G_keep; rw [if_pos y1]; rfl
    · refine pw_blk (pc' := 11) [.iconst (-2)] (by decide +kernel) ?_
      show pw_V x m_X7_keep 1 Z 11 [(0, .ref 0), (1, .int k)] [.int (-2)] mm
      rw [← hZ]
      refine pw_ri (by decide +kernel) ?_
      constructor
      · simp [F_keep, pw_inr_f2 (Int32.not_lt.mp h6)]
      · simp [G_keep, pw_inr_f2 (Int32.not_lt.mp h6)]

set_option maxHeartbeats 4000000 in
set_option maxRecDepth 100000 in
theorem c_back (k : Int32) (mm : pw_m) (hok : pw_ok mm) : pw_Ct 1 yX7_back m_X7_back [.ref 0, .int k] mm (fun r m' => r = some (.int (F_back mm k)) ∧ m' = G_back mm k) := by
  refine pw_ct (by decide +kernel) rfl (Nat.le_of_ble_eq_true rfl) (fun x => ?_)
  generalize hZ : pw_Z x _ = Z
  have bb := pw_b113 hok
  show pw_V x m_X7_back 1 Z 0 [(0, .ref 0), (1, .int k)] [] mm
  refine pw_blk (pc' := 1) [.iload 1] (by decide +kernel) ?_
  show pw_V x m_X7_back 1 Z 1 [(0, .ref 0), (1, .int k)] [.int k] mm
  refine pw_if_lt (tgt := 9) (off := 8) (by decide +kernel) (by decide) (fun h1 => ?_) (fun h1 => ?_)
  · refine pw_blk (pc' := 11) [.iconst (-2)] (by decide +kernel) ?_
    show pw_V x m_X7_back 1 Z 11 [(0, .ref 0), (1, .int k)] [.int (-2)] mm
    rw [← hZ]
    refine pw_ri (by decide +kernel) ?_
    constructor
    · simp [F_back, pw_inr_f1 h1]
    · simp [G_back, pw_inr_f1 h1]
  · refine pw_blk (pc' := 6) [.iload 1, .iconst 2] (by decide +kernel) ?_
    show pw_V x m_X7_back 1 Z 6 [(0, .ref 0), (1, .int k)] [.int (nI 2), .int k] mm
    refine pw_ic_lt (tgt := 12) (off := 6) (by decide +kernel) (by decide) (fun h6 => ?_) (fun h6 => ?_)
    · have y1 := pw_inr_y (n := 2) h1 (fun z => pw_nlt z h6)
      obtain ⟨j, bj, ej⟩ := pw_inr_t (by omega) y1
      subst ej
      rcases (show j = 0 ∨ j = 1 by omega) with ex | ex
      · subst ex
        show pw_V x m_X7_back 1 Z 12 [(0, .ref 0), (1, .int (nI 0))] [] mm
        refine pw_blk (pc' := 20) [.aload 0, .getfield 703, .getfield 103, .iload 1] (by decide +kernel) ?_
        show pw_V x m_X7_back 1 Z 20 [(0, .ref 0), (1, .int (nI 0))] [.int (nI 0), .int (mm 11 3)] mm
        rw [show mm 11 3 = nI (pw_g mm 11 3) from pw_q113 hok]
        refine pw_cS (vs := [.int (nI (pw_g mm 11 3)), .int (nI 0)]) (rest := []) k_X7_has (c_has (nI (pw_g mm 11 3)) (nI 0) mm) l_7_124 rfl (by decide) (Nat.le_of_ble_eq_true rfl) (by decide +kernel) ?_
        rintro _ m1 ⟨rfl, e1⟩
        rw [e1]
        clear e1 m1
        show pw_V x m_X7_back 1 Z 23 [(0, .ref 0), (1, .int (nI 0))] [.int (pw_b (pw_hs (nI (pw_g mm 11 3)) (nI 0)))] mm
        rw [pw_hs_n (by omega) (by omega)]
        refine pw_ib_ne (tgt := 29) (off := 6) (by decide +kernel) (by decide) (fun h23 => ?_) (fun h23 => ?_)
        · refine pw_blk (pc' := 42) [.aload 0, .getfield 702, .aload 0, .getfield 703, .getfield 101, .iload 1, .aaload] (by decide +kernel) ?_
          refine ⟨0, rfl, by omega, ?_⟩
          show pw_V x m_X7_back 1 Z 42 [(0, .ref 0), (1, .int (nI 0))] [.ref 78, .ref 42] mm
          refine pw_cV (vs := [.ref 78]) (rest := []) k_X0_copy (c_copy_42_78 mm) l_7_191 rfl rfl rfl rfl (by decide) (Nat.le_of_ble_eq_true rfl) (by decide +kernel) ?_
          rintro _ m1 ⟨rfl, e1⟩
          rw [e1]
          clear e1 m1
          show pw_V x m_X7_back 1 Z 45 [(0, .ref 0), (1, .int (nI 0))] [] (pw_cpI mm 42 78 6)
          refine pw_blk (pc' := 60) [.aload 0, .getfield 703, .iconst 0, .putfield 102, .aload 0, .getfield 702, .getfield 0] (by decide +kernel) ?_
          show pw_V x m_X7_back 1 Z 60 [(0, .ref 0), (1, .int (nI 0))] [.int ((pw_cpI mm 42 78 6) 42 0)] (pw_up (pw_cpI mm 42 78 6) 11 2 (nI 0))
          rw [← hZ]
          refine pw_ri (by decide +kernel) ?_
          constructor
          · unfold F_back; rw [if_pos y1, show pw_c (nI 0) = 0 from rfl, if_pos h23]; rfl
          · unfold G_back; rw [show pw_c (nI 0) = 0 from rfl, if_pos ⟨y1, h23⟩]; rfl
        · refine pw_blk (pc' := 28) [.iconst (-4)] (by decide +kernel) ?_
          show pw_V x m_X7_back 1 Z 28 [(0, .ref 0), (1, .int (nI 0))] [.int (-4)] mm
          rw [← hZ]
          refine pw_ri (by decide +kernel) ?_
          constructor
          · unfold F_back; rw [if_pos y1, show pw_c (nI 0) = 0 from rfl, if_neg (by rw [h23]; decide)]
          · unfold G_back; rw [show pw_c (nI 0) = 0 from rfl, if_neg (by rw [h23]; simp)]
      · subst ex
        show pw_V x m_X7_back 1 Z 12 [(0, .ref 0), (1, .int (nI 1))] [] mm
        refine pw_blk (pc' := 20) [.aload 0, .getfield 703, .getfield 103, .iload 1] (by decide +kernel) ?_
        show pw_V x m_X7_back 1 Z 20 [(0, .ref 0), (1, .int (nI 1))] [.int (nI 1), .int (mm 11 3)] mm
        rw [show mm 11 3 = nI (pw_g mm 11 3) from pw_q113 hok]
        refine pw_cS (vs := [.int (nI (pw_g mm 11 3)), .int (nI 1)]) (rest := []) k_X7_has (c_has (nI (pw_g mm 11 3)) (nI 1) mm) l_7_124 rfl (by decide) (Nat.le_of_ble_eq_true rfl) (by decide +kernel) ?_
        rintro _ m1 ⟨rfl, e1⟩
        rw [e1]
        clear e1 m1
        show pw_V x m_X7_back 1 Z 23 [(0, .ref 0), (1, .int (nI 1))] [.int (pw_b (pw_hs (nI (pw_g mm 11 3)) (nI 1)))] mm
        rw [pw_hs_n (by omega) (by omega)]
        refine pw_ib_ne (tgt := 29) (off := 6) (by decide +kernel) (by decide) (fun h23 => ?_) (fun h23 => ?_)
        · refine pw_blk (pc' := 42) [.aload 0, .getfield 702, .aload 0, .getfield 703, .getfield 101, .iload 1, .aaload] (by decide +kernel) ?_
          refine ⟨1, rfl, by omega, ?_⟩
          show pw_V x m_X7_back 1 Z 42 [(0, .ref 0), (1, .int (nI 1))] [.ref 82, .ref 42] mm
          refine pw_cV (vs := [.ref 82]) (rest := []) k_X0_copy (c_copy_42_82 mm) l_7_191 rfl rfl rfl rfl (by decide) (Nat.le_of_ble_eq_true rfl) (by decide +kernel) ?_
          rintro _ m1 ⟨rfl, e1⟩
          rw [e1]
          clear e1 m1
          show pw_V x m_X7_back 1 Z 45 [(0, .ref 0), (1, .int (nI 1))] [] (pw_cpI mm 42 82 6)
          refine pw_blk (pc' := 60) [.aload 0, .getfield 703, .iconst 0, .putfield 102, .aload 0, .getfield 702, .getfield 0] (by decide +kernel) ?_
          show pw_V x m_X7_back 1 Z 60 [(0, .ref 0), (1, .int (nI 1))] [.int ((pw_cpI mm 42 82 6) 42 0)] (pw_up (pw_cpI mm 42 82 6) 11 2 (nI 0))
          rw [← hZ]
          refine pw_ri (by decide +kernel) ?_
          constructor
          · unfold F_back; rw [if_pos y1, show pw_c (nI 1) = 1 from rfl, if_pos h23]; rfl
          · unfold G_back; rw [show pw_c (nI 1) = 1 from rfl, if_pos ⟨y1, h23⟩]; rfl
        · refine pw_blk (pc' := 28) [.iconst (-4)] (by decide +kernel) ?_
          show pw_V x m_X7_back 1 Z 28 [(0, .ref 0), (1, .int (nI 1))] [.int (-4)] mm
          rw [← hZ]
          refine pw_ri (by decide +kernel) ?_
          constructor
          · unfold F_back; rw [if_pos y1, show pw_c (nI 1) = 1 from rfl, if_neg (by rw [h23]; decide)]
          · unfold G_back; rw [show pw_c (nI 1) = 1 from rfl, if_neg (by rw [h23]; simp)]
    · refine pw_blk (pc' := 11) [.iconst (-2)] (by decide +kernel) ?_
      show pw_V x m_X7_back 1 Z 11 [(0, .ref 0), (1, .int k)] [.int (-2)] mm
      rw [← hZ]
      refine pw_ri (by decide +kernel) ?_
      constructor
      · simp [F_back, pw_inr_f2 (Int32.not_lt.mp h6)]
      · simp [G_back, pw_inr_f2 (Int32.not_lt.mp h6)]
