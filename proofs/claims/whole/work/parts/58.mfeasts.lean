theorem pw_sb_rem {A : pw_m} (h : pw_ok A) : pw_sb (pw_rem A) = pw_sb A := by unfold pw_sb pw_pl; rw [pw_rem_o (pw_b114 h) (by omega) (by omega)]
theorem pw_si_rem {A : pw_m} (h : pw_ok A) (s : Nat) : pw_si (pw_rem A) s = pw_si A s := by unfold pw_si pw_pl; rw [pw_rem_o (pw_b114 h) (by omega) (by omega)]

set_option maxHeartbeats 4000000 in
set_option maxRecDepth 100000 in
theorem c_msit {A : pw_m} (mm : pw_m) (hv : MV A mm) (hok : pw_ok A) (k s : Int32) : pw_Ct 3 yX8_sit m_X8_sit [.ref 26, .int k, .int s] mm (fun r m' => r = some (.int (F_sit A k s)) ∧ MV (G_sit A k s) m' ∧ pw_mf_ mm m') := by
  refine pw_ct (by decide +kernel) rfl (Nat.le_of_ble_eq_true rfl) (fun x => ?_)
  generalize hZ : pw_Z x _ = Z
  have bn := pw_bn hok
  have bk := pw_bk hok
  have bt := pw_b421' hok
  have bx := pw_b114 hok
  have hT : ∀ c, 4 ≤ c → c ≤ 10 → pw_rem A c = A c := fun c h1 h2 => pw_rem_o bx (by omega) (by omega)
  show pw_V x m_X8_sit 3 Z 0 [(0, .ref 26), (1, .int k), (2, .int s)] [] mm
  refine pw_blk (pc' := 2) [.aload 0, .iload 1] (by decide +kernel) ?_
  show pw_V x m_X8_sit 3 Z 2 [(0, .ref 26), (1, .int k), (2, .int s)] [.int k, .ref 26] mm
  refine pw_cV (vs := [.int k]) (rest := []) k_X8_isKnight (c_misKnight mm hv hok k) l_8_82 rfl rfl rfl rfl (by omega) (Nat.le_of_ble_eq_true rfl) (by decide +kernel) ?_
  rintro _ m1 ⟨rfl, e1⟩
  rw [e1]
  clear e1 m1
  show pw_V x m_X8_sit 3 Z 5 [(0, .ref 26), (1, .int k), (2, .int s)] [.int (pw_b (pw_inr k (pw_k A)))] mm
  refine pw_ib_eq (tgt := 16) (off := 11) (by decide +kernel) (by decide) (fun h5 => ?_) (fun h5 => ?_)
  · refine pw_blk (pc' := 18) [.iconst (-2)] (by decide +kernel) ?_
    show pw_V x m_X8_sit 3 Z 18 [(0, .ref 26), (1, .int k), (2, .int s)] [.int (-2)] mm
    rw [← hZ]
    refine pw_ri (by decide +kernel) ?_
    have eG : G_sit A k s = A := by simp [G_sit, h5]
    refine ⟨?_, ?_, ?_⟩
    · simp [F_sit, h5]
      try rfl
    · rw [eG]; exact hv
    · exact pw_mf_r
  · obtain ⟨j5, b5, e5⟩ := pw_inr_t (by omega) h5
    subst e5
    refine pw_blk (pc' := 10) [.aload 0, .iload 2] (by decide +kernel) ?_
    show pw_V x m_X8_sit 3 Z 10 [(0, .ref 26), (1, .int (nI j5)), (2, .int s)] [.int s, .ref 26] mm
    refine pw_cV (vs := [.int s]) (rest := []) k_X8_isSeat (c_misSeat mm hv hok s) l_8_195 rfl rfl rfl rfl (by omega) (Nat.le_of_ble_eq_true rfl) (by decide +kernel) ?_
    rintro _ m1 ⟨rfl, e1⟩
    rw [e1]
    clear e1 m1
    show pw_V x m_X8_sit 3 Z 13 [(0, .ref 26), (1, .int (nI j5)), (2, .int s)] [.int (pw_b (pw_inr s (pw_n A)))] mm
    refine pw_ib_ne (tgt := 19) (off := 6) (by decide +kernel) (by decide) (fun h13 => ?_) (fun h13 => ?_)
    · obtain ⟨j13, b13, e13⟩ := pw_inr_t (by omega) h13
      subst e13
      refine pw_blk (pc' := 21) [.aload 0, .iload 1] (by decide +kernel) ?_
      show pw_V x m_X8_sit 3 Z 21 [(0, .ref 26), (1, .int (nI j5)), (2, .int (nI j13))] [.int (nI j5), .ref 26] mm
      refine pw_cV (vs := [.int (nI j5)]) (rest := []) k_X8_isThere (c_mThere mm hv hok j5 (by omega)) l_8_201 rfl rfl rfl rfl (by omega) (Nat.le_of_ble_eq_true rfl) (by decide +kernel) ?_
      rintro _ m1 ⟨rfl, e1⟩
      rw [e1]
      clear e1 m1
      show pw_V x m_X8_sit 3 Z 24 [(0, .ref 26), (1, .int (nI j5)), (2, .int (nI j13))] [.int (pw_b ((pw_g A 42 1).testBit j5))] mm
      refine pw_ib_eq (tgt := 49) (off := 25) (by decide +kernel) (by decide) (fun h24 => ?_) (fun h24 => ?_)
      · refine pw_blk (pc' := 51) [.iconst (-4)] (by decide +kernel) ?_
        show pw_V x m_X8_sit 3 Z 51 [(0, .ref 26), (1, .int (nI j5)), (2, .int (nI j13))] [.int (-4)] mm
        rw [← hZ]
        refine pw_ri (by decide +kernel) ?_
        have eG : G_sit A (nI j5) (nI j13) = A := by simp [G_sit, pw_inr_nI (show j5 < 2 ^ 31 by omega) (show pw_k A < 2 ^ 31 by omega), pw_c_nI (show j5 < 2 ^ 31 by omega), b5, pw_inr_nI (show j13 < 2 ^ 31 by omega) (show pw_n A < 2 ^ 31 by omega), pw_c_nI (show j13 < 2 ^ 31 by omega), b13, h5, h13, h24]
        refine ⟨?_, ?_, ?_⟩
        · simp [F_sit, pw_inr_nI (show j5 < 2 ^ 31 by omega) (show pw_k A < 2 ^ 31 by omega), pw_c_nI (show j5 < 2 ^ 31 by omega), b5, pw_inr_nI (show j13 < 2 ^ 31 by omega) (show pw_n A < 2 ^ 31 by omega), pw_c_nI (show j13 < 2 ^ 31 by omega), b13, h5, h13, h24]
          try rfl
        · rw [eG]; exact hv
        · exact pw_mf_r
      · refine pw_blk (pc' := 37) [.aload 0, .getfield 808, .iconst (14), .iload 1, .iadd, .iaload, .iconst (-1)] (by decide +kernel) ?_
        refine ⟨(14 + j5), (show (nI 14) + (nI j5) = nI (14 + j5) from by rw [show (nI 14) + (nI j5) = nI (14 + j5) from nI_add _ _]), by first | omega | exact pw_g_lt, ?_⟩
        show pw_V x m_X8_sit 3 Z 37 [(0, .ref 26), (1, .int (nI j5)), (2, .int (nI j13))] [.int (-1), .int (mm 30 (14 + j5))] mm
        rw [show mm 30 (14 + j5) = pw_o (pw_pl A j5) from mv_pl hv hok (i := j5) (by omega)]
        rcases h37 : pw_pl A j5 with _ | s37
        · show pw_V x m_X8_sit 3 Z 37 [(0, .ref 26), (1, .int (nI j5)), (2, .int (nI j13))] [.int (-1), .int (-1)] mm
          refine pw_ic_ne (tgt := 49) (off := 12) (by decide +kernel) (by decide) (fun h => absurd rfl h) (fun _ => ?_)
          refine pw_blk (pc' := 42) [.aload 0, .iload 2] (by decide +kernel) ?_
          show pw_V x m_X8_sit 3 Z 42 [(0, .ref 26), (1, .int (nI j5)), (2, .int (nI j13))] [.int (nI j13), .ref 26] mm
          refine pw_cV (vs := [.int (nI j13)]) (rest := []) k_X8_sitter (c_msitter mm hv hok j13 (by omega)) l_8_198 rfl rfl rfl rfl (by omega) (Nat.le_of_ble_eq_true rfl) (by decide +kernel) ?_
          rintro _ m1 ⟨rfl, e1⟩
          rw [e1]
          clear e1 m1
          show pw_V x m_X8_sit 3 Z 45 [(0, .ref 26), (1, .int (nI j5)), (2, .int (nI j13))] [.int (pw_o (pw_si A j13))] mm
          refine pw_blk (pc' := 46) [.iconst (-1)] (by decide +kernel) ?_
          show pw_V x m_X8_sit 3 Z 46 [(0, .ref 26), (1, .int (nI j5)), (2, .int (nI j13))] [.int (-1), .int (pw_o (pw_si A j13))] mm
          rcases h46 : pw_si A j13 with _ | s46
          · show pw_V x m_X8_sit 3 Z 46 [(0, .ref 26), (1, .int (nI j5)), (2, .int (nI j13))] [.int (-1), .int (-1)] mm
            refine pw_ic_eq (tgt := 52) (off := 6) (by decide +kernel) (by decide) (fun _ => ?_) (fun h => absurd rfl h)
            refine pw_blk (pc' := 53) [.aload 0] (by decide +kernel) ?_
            show pw_V x m_X8_sit 3 Z 53 [(0, .ref 26), (1, .int (nI j5)), (2, .int (nI j13))] [.ref 26] mm
            refine pw_cV (vs := []) (rest := []) k_X8_remembers (c_mrem mm hv hok) l_8_204 rfl rfl rfl rfl (by omega) (Nat.le_of_ble_eq_true rfl) (by decide +kernel) ?_
            rintro _ m1 ⟨rfl, hv1, hf1⟩
            show pw_V x m_X8_sit 3 Z 56 [(0, .ref 26), (1, .int (nI j5)), (2, .int (nI j13))] [] m1
            have hok1 := pw_ok_rem hok
            refine pw_blk (pc' := 66) [.aload 0, .getfield 808, .iconst (14), .iload 1, .iadd, .iload 2, .iastore] (by decide +kernel) ?_
            refine ⟨(14 + j5), (show (nI 14) + (nI j5) = nI (14 + j5) from by rw [show (nI 14) + (nI j5) = nI (14 + j5) from nI_add _ _]), by first | omega | exact pw_g_lt, ?_⟩
            show pw_V x m_X8_sit 3 Z 66 [(0, .ref 26), (1, .int (nI j5)), (2, .int (nI j13))] [] (pw_up m1 30 (14 + j5) (nI j13))
            have hv2 : MV (pw_up (pw_rem A) 45 j5 (nI j13)) (pw_up m1 30 (14 + j5) (nI j13)) := mv_sit hv1 (by omega) (nI j13)
            have hok2 : pw_ok (pw_up (pw_rem A) 45 j5 (nI j13)) := pw_ok_sit hok1 (by rw [pw_k_c (A := A) hT]; exact b5) (by rw [pw_n_c (A := A) hT]; exact b13) (by show pw_oc (pw_rem A 45 j5) = none; rw [pw_rem_o bx (by omega) (by omega)]; exact h37) (by rw [pw_si_rem hok]; exact h46)
            refine pw_blk (pc' := 67) [.aload 0] (by decide +kernel) ?_
            show pw_V x m_X8_sit 3 Z 67 [(0, .ref 26), (1, .int (nI j5)), (2, .int (nI j13))] [.ref 26] (pw_up m1 30 (14 + j5) (nI j13))
            refine pw_cV (vs := []) (rest := []) k_X8_sitting (c_msitting (pw_up m1 30 (14 + j5) (nI j13)) hv2 hok2) l_8_207 rfl rfl rfl rfl (by omega) (Nat.le_of_ble_eq_true rfl) (by decide +kernel) ?_
            rintro _ m1 ⟨rfl, e1⟩
            rw [e1]
            clear e1 m1
            show pw_V x m_X8_sit 3 Z 70 [(0, .ref 26), (1, .int (nI j5)), (2, .int (nI j13))] [.int (nI (pw_sb (pw_up (pw_rem A) 45 j5 (nI j13))))] (pw_up m1 30 (14 + j5) (nI j13))
            have bsb67 := pw_sb_lt (A := pw_up (pw_rem A) 45 j5 (nI j13))
            refine pw_cS (vs := [.int (nI (pw_sb (pw_up (pw_rem A) 45 j5 (nI j13))))]) (rest := []) k_X8_bits (c_bits (pw_sb (pw_up (pw_rem A) 45 j5 (nI j13))) (pw_up m1 30 (14 + j5) (nI j13)) (by omega)) l_8_210 rfl (by omega) (Nat.le_of_ble_eq_true rfl) (by decide +kernel) ?_
            rintro _ m1 ⟨rfl, e1⟩
            rw [e1]
            clear e1 m1
            show pw_V x m_X8_sit 3 Z 73 [(0, .ref 26), (1, .int (nI j5)), (2, .int (nI j13))] [.int (nI (pw_pc (pw_sb (pw_up (pw_rem A) 45 j5 (nI j13)))))] (pw_up m1 30 (14 + j5) (nI j13))
            rw [← hZ]
            refine pw_ri (by decide +kernel) ?_
            have eG : G_sit A (nI j5) (nI j13) = pw_up (pw_rem A) 45 j5 (nI j13) := by simp [G_sit, pw_inr_nI (show j5 < 2 ^ 31 by omega) (show pw_k A < 2 ^ 31 by omega), pw_c_nI (show j5 < 2 ^ 31 by omega), b5, pw_inr_nI (show j13 < 2 ^ 31 by omega) (show pw_n A < 2 ^ 31 by omega), pw_c_nI (show j13 < 2 ^ 31 by omega), b13, h5, h13, h24, h37, h46]
            refine ⟨?_, ?_, ?_⟩
            · simp [F_sit, pw_inr_nI (show j5 < 2 ^ 31 by omega) (show pw_k A < 2 ^ 31 by omega), pw_c_nI (show j5 < 2 ^ 31 by omega), b5, pw_inr_nI (show j13 < 2 ^ 31 by omega) (show pw_n A < 2 ^ 31 by omega), pw_c_nI (show j13 < 2 ^ 31 by omega), b13, h5, h13, h24, h37, h46]
              try rfl
            · rw [eG]; exact hv2
            · exact pw_mf_u hf1 (by decide)
          · show pw_V x m_X8_sit 3 Z 46 [(0, .ref 26), (1, .int (nI j5)), (2, .int (nI j13))] [.int (-1), .int (nI s46)] mm
            have b46 := pw_si_lt h46
            refine pw_ic_eq (tgt := 52) (off := 6) (by decide +kernel) (by decide) (fun h => absurd h (pw_n1 (by first | omega | exact pw_g_lt))) (fun _ => ?_)
            refine pw_blk (pc' := 51) [.iconst (-4)] (by decide +kernel) ?_
            show pw_V x m_X8_sit 3 Z 51 [(0, .ref 26), (1, .int (nI j5)), (2, .int (nI j13))] [.int (-4)] mm
            rw [← hZ]
            refine pw_ri (by decide +kernel) ?_
            have eG : G_sit A (nI j5) (nI j13) = A := by simp [G_sit, pw_inr_nI (show j5 < 2 ^ 31 by omega) (show pw_k A < 2 ^ 31 by omega), pw_c_nI (show j5 < 2 ^ 31 by omega), b5, pw_inr_nI (show j13 < 2 ^ 31 by omega) (show pw_n A < 2 ^ 31 by omega), pw_c_nI (show j13 < 2 ^ 31 by omega), b13, h5, h13, h24, h37, h46]
            refine ⟨?_, ?_, ?_⟩
            · simp [F_sit, pw_inr_nI (show j5 < 2 ^ 31 by omega) (show pw_k A < 2 ^ 31 by omega), pw_c_nI (show j5 < 2 ^ 31 by omega), b5, pw_inr_nI (show j13 < 2 ^ 31 by omega) (show pw_n A < 2 ^ 31 by omega), pw_c_nI (show j13 < 2 ^ 31 by omega), b13, h5, h13, h24, h37, h46]
              try rfl
            · rw [eG]; exact hv
            · exact pw_mf_r
        · show pw_V x m_X8_sit 3 Z 37 [(0, .ref 26), (1, .int (nI j5)), (2, .int (nI j13))] [.int (-1), .int (nI s37)] mm
          have b37 := pw_mplb hok (i := j5) (by omega) h37
          refine pw_ic_ne (tgt := 49) (off := 12) (by decide +kernel) (by decide) (fun _ => ?_) (fun h => absurd h (pw_n1 (by first | omega | exact pw_g_lt)))
          refine pw_blk (pc' := 51) [.iconst (-4)] (by decide +kernel) ?_
          show pw_V x m_X8_sit 3 Z 51 [(0, .ref 26), (1, .int (nI j5)), (2, .int (nI j13))] [.int (-4)] mm
          rw [← hZ]
          refine pw_ri (by decide +kernel) ?_
          have eG : G_sit A (nI j5) (nI j13) = A := by simp [G_sit, pw_inr_nI (show j5 < 2 ^ 31 by omega) (show pw_k A < 2 ^ 31 by omega), pw_c_nI (show j5 < 2 ^ 31 by omega), b5, pw_inr_nI (show j13 < 2 ^ 31 by omega) (show pw_n A < 2 ^ 31 by omega), pw_c_nI (show j13 < 2 ^ 31 by omega), b13, h5, h13, h24, h37]
          refine ⟨?_, ?_, ?_⟩
          · simp [F_sit, pw_inr_nI (show j5 < 2 ^ 31 by omega) (show pw_k A < 2 ^ 31 by omega), pw_c_nI (show j5 < 2 ^ 31 by omega), b5, pw_inr_nI (show j13 < 2 ^ 31 by omega) (show pw_n A < 2 ^ 31 by omega), pw_c_nI (show j13 < 2 ^ 31 by omega), b13, h5, h13, h24, h37]
            try rfl
          · rw [eG]; exact hv
          · exact pw_mf_r
    · refine pw_blk (pc' := 18) [.iconst (-2)] (by decide +kernel) ?_
      show pw_V x m_X8_sit 3 Z 18 [(0, .ref 26), (1, .int (nI j5)), (2, .int s)] [.int (-2)] mm
      rw [← hZ]
      refine pw_ri (by decide +kernel) ?_
      have eG : G_sit A (nI j5) s = A := by simp [G_sit, pw_inr_nI (show j5 < 2 ^ 31 by omega) (show pw_k A < 2 ^ 31 by omega), pw_c_nI (show j5 < 2 ^ 31 by omega), b5, h5, h13]
      refine ⟨?_, ?_, ?_⟩
      · simp [F_sit, pw_inr_nI (show j5 < 2 ^ 31 by omega) (show pw_k A < 2 ^ 31 by omega), pw_c_nI (show j5 < 2 ^ 31 by omega), b5, h5, h13]
        try rfl
      · rw [eG]; exact hv
      · exact pw_mf_r

set_option maxHeartbeats 4000000 in
set_option maxRecDepth 100000 in
theorem c_mriseP {A : pw_m} (mm : pw_m) (hv : MV A mm) (hok : pw_ok A) : pw_Ct 2 yX8_rise m_X8_rise [.ref 26] mm (fun r m' => r = some (.int (nI (pw_pc (pw_sb A)))) ∧ MV (pw_rsI (pw_rem A) 6) m' ∧ pw_mf_ mm m') := by
  refine pw_ct (by decide +kernel) rfl (Nat.le_of_ble_eq_true rfl) (fun x => ?_)
  generalize hZ : pw_Z x _ = Z
  have bn := pw_bn hok
  have bk := pw_bk hok
  have bt := pw_b421' hok
  have bx := pw_b114 hok
  have hT : ∀ c, 4 ≤ c → c ≤ 10 → pw_rem A c = A c := fun c h1 h2 => pw_rem_o bx (by omega) (by omega)
  show pw_V x m_X8_rise 2 Z 0 [(0, .ref 26)] [] mm
  refine pw_blk (pc' := 1) [.aload 0] (by decide +kernel) ?_
  show pw_V x m_X8_rise 2 Z 1 [(0, .ref 26)] [.ref 26] mm
  refine pw_cV (vs := []) (rest := []) k_X8_remembers (c_mrem mm hv hok) l_8_204 rfl rfl rfl rfl (by omega) (Nat.le_of_ble_eq_true rfl) (by decide +kernel) ?_
  rintro _ m1 ⟨rfl, hv1, hf1⟩
  show pw_V x m_X8_rise 2 Z 4 [(0, .ref 26)] [] m1
  have hok1 := pw_ok_rem hok
  refine pw_blk (pc' := 5) [.aload 0] (by decide +kernel) ?_
  show pw_V x m_X8_rise 2 Z 5 [(0, .ref 26)] [.ref 26] m1
  refine pw_cV (vs := []) (rest := []) k_X8_sitting (c_msitting m1 hv1 hok1) l_8_207 rfl rfl rfl rfl (by omega) (Nat.le_of_ble_eq_true rfl) (by decide +kernel) ?_
  rintro _ m1 ⟨rfl, e1⟩
  rw [e1]
  clear e1 m1
  show pw_V x m_X8_rise 2 Z 8 [(0, .ref 26)] [.int (nI (pw_sb (pw_rem A)))] m1
  have bsb5 := pw_sb_lt (A := (pw_rem A))
  refine pw_cS (vs := [.int (nI (pw_sb (pw_rem A)))]) (rest := []) k_X8_bits (c_bits (pw_sb (pw_rem A)) m1 (by omega)) l_8_210 rfl (by omega) (Nat.le_of_ble_eq_true rfl) (by decide +kernel) ?_
  rintro _ m1 ⟨rfl, e1⟩
  rw [e1]
  clear e1 m1
  show pw_V x m_X8_rise 2 Z 11 [(0, .ref 26)] [.int (nI (pw_pc (pw_sb (pw_rem A))))] m1
  refine pw_blk (pc' := 13) [.istore 1, .aload 0] (by decide +kernel) ?_
  show pw_V x m_X8_rise 2 Z 13 [(1, .int (nI (pw_pc (pw_sb (pw_rem A))))), (0, .ref 26)] [.ref 26] m1
  refine pw_cV (vs := []) (rest := []) k_X8_allRise (c_mrise m1) l_8_213 rfl rfl rfl rfl (by omega) (Nat.le_of_ble_eq_true rfl) (by decide +kernel) ?_
  rintro _ m1 ⟨rfl, e1⟩
  rw [e1]
  clear e1 m1
  show pw_V x m_X8_rise 2 Z 16 [(1, .int (nI (pw_pc (pw_sb (pw_rem A))))), (0, .ref 26)] [] (pw_rsM m1 6)
  refine pw_blk (pc' := 17) [.iload 1] (by decide +kernel) ?_
  show pw_V x m_X8_rise 2 Z 17 [(1, .int (nI (pw_pc (pw_sb (pw_rem A))))), (0, .ref 26)] [.int (nI (pw_pc (pw_sb (pw_rem A))))] (pw_rsM m1 6)
  rw [← hZ]
  refine pw_ri (by decide +kernel) ?_
  rw [pw_sb_rem hok]
  exact ⟨rfl, mv_rise hv1, pw_mf_t hf1 (fun c hc => by unfold pw_rsM; rw [if_neg (by omega)])⟩

set_option maxHeartbeats 4000000 in
set_option maxRecDepth 100000 in
theorem c_mtell {A : pw_m} (mm : pw_m) (hv : MV A mm) (hok : pw_ok A) (k w : Int32) : pw_Ct 3 yX8_tell m_X8_tell [.ref 26, .int k, .int w] mm (fun r m' => r = some (.int (F_tell A k w)) ∧ MV (G_tell A k w) m' ∧ pw_mf_ mm m') := by
  refine pw_ct (by decide +kernel) rfl (Nat.le_of_ble_eq_true rfl) (fun x => ?_)
  generalize hZ : pw_Z x _ = Z
  have bn := pw_bn hok
  have bk := pw_bk hok
  have bt := pw_b421' hok
  have bx := pw_b114 hok
  have hT : ∀ c, 4 ≤ c → c ≤ 10 → pw_rem A c = A c := fun c h1 h2 => pw_rem_o bx (by omega) (by omega)
  show pw_V x m_X8_tell 3 Z 0 [(0, .ref 26), (1, .int k), (2, .int w)] [] mm
  refine pw_blk (pc' := 2) [.aload 0, .iload 1] (by decide +kernel) ?_
  show pw_V x m_X8_tell 3 Z 2 [(0, .ref 26), (1, .int k), (2, .int w)] [.int k, .ref 26] mm
  refine pw_cV (vs := [.int k]) (rest := []) k_X8_isKnight (c_misKnight mm hv hok k) l_8_82 rfl rfl rfl rfl (by omega) (Nat.le_of_ble_eq_true rfl) (by decide +kernel) ?_
  rintro _ m1 ⟨rfl, e1⟩
  rw [e1]
  clear e1 m1
  show pw_V x m_X8_tell 3 Z 5 [(0, .ref 26), (1, .int k), (2, .int w)] [.int (pw_b (pw_inr k (pw_k A)))] mm
  refine pw_ib_ne (tgt := 11) (off := 6) (by decide +kernel) (by decide) (fun h5 => ?_) (fun h5 => ?_)
  · obtain ⟨j5, b5, e5⟩ := pw_inr_t (by omega) h5
    subst e5
    refine pw_blk (pc' := 14) [.iload 2, .iconst 0, .iconst 3] (by decide +kernel) ?_
    show pw_V x m_X8_tell 3 Z 14 [(0, .ref 26), (1, .int (nI j5)), (2, .int w)] [.int (nI 3), .int (nI 0), .int w] mm
    refine pw_cS (vs := [.int w, .int (nI 0), .int (nI 3)]) (rest := []) k_X8_in (c_in0 w 3 mm (by first | omega | exact pw_g_lt)) l_8_78 rfl (by omega) (Nat.le_of_ble_eq_true rfl) (by decide +kernel) ?_
    rintro _ m1 ⟨rfl, e1⟩
    rw [e1]
    clear e1 m1
    show pw_V x m_X8_tell 3 Z 17 [(0, .ref 26), (1, .int (nI j5)), (2, .int w)] [.int (pw_b (pw_inr w 4))] mm
    refine pw_ib_ne (tgt := 23) (off := 6) (by decide +kernel) (by decide) (fun h17 => ?_) (fun h17 => ?_)
    · obtain ⟨j17, b17, e17⟩ := pw_inr_t (by omega) h17
      subst e17
      refine pw_blk (pc' := 25) [.aload 0, .iload 1] (by decide +kernel) ?_
      show pw_V x m_X8_tell 3 Z 25 [(0, .ref 26), (1, .int (nI j5)), (2, .int (nI j17))] [.int (nI j5), .ref 26] mm
      refine pw_cV (vs := [.int (nI j5)]) (rest := []) k_X8_isThere (c_mThere mm hv hok j5 (by omega)) l_8_201 rfl rfl rfl rfl (by omega) (Nat.le_of_ble_eq_true rfl) (by decide +kernel) ?_
      rintro _ m1 ⟨rfl, e1⟩
      rw [e1]
      clear e1 m1
      show pw_V x m_X8_tell 3 Z 28 [(0, .ref 26), (1, .int (nI j5)), (2, .int (nI j17))] [.int (pw_b ((pw_g A 42 1).testBit j5))] mm
      refine pw_ib_ne (tgt := 34) (off := 6) (by decide +kernel) (by decide) (fun h28 => ?_) (fun h28 => ?_)
      · refine pw_blk (pc' := 35) [.aload 0] (by decide +kernel) ?_
        show pw_V x m_X8_tell 3 Z 35 [(0, .ref 26), (1, .int (nI j5)), (2, .int (nI j17))] [.ref 26] mm
        refine pw_cV (vs := []) (rest := []) k_X8_remembers (c_mrem mm hv hok) l_8_204 rfl rfl rfl rfl (by omega) (Nat.le_of_ble_eq_true rfl) (by decide +kernel) ?_
        rintro _ m1 ⟨rfl, hv1, hf1⟩
        show pw_V x m_X8_tell 3 Z 38 [(0, .ref 26), (1, .int (nI j5)), (2, .int (nI j17))] [] m1
        have hok1 := pw_ok_rem hok
        refine pw_blk (pc' := 62) [.aload 0, .getfield 808, .iconst (8), .iload 1, .iadd, .dup2, .iaload, .iconst 1, .iload 2, .ishl, .ior, .iastore, .aload 0, .getfield 808, .iconst (8), .iload 1, .iadd, .iaload] (by decide +kernel) ?_
        refine ⟨(8 + j5), (show (nI 8) + (nI j5) = nI (8 + j5) from by rw [show (nI 8) + (nI j5) = nI (8 + j5) from nI_add _ _]), by first | omega | exact pw_g_lt, ?_⟩
        refine ⟨(8 + j5), (show (nI 8) + (nI j5) = nI (8 + j5) from by rw [show (nI 8) + (nI j5) = nI (8 + j5) from nI_add _ _]), by first | omega | exact pw_g_lt, ?_⟩
        refine ⟨(8 + j5), (show (nI 8) + (nI j5) = nI (8 + j5) from by rw [show (nI 8) + (nI j5) = nI (8 + j5) from nI_add _ _]), by first | omega | exact pw_g_lt, ?_⟩
        show pw_V x m_X8_tell 3 Z 62 [(0, .ref 26), (1, .int (nI j5)), (2, .int (nI j17))] [.int ((pw_up m1 30 (8 + j5) ((m1 30 (8 + j5)) ||| ((nI 1) <<< ((nI j17) &&& 31)))) 30 (8 + j5))] (pw_up m1 30 (8 + j5) ((m1 30 (8 + j5)) ||| ((nI 1) <<< ((nI j17) &&& 31))))
        rw [show m1 30 (8 + j5) = nI (pw_g (pw_rem A) 44 j5) from mv_nw hv1 hok1 (i := j5) (by omega)]
        rw [show (nI 1) <<< ((nI j17) &&& 31) = nI (2 ^ j17) from pw_shl1 (by first | omega | exact pw_g_lt)]
        rw [show (nI (pw_g (pw_rem A) 44 j5)) ||| (nI (2 ^ j17)) = nI ((pw_g (pw_rem A) 44 j5) ||| (2 ^ j17)) from fa_or _ _]
        rw [show (pw_up m1 30 (8 + j5) (nI ((pw_g (pw_rem A) 44 j5) ||| (2 ^ j17)))) 30 (8 + j5) = nI ((pw_g (pw_rem A) 44 j5) ||| (2 ^ j17)) from pw_up_gs]
        rw [← hZ]
        refine pw_ri (by decide +kernel) ?_
        have eG : G_tell A (nI j5) (nI j17) = pw_up (pw_rem A) 44 j5 (nI (pw_g (pw_rem A) 44 j5 ||| 2 ^ j17)) := by simp [G_tell, pw_inr_nI (show j5 < 2 ^ 31 by omega) (show pw_k A < 2 ^ 31 by omega), pw_c_nI (show j5 < 2 ^ 31 by omega), b5, pw_inr_nI (show j17 < 2 ^ 31 by omega) (show 4 < 2 ^ 31 by omega), pw_c_nI (show j17 < 2 ^ 31 by omega), b17, h5, h17, h28]
        refine ⟨?_, ?_, ?_⟩
        · simp [F_tell, pw_inr_nI (show j5 < 2 ^ 31 by omega) (show pw_k A < 2 ^ 31 by omega), pw_c_nI (show j5 < 2 ^ 31 by omega), b5, pw_inr_nI (show j17 < 2 ^ 31 by omega) (show 4 < 2 ^ 31 by omega), pw_c_nI (show j17 < 2 ^ 31 by omega), b17, h5, h17, h28]
          try rfl
        · rw [eG]; exact mv_tell hv1 (by omega) _
        · exact pw_mf_u hf1 (by decide)
      · refine pw_blk (pc' := 33) [.iconst (-4)] (by decide +kernel) ?_
        show pw_V x m_X8_tell 3 Z 33 [(0, .ref 26), (1, .int (nI j5)), (2, .int (nI j17))] [.int (-4)] mm
        rw [← hZ]
        refine pw_ri (by decide +kernel) ?_
        have eG : G_tell A (nI j5) (nI j17) = A := by simp [G_tell, pw_inr_nI (show j5 < 2 ^ 31 by omega) (show pw_k A < 2 ^ 31 by omega), pw_c_nI (show j5 < 2 ^ 31 by omega), b5, pw_inr_nI (show j17 < 2 ^ 31 by omega) (show 4 < 2 ^ 31 by omega), pw_c_nI (show j17 < 2 ^ 31 by omega), b17, h5, h17, h28]
        refine ⟨?_, ?_, ?_⟩
        · simp [F_tell, pw_inr_nI (show j5 < 2 ^ 31 by omega) (show pw_k A < 2 ^ 31 by omega), pw_c_nI (show j5 < 2 ^ 31 by omega), b5, pw_inr_nI (show j17 < 2 ^ 31 by omega) (show 4 < 2 ^ 31 by omega), pw_c_nI (show j17 < 2 ^ 31 by omega), b17, h5, h17, h28]
          try rfl
        · rw [eG]; exact hv
        · exact pw_mf_r
    · refine pw_blk (pc' := 22) [.iconst (-3)] (by decide +kernel) ?_
      show pw_V x m_X8_tell 3 Z 22 [(0, .ref 26), (1, .int (nI j5)), (2, .int w)] [.int (-3)] mm
      rw [← hZ]
      refine pw_ri (by decide +kernel) ?_
      have eG : G_tell A (nI j5) w = A := by simp [G_tell, pw_inr_nI (show j5 < 2 ^ 31 by omega) (show pw_k A < 2 ^ 31 by omega), pw_c_nI (show j5 < 2 ^ 31 by omega), b5, h5, h17]
      refine ⟨?_, ?_, ?_⟩
      · simp [F_tell, pw_inr_nI (show j5 < 2 ^ 31 by omega) (show pw_k A < 2 ^ 31 by omega), pw_c_nI (show j5 < 2 ^ 31 by omega), b5, h5, h17]
        try rfl
      · rw [eG]; exact hv
      · exact pw_mf_r
  · refine pw_blk (pc' := 10) [.iconst (-2)] (by decide +kernel) ?_
    show pw_V x m_X8_tell 3 Z 10 [(0, .ref 26), (1, .int k), (2, .int w)] [.int (-2)] mm
    rw [← hZ]
    refine pw_ri (by decide +kernel) ?_
    have eG : G_tell A k w = A := by simp [G_tell, h5]
    refine ⟨?_, ?_, ?_⟩
    · simp [F_tell, h5]
      try rfl
    · rw [eG]; exact hv
    · exact pw_mf_r

set_option maxHeartbeats 4000000 in
set_option maxRecDepth 100000 in
theorem c_mundo {A : pw_m} (mm : pw_m) (hv : MV A mm) (hok : pw_ok A) : pw_Ct 0 yX8_undo m_X8_undo [.ref 26] mm (fun r m' => r = some (.int (F_undo A)) ∧ MV (G_undo A) m' ∧ pw_mf_ mm m') := by
  refine pw_ct (by decide +kernel) rfl (Nat.le_of_ble_eq_true rfl) (fun x => ?_)
  generalize hZ : pw_Z x _ = Z
  have bn := pw_bn hok
  have bk := pw_bk hok
  have b112 := pw_b112 hok
  show pw_V x m_X8_undo 0 Z 0 [(0, .ref 26)] [] mm
  refine pw_blk (pc' := 4) [.aload 0, .getfield 809] (by decide +kernel) ?_
  show pw_V x m_X8_undo 0 Z 4 [(0, .ref 26)] [.int (mm 26 9)] mm
  rw [show mm 26 9 = nI (pw_g A 11 2) from mv_ac hv hok]
  refine pw_iz_ne (tgt := 10) (off := 6) (by first | omega | exact pw_g_lt) (by decide +kernel) (by decide) (fun h4 => ?_) (fun h4 => ?_)
  · refine pw_blk (pc' := 16) [.aload 0, .dup, .getfield 809, .iconst 1] (by decide +kernel) ?_
    show pw_V x m_X8_undo 0 Z 16 [(0, .ref 26)] [.int (nI 1), .int (mm 26 9), .ref 26] mm
    rw [show mm 26 9 = nI (pw_g A 11 2) from mv_ac hv hok]
    refine pw_blk (pc' := 17) [.isub] (by decide +kernel) ?_
    show pw_V x m_X8_undo 0 Z 17 [(0, .ref 26)] [.int (nI (pw_g A 11 2) - nI 1), .ref 26] mm
    rw [pk_sub (show 1 ≤ (pw_g A 11 2) by omega)]
    refine pw_blk (pc' := 22) [.putfield 809, .iconst 0, .istore 1] (by decide +kernel) ?_
    show pw_V x m_X8_undo 0 Z 22 [(1, .int (nI 0)), (0, .ref 26)] [] (pw_up mm 26 9 (nI ((pw_g A 11 2) - 1)))
    refine pw_lvp [1, 0] rfl ?_
    rw [← pw_unI_0 (B := pw_up mm 26 9 (nI ((pw_g A 11 2) - 1))) (a := pw_g A 11 2 - 1)]
    suffices lo : ∀ ix : Nat, ix ≤ 20 → pw_V x m_X8_undo 0 Z 22 [(0, .ref 26), (1, .int (nI ix))] [] (pw_unI (pw_up mm 26 9 (nI ((pw_g A 11 2) - 1))) (pw_g A 11 2 - 1) ix) from lo 0 (by omega)
    refine pw_dn 20 (fun ix hix ih => ?_)
    refine pw_blk (pc' := 25) [.iload 1, .iconst (20)] (by decide +kernel) ?_
    show pw_V x m_X8_undo 0 Z 25 [(0, .ref 26), (1, .int (nI ix))] [.int (nI 20), .int (nI ix)] (pw_unI (pw_up mm 26 9 (nI ((pw_g A 11 2) - 1))) (pw_g A 11 2 - 1) ix)
    refine pw_in_ge (tgt := 54) (off := 29) (by first | omega | exact pw_g_lt) (by first | omega | exact pw_g_lt) (by decide +kernel) (by decide) (fun h25 => ?_) (fun h25 => ?_)
    · refine pw_blk (pc' := 58) [.aload 0, .getfield 809] (by decide +kernel) ?_
      show pw_V x m_X8_undo 0 Z 58 [(0, .ref 26), (1, .int (nI ix))] [.int ((pw_unI (pw_up mm 26 9 (nI ((pw_g A 11 2) - 1))) (pw_g A 11 2 - 1) ix) 26 9)] (pw_unI (pw_up mm 26 9 (nI ((pw_g A 11 2) - 1))) (pw_g A 11 2 - 1) ix)
      rw [show (pw_unI (pw_up mm 26 9 (nI ((pw_g A 11 2) - 1))) (pw_g A 11 2 - 1) ix) 26 9 = nI (pw_g A 11 2 - 1) from (rfl : pw_up mm 26 9 (nI (pw_g A 11 2 - 1)) 26 9 = nI (pw_g A 11 2 - 1))]
      rw [← hZ]
      refine pw_ri (by decide +kernel) ?_
      refine ⟨by simp [F_undo, h4], ?_, ?_⟩
      · unfold G_undo
        rw [if_neg h4, show ix = 20 by omega]
        exact mv_undo hv hok (by omega)
      · exact fun c hc => by unfold pw_unI; rw [if_neg (by omega), pw_up_ne (by omega)]
    · refine pw_blk (pc' := 51) [.aload 0, .getfield 808, .iload 1, .aload 0, .getfield 810, .iconst (20), .aload 0, .getfield 809, .imul, .iload 1, .iadd, .iaload, .iastore, .iinc 1 1] (by decide +kernel) ?_
      refine ⟨((20 * (pw_g A 11 2 - 1)) + ix), (show ((nI 20) * ((pw_unI (pw_up mm 26 9 (nI ((pw_g A 11 2) - 1))) (pw_g A 11 2 - 1) ix) 26 9)) + (nI ix) = nI ((20 * (pw_g A 11 2 - 1)) + ix) from by rw [show (pw_unI (pw_up mm 26 9 (nI ((pw_g A 11 2) - 1))) (pw_g A 11 2 - 1) ix) 26 9 = nI (pw_g A 11 2 - 1) from (rfl : pw_up mm 26 9 (nI (pw_g A 11 2 - 1)) 26 9 = nI (pw_g A 11 2 - 1)), show (nI 20) * (nI (pw_g A 11 2 - 1)) = nI (20 * (pw_g A 11 2 - 1)) from pk_mul _ _, show (nI (20 * (pw_g A 11 2 - 1))) + (nI ix) = nI ((20 * (pw_g A 11 2 - 1)) + ix) from nI_add _ _]), by first | omega | exact pw_g_lt, ?_⟩
      refine ⟨ix, rfl, by first | omega | exact pw_g_lt, ?_⟩
      show pw_V x m_X8_undo 0 Z 51 [(1, .int ((nI ix) + (nI 1))), (0, .ref 26)] [] (pw_up (pw_unI (pw_up mm 26 9 (nI ((pw_g A 11 2) - 1))) (pw_g A 11 2 - 1) ix) 30 ix ((pw_unI (pw_up mm 26 9 (nI ((pw_g A 11 2) - 1))) (pw_g A 11 2 - 1) ix) 31 ((20 * (pw_g A 11 2 - 1)) + ix)))
      rw [show (nI ix) + (nI 1) = nI (ix + 1) from nI_add _ _]
      refine pw_goto (tgt := 22) (off := -29) (by decide +kernel) (by decide) ?_
      rw [show pw_up (pw_unI (pw_up mm 26 9 (nI ((pw_g A 11 2) - 1))) (pw_g A 11 2 - 1) ix) 30 ix ((pw_unI (pw_up mm 26 9 (nI ((pw_g A 11 2) - 1))) (pw_g A 11 2 - 1) ix) 31 ((20 * (pw_g A 11 2 - 1)) + ix)) = pw_unI (pw_up mm 26 9 (nI ((pw_g A 11 2) - 1))) (pw_g A 11 2 - 1) (ix + 1) from pw_unI_s]
      refine pw_lvp [1, 0] rfl ?_
      exact ih (by omega)
  · refine pw_blk (pc' := 9) [.iconst (-4)] (by decide +kernel) ?_
    show pw_V x m_X8_undo 0 Z 9 [(0, .ref 26)] [.int (-4)] mm
    rw [← hZ]
    refine pw_ri (by decide +kernel) ?_
    refine ⟨by simp [F_undo, h4], ?_, pw_mf_r⟩
    unfold G_undo
    rw [if_pos h4]
    exact hv

set_option maxHeartbeats 4000000 in
set_option maxRecDepth 100000 in
theorem c_mkeep {A : pw_m} (mm : pw_m) (hv : MV A mm) (hok : pw_ok A) (k : Int32) : pw_Ct 1 yX8_keep m_X8_keep [.ref 26, .int k] mm (fun r m' => r = some (.int (F_keep A k)) ∧ MV (G_keep A k) m' ∧ pw_mf_ mm m') := by
  refine pw_ct (by decide +kernel) rfl (Nat.le_of_ble_eq_true rfl) (fun x => ?_)
  generalize hZ : pw_Z x _ = Z
  have bn := pw_bn hok
  have bk := pw_bk hok
  show pw_V x m_X8_keep 1 Z 0 [(0, .ref 26), (1, .int k)] [] mm
  refine pw_blk (pc' := 3) [.iload 1, .iconst 0, .iconst 1] (by decide +kernel) ?_
  show pw_V x m_X8_keep 1 Z 3 [(0, .ref 26), (1, .int k)] [.int (nI 1), .int (nI 0), .int k] mm
  refine pw_cS (vs := [.int k, .int (nI 0), .int (nI 1)]) (rest := []) k_X8_in (c_in0 k 1 mm (by first | omega | exact pw_g_lt)) l_8_78 rfl (by omega) (Nat.le_of_ble_eq_true rfl) (by decide +kernel) ?_
  rintro _ m1 ⟨rfl, e1⟩
  rw [e1]
  clear e1 m1
  show pw_V x m_X8_keep 1 Z 6 [(0, .ref 26), (1, .int k)] [.int (pw_b (pw_inr k 2))] mm
  refine pw_ib_ne (tgt := 12) (off := 6) (by decide +kernel) (by decide) (fun h6 => ?_) (fun h6 => ?_)
  · obtain ⟨j6, b6, e6⟩ := pw_inr_t (by omega) h6
    subst e6
    refine pw_blk (pc' := 14) [.iconst 0, .istore 2] (by decide +kernel) ?_
    show pw_V x m_X8_keep 1 Z 14 [(2, .int (nI 0)), (0, .ref 26), (1, .int (nI j6))] [] mm
    refine pw_lvp [1, 2, 0] rfl ?_
    rw [← pw_keI_0 (B := mm) (a := j6)]
    suffices lo : ∀ ix : Nat, ix ≤ 20 → pw_V x m_X8_keep 1 Z 14 [(0, .ref 26), (1, .int (nI j6)), (2, .int (nI ix))] [] (pw_keI mm j6 ix) from lo 0 (by omega)
    refine pw_dn 20 (fun ix hix ih => ?_)
    refine pw_blk (pc' := 17) [.iload 2, .iconst (20)] (by decide +kernel) ?_
    show pw_V x m_X8_keep 1 Z 17 [(0, .ref 26), (1, .int (nI j6)), (2, .int (nI ix))] [.int (nI 20), .int (nI ix)] (pw_keI mm j6 ix)
    refine pw_in_ge (tgt := 43) (off := 26) (by first | omega | exact pw_g_lt) (by first | omega | exact pw_g_lt) (by decide +kernel) (by decide) (fun h17 => ?_) (fun h17 => ?_)
    · have e20 : ix = 20 := by omega
      subst e20
      refine pw_blk (pc' := 56) [.aload 0, .getfield 812, .iload 1, .iconst 1, .bastore, .aload 0, .getfield 808, .iconst 0, .iaload] (by decide +kernel) ?_
      refine ⟨Or.inr rfl, j6, rfl, by first | omega | exact pw_g_lt, ?_⟩
      refine ⟨0, rfl, by first | omega | exact pw_g_lt, ?_⟩
      show pw_V x m_X8_keep 1 Z 56 [(0, .ref 26), (1, .int (nI j6)), (2, .int (nI 20))] [.int ((pw_keI mm j6 20) 30 0)] (pw_up (pw_keI mm j6 20) 33 j6 (nI 1))
      rw [show (pw_keI mm j6 20) 30 0 = nI (pw_g A 42 0) from (mv_d hv hok : mm 30 0 = _)]
      rw [← hZ]
      refine pw_ri (by decide +kernel) ?_
      have y6 : pw_inr (nI j6) 2 = true := by rw [pw_inr_nI (show j6 < 2 ^ 31 by omega) (show 2 < 2 ^ 31 by omega)]; exact decide_eq_true b6
      refine ⟨?_, ?_, ?_⟩
      · unfold F_keep; rw [if_pos y6, pw_q420 hok]
      · unfold G_keep; rw [if_pos y6, pw_c_nI (show j6 < 2 ^ 31 by omega)]; exact mv_keep hv hok b6
      · exact pw_mf_u (fun c hc => by unfold pw_keI; rw [if_neg (by omega)]) (by decide)
    · refine pw_blk (pc' := 40) [.aload 0, .getfield 811, .iconst (20), .iload 1, .imul, .iload 2, .iadd, .aload 0, .getfield 808, .iload 2, .iaload, .iastore, .iinc 2 1] (by decide +kernel) ?_
      refine ⟨ix, rfl, by first | omega | exact pw_g_lt, ?_⟩
      refine ⟨((20 * j6) + ix), (show ((nI 20) * (nI j6)) + (nI ix) = nI ((20 * j6) + ix) from by rw [show (nI 20) * (nI j6) = nI (20 * j6) from pk_mul _ _, show (nI (20 * j6)) + (nI ix) = nI ((20 * j6) + ix) from nI_add _ _]), by first | omega | exact pw_g_lt, ?_⟩
      show pw_V x m_X8_keep 1 Z 40 [(2, .int ((nI ix) + (nI 1))), (0, .ref 26), (1, .int (nI j6))] [] (pw_up (pw_keI mm j6 ix) 32 ((20 * j6) + ix) ((pw_keI mm j6 ix) 30 ix))
      rw [show (nI ix) + (nI 1) = nI (ix + 1) from nI_add _ _]
      refine pw_goto (tgt := 14) (off := -26) (by decide +kernel) (by decide) ?_
      rw [show pw_up (pw_keI mm j6 ix) 32 ((20 * j6) + ix) ((pw_keI mm j6 ix) 30 ix) = pw_keI mm j6 (ix + 1) from pw_keI_s]
      refine pw_lvp [1, 2, 0] rfl ?_
      exact ih (by omega)
  · refine pw_blk (pc' := 11) [.iconst (-2)] (by decide +kernel) ?_
    show pw_V x m_X8_keep 1 Z 11 [(0, .ref 26), (1, .int k)] [.int (-2)] mm
    rw [← hZ]
    refine pw_ri (by decide +kernel) ?_
    refine ⟨by simp [F_keep, h6], ?_, pw_mf_r⟩
    unfold G_keep
    rw [if_neg (by rw [h6]; decide)]
    exact hv

theorem pw_bae {A B : pw_m} (hv : MV A B) {a : Nat} (ha : a < 2) (hb : (pw_g A 11 3).testBit a = true) : pw_baI B a 20 30 0 = A (78 + 4 * a) 0 := by
  unfold pw_baI
  rw [if_pos rfl, if_pos (by omega), (hv.2.2.1.2.2 a ha).2 hb 0 (by omega)]
  rfl

set_option maxHeartbeats 4000000 in
set_option maxRecDepth 100000 in
theorem c_mback {A : pw_m} (mm : pw_m) (hv : MV A mm) (hok : pw_ok A) (k : Int32) : pw_Ct 1 yX8_back m_X8_back [.ref 26, .int k] mm (fun r m' => r = some (.int (F_back A k)) ∧ MV (G_back A k) m' ∧ pw_mf_ mm m') := by
  refine pw_ct (by decide +kernel) rfl (Nat.le_of_ble_eq_true rfl) (fun x => ?_)
  generalize hZ : pw_Z x _ = Z
  have bn := pw_bn hok
  have bk := pw_bk hok
  show pw_V x m_X8_back 1 Z 0 [(0, .ref 26), (1, .int k)] [] mm
  refine pw_blk (pc' := 3) [.iload 1, .iconst 0, .iconst 1] (by decide +kernel) ?_
  show pw_V x m_X8_back 1 Z 3 [(0, .ref 26), (1, .int k)] [.int (nI 1), .int (nI 0), .int k] mm
  refine pw_cS (vs := [.int k, .int (nI 0), .int (nI 1)]) (rest := []) k_X8_in (c_in0 k 1 mm (by first | omega | exact pw_g_lt)) l_8_78 rfl (by omega) (Nat.le_of_ble_eq_true rfl) (by decide +kernel) ?_
  rintro _ m1 ⟨rfl, e1⟩
  rw [e1]
  clear e1 m1
  show pw_V x m_X8_back 1 Z 6 [(0, .ref 26), (1, .int k)] [.int (pw_b (pw_inr k 2))] mm
  refine pw_ib_ne (tgt := 12) (off := 6) (by decide +kernel) (by decide) (fun h6 => ?_) (fun h6 => ?_)
  · obtain ⟨j6, b6, e6⟩ := pw_inr_t (by omega) h6
    subst e6
    refine pw_blk (pc' := 18) [.aload 0, .getfield 812, .iload 1, .baload] (by decide +kernel) ?_
    refine ⟨j6, rfl, by first | omega | exact pw_g_lt, ?_⟩
    show pw_V x m_X8_back 1 Z 18 [(0, .ref 26), (1, .int (nI j6))] [.int (mm 33 j6)] mm
    rw [show mm 33 j6 = pw_b ((pw_g A 11 3).testBit j6) from (hv.2.2.1.2.2 j6 b6).1]
    refine pw_ib_ne (tgt := 24) (off := 6) (by decide +kernel) (by decide) (fun h18 => ?_) (fun h18 => ?_)
    · refine pw_blk (pc' := 26) [.iconst 0, .istore 2] (by decide +kernel) ?_
      show pw_V x m_X8_back 1 Z 26 [(2, .int (nI 0)), (0, .ref 26), (1, .int (nI j6))] [] mm
      refine pw_lvp [1, 2, 0] rfl ?_
      rw [← pw_baI_0 (B := mm) (a := j6)]
      suffices lo : ∀ ix : Nat, ix ≤ 20 → pw_V x m_X8_back 1 Z 26 [(0, .ref 26), (1, .int (nI j6)), (2, .int (nI ix))] [] (pw_baI mm j6 ix) from lo 0 (by omega)
      refine pw_dn 20 (fun ix hix ih => ?_)
      refine pw_blk (pc' := 29) [.iload 2, .iconst (20)] (by decide +kernel) ?_
      show pw_V x m_X8_back 1 Z 29 [(0, .ref 26), (1, .int (nI j6)), (2, .int (nI ix))] [.int (nI 20), .int (nI ix)] (pw_baI mm j6 ix)
      refine pw_in_ge (tgt := 55) (off := 26) (by first | omega | exact pw_g_lt) (by first | omega | exact pw_g_lt) (by decide +kernel) (by decide) (fun h29 => ?_) (fun h29 => ?_)
      · have e20 : ix = 20 := by omega
        subst e20
        refine pw_blk (pc' := 66) [.aload 0, .iconst 0, .putfield 809, .aload 0, .getfield 808, .iconst 0, .iaload] (by decide +kernel) ?_
        refine ⟨0, rfl, by first | omega | exact pw_g_lt, ?_⟩
        show pw_V x m_X8_back 1 Z 66 [(0, .ref 26), (1, .int (nI j6)), (2, .int (nI 20))] [.int ((pw_baI mm j6 20) 30 0)] (pw_up (pw_baI mm j6 20) 26 9 (nI 0))
        rw [show (pw_baI mm j6 20) 30 0 = A (78 + 4 * j6) 0 from pw_bae hv b6 h18]
        rw [← hZ]
        refine pw_ri (by decide +kernel) ?_
        have y6 : pw_inr (nI j6) 2 = true := by rw [pw_inr_nI (show j6 < 2 ^ 31 by omega) (show 2 < 2 ^ 31 by omega)]; exact decide_eq_true b6
        refine ⟨?_, ?_, ?_⟩
        · unfold F_back; rw [if_pos y6, pw_c_nI (show j6 < 2 ^ 31 by omega), if_pos h18]
        · unfold G_back; rw [pw_c_nI (show j6 < 2 ^ 31 by omega), if_pos ⟨y6, h18⟩]; exact mv_back hv hok b6 h18
        · exact pw_mf_u (fun c hc => by unfold pw_baI; rw [if_neg (by omega)]) (by decide)
      · refine pw_blk (pc' := 52) [.aload 0, .getfield 808, .iload 2, .aload 0, .getfield 811, .iconst (20), .iload 1, .imul, .iload 2, .iadd, .iaload, .iastore, .iinc 2 1] (by decide +kernel) ?_
        refine ⟨((20 * j6) + ix), (show ((nI 20) * (nI j6)) + (nI ix) = nI ((20 * j6) + ix) from by rw [show (nI 20) * (nI j6) = nI (20 * j6) from pk_mul _ _, show (nI (20 * j6)) + (nI ix) = nI ((20 * j6) + ix) from nI_add _ _]), by first | omega | exact pw_g_lt, ?_⟩
        refine ⟨ix, rfl, by first | omega | exact pw_g_lt, ?_⟩
        show pw_V x m_X8_back 1 Z 52 [(2, .int ((nI ix) + (nI 1))), (0, .ref 26), (1, .int (nI j6))] [] (pw_up (pw_baI mm j6 ix) 30 ix ((pw_baI mm j6 ix) 32 ((20 * j6) + ix)))
        rw [show (nI ix) + (nI 1) = nI (ix + 1) from nI_add _ _]
        refine pw_goto (tgt := 26) (off := -26) (by decide +kernel) (by decide) ?_
        rw [show pw_up (pw_baI mm j6 ix) 30 ix ((pw_baI mm j6 ix) 32 ((20 * j6) + ix)) = pw_baI mm j6 (ix + 1) from pw_baI_s]
        refine pw_lvp [1, 2, 0] rfl ?_
        exact ih (by omega)
    · refine pw_blk (pc' := 23) [.iconst (-4)] (by decide +kernel) ?_
      show pw_V x m_X8_back 1 Z 23 [(0, .ref 26), (1, .int (nI j6))] [.int (-4)] mm
      rw [← hZ]
      refine pw_ri (by decide +kernel) ?_
      have y6 : pw_inr (nI j6) 2 = true := by rw [pw_inr_nI (show j6 < 2 ^ 31 by omega) (show 2 < 2 ^ 31 by omega)]; exact decide_eq_true b6
      refine ⟨?_, ?_, pw_mf_r⟩
      · unfold F_back; rw [if_pos y6, pw_c_nI (show j6 < 2 ^ 31 by omega), if_neg (by rw [h18]; decide)]
      · unfold G_back; rw [pw_c_nI (show j6 < 2 ^ 31 by omega), if_neg (by rw [h18]; simp)]; exact hv
  · refine pw_blk (pc' := 11) [.iconst (-2)] (by decide +kernel) ?_
    show pw_V x m_X8_back 1 Z 11 [(0, .ref 26), (1, .int k)] [.int (-2)] mm
    rw [← hZ]
    refine pw_ri (by decide +kernel) ?_
    refine ⟨by simp [F_back, h6], ?_, pw_mf_r⟩
    unfold G_back
    rw [if_neg (by rw [h6]; simp)]
    exact hv

set_option maxHeartbeats 4000000 in
set_option maxRecDepth 100000 in
theorem c_mwrite {A : pw_m} (mm : pw_m) (hv : MV A mm) (hok : pw_ok A) (l : Int32) : pw_Ct 1 yX8_write m_X8_write [.ref 26, .int l] mm (fun r m' => r = some (.int (F_write A l)) ∧ MV (G_write A l) m' ∧ pw_mf_ mm m') := by
  refine pw_ct (by decide +kernel) rfl (Nat.le_of_ble_eq_true rfl) (fun x => ?_)
  generalize hZ : pw_Z x _ = Z
  have bn := pw_bn hok
  have bk := pw_bk hok
  have b21 := pw_b21 hok
  show pw_V x m_X8_write 1 Z 0 [(0, .ref 26), (1, .int l)] [] mm
  refine pw_blk (pc' := 5) [.iload 1, .iconst 0, .iconst (255)] (by decide +kernel) ?_
  show pw_V x m_X8_write 1 Z 5 [(0, .ref 26), (1, .int l)] [.int (nI 255), .int (nI 0), .int l] mm
  refine pw_cS (vs := [.int l, .int (nI 0), .int (nI 255)]) (rest := []) k_X8_in (c_in0 l 255 mm (by first | omega | exact pw_g_lt)) l_8_78 rfl (by omega) (Nat.le_of_ble_eq_true rfl) (by decide +kernel) ?_
  rintro _ m1 ⟨rfl, e1⟩
  rw [e1]
  clear e1 m1
  show pw_V x m_X8_write 1 Z 8 [(0, .ref 26), (1, .int l)] [.int (pw_b (pw_inr l 256))] mm
  refine pw_ib_ne (tgt := 14) (off := 6) (by decide +kernel) (by decide) (fun h8 => ?_) (fun h8 => ?_)
  · obtain ⟨j8, b8, e8⟩ := pw_inr_t (by omega) h8
    subst e8
    refine pw_blk (pc' := 21) [.aload 0, .getfield 816, .iconst (160)] (by decide +kernel) ?_
    show pw_V x m_X8_write 1 Z 21 [(0, .ref 26), (1, .int (nI j8))] [.int (nI 160), .int (mm 26 16)] mm
    rw [show mm 26 16 = nI (pw_g A 2 1) from mv_tn hv hok]
    refine pw_in_ne (tgt := 27) (off := 6) (by first | omega | exact pw_g_lt) (by first | omega | exact pw_g_lt) (by decide +kernel) (by decide) (fun h21 => ?_) (fun h21 => ?_)
    · refine pw_blk (pc' := 51) [.aload 0, .getfield 815, .aload 0, .getfield 816, .iload 1, .iastore, .aload 0, .dup, .getfield 816, .iconst 1, .iadd, .putfield 816, .aload 0, .getfield 816] (by decide +kernel) ?_
      refine ⟨(pw_g A 2 1), (show mm 26 16 = nI (pw_g A 2 1) from by rw [show mm 26 16 = nI (pw_g A 2 1) from mv_tn hv hok]), by first | omega | exact pw_g_lt, ?_⟩
      show pw_V x m_X8_write 1 Z 51 [(0, .ref 26), (1, .int (nI j8))] [.int ((mm 26 16) + (nI 1))] (pw_up (pw_up mm 35 (pw_g A 2 1) (nI j8)) 26 16 ((mm 26 16) + (nI 1)))
      rw [show mm 26 16 = nI (pw_g A 2 1) from mv_tn hv hok]
      rw [show (nI (pw_g A 2 1)) + (nI 1) = nI ((pw_g A 2 1) + 1) from nI_add _ _]
      rw [← hZ]
      refine pw_ri (by decide +kernel) ?_
      have eG : G_write A (nI j8) = pw_up (pw_up A 3 (pw_g A 2 1) (nI j8)) 2 1 (nI (pw_g A 2 1 + 1)) := by simp [G_write, pw_inr_nI (show j8 < 2 ^ 31 by omega) (show 256 < 2 ^ 31 by omega), pw_c_nI (show j8 < 2 ^ 31 by omega), b8, h8, h21, show pw_g A 2 1 < 160 by omega]
      refine ⟨?_, ?_, ?_⟩
      · simp [F_write, pw_inr_nI (show j8 < 2 ^ 31 by omega) (show 256 < 2 ^ 31 by omega), pw_c_nI (show j8 < 2 ^ 31 by omega), b8, h8, h21, show pw_g A 2 1 < 160 by omega]
        try rfl
      · rw [eG]; exact mv_write hv hok (nI j8) (by omega)
      · exact pw_mf_u (pw_mf_u pw_mf_r (by decide)) (by decide)
    · refine pw_blk (pc' := 26) [.iconst (-5)] (by decide +kernel) ?_
      show pw_V x m_X8_write 1 Z 26 [(0, .ref 26), (1, .int (nI j8))] [.int (-5)] mm
      rw [← hZ]
      refine pw_ri (by decide +kernel) ?_
      have eG : G_write A (nI j8) = A := by simp [G_write, pw_inr_nI (show j8 < 2 ^ 31 by omega) (show 256 < 2 ^ 31 by omega), pw_c_nI (show j8 < 2 ^ 31 by omega), b8, h8, h21]
      refine ⟨?_, ?_, ?_⟩
      · simp [F_write, pw_inr_nI (show j8 < 2 ^ 31 by omega) (show 256 < 2 ^ 31 by omega), pw_c_nI (show j8 < 2 ^ 31 by omega), b8, h8, h21]
        try rfl
      · rw [eG]; exact hv
      · exact pw_mf_r
  · refine pw_blk (pc' := 13) [.iconst (-3)] (by decide +kernel) ?_
    show pw_V x m_X8_write 1 Z 13 [(0, .ref 26), (1, .int l)] [.int (-3)] mm
    rw [← hZ]
    refine pw_ri (by decide +kernel) ?_
    have eG : G_write A l = A := by simp [G_write, h8]
    refine ⟨?_, ?_, ?_⟩
    · simp [F_write, h8]
      try rfl
    · rw [eG]; exact hv
    · exact pw_mf_r

set_option maxHeartbeats 4000000 in
set_option maxRecDepth 100000 in
theorem c_merase {A : pw_m} (mm : pw_m) (hv : MV A mm) (hok : pw_ok A) : pw_Ct 0 yX8_erase m_X8_erase [.ref 26] mm (fun r m' => r = some (.int (A 2 1)) ∧ MV (pw_up A 2 1 0) m' ∧ pw_mf_ mm m') := by
  refine pw_ct (by decide +kernel) rfl (Nat.le_of_ble_eq_true rfl) (fun x => ?_)
  generalize hZ : pw_Z x _ = Z
  show pw_V x m_X8_erase 0 Z 0 [(0, .ref 26)] [] mm
  refine pw_blk (pc' := 11) [.aload 0, .getfield 816, .istore 1, .aload 0, .iconst 0, .putfield 816, .iload 1] (by decide +kernel) ?_
  show pw_V x m_X8_erase 0 Z 11 [(1, .int (mm 26 16)), (0, .ref 26)] [.int (mm 26 16)] (pw_up mm 26 16 (nI 0))
  rw [show mm 26 16 = nI (pw_g A 2 1) from mv_tn hv hok]
  rw [← hZ]
  refine pw_ri (by decide +kernel) ?_
  exact ⟨by rw [pw_q21 hok], mv_erase hv, pw_mf_u pw_mf_r (by decide)⟩

set_option maxHeartbeats 4000000 in
set_option maxRecDepth 100000 in
theorem c_mforget {A : pw_m} (mm : pw_m) (hv : MV A mm) (hok : pw_ok A) : pw_Ct 0 yX8_forget m_X8_forget [.ref 26] mm (fun r m' => r = some (.int (A 14 4)) ∧ MV (pw_up A 14 4 0) m' ∧ pw_mf_ mm m') := by
  refine pw_ct (by decide +kernel) rfl (Nat.le_of_ble_eq_true rfl) (fun x => ?_)
  generalize hZ : pw_Z x _ = Z
  show pw_V x m_X8_forget 0 Z 0 [(0, .ref 26)] [] mm
  refine pw_blk (pc' := 11) [.aload 0, .getfield 813, .istore 1, .aload 0, .iconst 0, .putfield 813, .iload 1] (by decide +kernel) ?_
  show pw_V x m_X8_forget 0 Z 11 [(1, .int (mm 26 13)), (0, .ref 26)] [.int (mm 26 13)] (pw_up mm 26 13 (nI 0))
  rw [show mm 26 13 = nI (pw_g A 14 4) from mv_sn hv hok]
  rw [← hZ]
  refine pw_ri (by decide +kernel) ?_
  exact ⟨by rw [pw_q144 hok], mv_forget hv, pw_mf_u pw_mf_r (by decide)⟩

set_option maxHeartbeats 4000000 in
set_option maxRecDepth 100000 in
theorem c_mseen {A : pw_m} (mm : pw_m) (hv : MV A mm) (hok : pw_ok A) (k s d t : Int32) : pw_Ct 2 yX8_seen m_X8_seen [.ref 26, .int k, .int s, .int d, .int t] mm (fun r m' => r = some (.int (F_seen A k s d t)) ∧ MV (G_seen A k s d t) m' ∧ pw_mf_ mm m') := by
  refine pw_ct (by decide +kernel) rfl (Nat.le_of_ble_eq_true rfl) (fun x => ?_)
  generalize hZ : pw_Z x _ = Z
  have bn := pw_bn hok
  have bk := pw_bk hok
  have b144 := pw_b144 hok
  have b420 := pw_b420 hok
  show pw_V x m_X8_seen 2 Z 0 [(0, .ref 26), (1, .int k), (2, .int s), (3, .int d), (4, .int t)] [] mm
  refine pw_blk (pc' := 2) [.aload 0, .iload 1] (by decide +kernel) ?_
  show pw_V x m_X8_seen 2 Z 2 [(0, .ref 26), (1, .int k), (2, .int s), (3, .int d), (4, .int t)] [.int k, .ref 26] mm
  refine pw_cV (vs := [.int k]) (rest := []) k_X8_isKnight (c_misKnight mm hv hok k) l_8_82 rfl rfl rfl rfl (by omega) (Nat.le_of_ble_eq_true rfl) (by decide +kernel) ?_
  rintro _ m1 ⟨rfl, e1⟩
  rw [e1]
  clear e1 m1
  show pw_V x m_X8_seen 2 Z 5 [(0, .ref 26), (1, .int k), (2, .int s), (3, .int d), (4, .int t)] [.int (pw_b (pw_inr k (pw_k A)))] mm
  refine pw_ib_eq (tgt := 16) (off := 11) (by decide +kernel) (by decide) (fun h5 => ?_) (fun h5 => ?_)
  · refine pw_blk (pc' := 18) [.iconst (-2)] (by decide +kernel) ?_
    show pw_V x m_X8_seen 2 Z 18 [(0, .ref 26), (1, .int k), (2, .int s), (3, .int d), (4, .int t)] [.int (-2)] mm
    rw [← hZ]
    refine pw_ri (by decide +kernel) ?_
    have eG : G_seen A k s d t = A := by simp [G_seen, h5]
    refine ⟨?_, ?_, ?_⟩
    · simp [F_seen, h5]
      try rfl
    · rw [eG]; exact hv
    · exact pw_mf_r
  · obtain ⟨j5, b5, e5⟩ := pw_inr_t (by omega) h5
    subst e5
    refine pw_blk (pc' := 10) [.aload 0, .iload 2] (by decide +kernel) ?_
    show pw_V x m_X8_seen 2 Z 10 [(0, .ref 26), (1, .int (nI j5)), (2, .int s), (3, .int d), (4, .int t)] [.int s, .ref 26] mm
    refine pw_cV (vs := [.int s]) (rest := []) k_X8_isSeat (c_misSeat mm hv hok s) l_8_195 rfl rfl rfl rfl (by omega) (Nat.le_of_ble_eq_true rfl) (by decide +kernel) ?_
    rintro _ m1 ⟨rfl, e1⟩
    rw [e1]
    clear e1 m1
    show pw_V x m_X8_seen 2 Z 13 [(0, .ref 26), (1, .int (nI j5)), (2, .int s), (3, .int d), (4, .int t)] [.int (pw_b (pw_inr s (pw_n A)))] mm
    refine pw_ib_ne (tgt := 19) (off := 6) (by decide +kernel) (by decide) (fun h13 => ?_) (fun h13 => ?_)
    · obtain ⟨j13, b13, e13⟩ := pw_inr_t (by omega) h13
      subst e13
      refine pw_blk (pc' := 27) [.iload 3, .iconst 0, .aload 0, .getfield 808, .iconst 0, .iaload] (by decide +kernel) ?_
      refine ⟨0, rfl, by first | omega | exact pw_g_lt, ?_⟩
      show pw_V x m_X8_seen 2 Z 27 [(0, .ref 26), (1, .int (nI j5)), (2, .int (nI j13)), (3, .int d), (4, .int t)] [.int (mm 30 0), .int (nI 0), .int d] mm
      rw [show mm 30 0 = nI (pw_g A 42 0) from mv_d hv hok]
      refine pw_cS (vs := [.int d, .int (nI 0), .int (nI (pw_g A 42 0))]) (rest := []) k_X8_in (c_in0 d (pw_g A 42 0) mm (by first | omega | exact pw_g_lt)) l_8_78 rfl (by omega) (Nat.le_of_ble_eq_true rfl) (by decide +kernel) ?_
      rintro _ m1 ⟨rfl, e1⟩
      rw [e1]
      clear e1 m1
      show pw_V x m_X8_seen 2 Z 30 [(0, .ref 26), (1, .int (nI j5)), (2, .int (nI j13)), (3, .int d), (4, .int t)] [.int (pw_b (pw_inr d ((pw_g A 42 0) + 1)))] mm
      refine pw_ib_eq (tgt := 43) (off := 13) (by decide +kernel) (by decide) (fun h30 => ?_) (fun h30 => ?_)
      · refine pw_blk (pc' := 45) [.iconst (-3)] (by decide +kernel) ?_
        show pw_V x m_X8_seen 2 Z 45 [(0, .ref 26), (1, .int (nI j5)), (2, .int (nI j13)), (3, .int d), (4, .int t)] [.int (-3)] mm
        rw [← hZ]
        refine pw_ri (by decide +kernel) ?_
        have eG : G_seen A (nI j5) (nI j13) d t = A := by simp [G_seen, pw_inr_nI (show j5 < 2 ^ 31 by omega) (show pw_k A < 2 ^ 31 by omega), pw_c_nI (show j5 < 2 ^ 31 by omega), b5, pw_inr_nI (show j13 < 2 ^ 31 by omega) (show pw_n A < 2 ^ 31 by omega), pw_c_nI (show j13 < 2 ^ 31 by omega), b13, h5, h13, h30]
        refine ⟨?_, ?_, ?_⟩
        · simp [F_seen, pw_inr_nI (show j5 < 2 ^ 31 by omega) (show pw_k A < 2 ^ 31 by omega), pw_c_nI (show j5 < 2 ^ 31 by omega), b5, pw_inr_nI (show j13 < 2 ^ 31 by omega) (show pw_n A < 2 ^ 31 by omega), pw_c_nI (show j13 < 2 ^ 31 by omega), b13, h5, h13, h30]
          try rfl
        · rw [eG]; exact hv
        · exact pw_mf_r
      · obtain ⟨j30, b30, e30⟩ := pw_inr_t (by omega) h30
        subst e30
        refine pw_blk (pc' := 37) [.iload 4, .iconst 0, .iconst 1] (by decide +kernel) ?_
        show pw_V x m_X8_seen 2 Z 37 [(0, .ref 26), (1, .int (nI j5)), (2, .int (nI j13)), (3, .int (nI j30)), (4, .int t)] [.int (nI 1), .int (nI 0), .int t] mm
        refine pw_cS (vs := [.int t, .int (nI 0), .int (nI 1)]) (rest := []) k_X8_in (c_in0 t 1 mm (by first | omega | exact pw_g_lt)) l_8_78 rfl (by omega) (Nat.le_of_ble_eq_true rfl) (by decide +kernel) ?_
        rintro _ m1 ⟨rfl, e1⟩
        rw [e1]
        clear e1 m1
        show pw_V x m_X8_seen 2 Z 40 [(0, .ref 26), (1, .int (nI j5)), (2, .int (nI j13)), (3, .int (nI j30)), (4, .int t)] [.int (pw_b (pw_inr t 2))] mm
        refine pw_ib_ne (tgt := 46) (off := 6) (by decide +kernel) (by decide) (fun h40 => ?_) (fun h40 => ?_)
        · obtain ⟨j40, b40, e40⟩ := pw_inr_t (by omega) h40
          subst e40
          refine pw_blk (pc' := 52) [.aload 0, .getfield 813, .iconst (8)] (by decide +kernel) ?_
          show pw_V x m_X8_seen 2 Z 52 [(0, .ref 26), (1, .int (nI j5)), (2, .int (nI j13)), (3, .int (nI j30)), (4, .int (nI j40))] [.int (nI 8), .int (mm 26 13)] mm
          rw [show mm 26 13 = nI (pw_g A 14 4) from mv_sn hv hok]
          refine pw_in_ne (tgt := 58) (off := 6) (by first | omega | exact pw_g_lt) (by first | omega | exact pw_g_lt) (by decide +kernel) (by decide) (fun h52 => ?_) (fun h52 => ?_)
          · refine pw_blk (pc' := 127) [.aload 0, .getfield 814, .iconst 4, .aload 0, .getfield 813, .imul, .iload 1, .iastore, .aload 0, .getfield 814, .iconst 4, .aload 0, .getfield 813, .imul, .iconst 1, .iadd, .iload 2, .iastore, .aload 0, .getfield 814, .iconst 4, .aload 0, .getfield 813, .imul, .iconst 2, .iadd, .iload 3, .iastore, .aload 0, .getfield 814, .iconst 4, .aload 0, .getfield 813, .imul, .iconst 3, .iadd, .iload 4, .iastore, .aload 0, .dup, .getfield 813, .iconst 1, .iadd, .putfield 813, .aload 0, .getfield 813] (by decide +kernel) ?_
            refine ⟨(4 * (pw_g A 14 4)), (show (nI 4) * (mm 26 13) = nI (4 * (pw_g A 14 4)) from by rw [show mm 26 13 = nI (pw_g A 14 4) from mv_sn hv hok, show (nI 4) * (nI (pw_g A 14 4)) = nI (4 * (pw_g A 14 4)) from pk_mul _ _]), by first | omega | exact pw_g_lt, ?_⟩
            refine ⟨((4 * (pw_g A 14 4)) + 1), (show ((nI 4) * (mm 26 13)) + (nI 1) = nI ((4 * (pw_g A 14 4)) + 1) from by rw [show mm 26 13 = nI (pw_g A 14 4) from mv_sn hv hok, show (nI 4) * (nI (pw_g A 14 4)) = nI (4 * (pw_g A 14 4)) from pk_mul _ _, show (nI (4 * (pw_g A 14 4))) + (nI 1) = nI ((4 * (pw_g A 14 4)) + 1) from nI_add _ _]), by first | omega | exact pw_g_lt, ?_⟩
            refine ⟨((4 * (pw_g A 14 4)) + 2), (show ((nI 4) * (mm 26 13)) + (nI 2) = nI ((4 * (pw_g A 14 4)) + 2) from by rw [show mm 26 13 = nI (pw_g A 14 4) from mv_sn hv hok, show (nI 4) * (nI (pw_g A 14 4)) = nI (4 * (pw_g A 14 4)) from pk_mul _ _, show (nI (4 * (pw_g A 14 4))) + (nI 2) = nI ((4 * (pw_g A 14 4)) + 2) from nI_add _ _]), by first | omega | exact pw_g_lt, ?_⟩
            refine ⟨((4 * (pw_g A 14 4)) + 3), (show ((nI 4) * (mm 26 13)) + (nI 3) = nI ((4 * (pw_g A 14 4)) + 3) from by rw [show mm 26 13 = nI (pw_g A 14 4) from mv_sn hv hok, show (nI 4) * (nI (pw_g A 14 4)) = nI (4 * (pw_g A 14 4)) from pk_mul _ _, show (nI (4 * (pw_g A 14 4))) + (nI 3) = nI ((4 * (pw_g A 14 4)) + 3) from nI_add _ _]), by first | omega | exact pw_g_lt, ?_⟩
            show pw_V x m_X8_seen 2 Z 127 [(0, .ref 26), (1, .int (nI j5)), (2, .int (nI j13)), (3, .int (nI j30)), (4, .int (nI j40))] [.int ((mm 26 13) + (nI 1))] (pw_up (pw_up (pw_up (pw_up (pw_up mm 34 (4 * (pw_g A 14 4)) (nI j5)) 34 ((4 * (pw_g A 14 4)) + 1) (nI j13)) 34 ((4 * (pw_g A 14 4)) + 2) (nI j30)) 34 ((4 * (pw_g A 14 4)) + 3) (nI j40)) 26 13 ((mm 26 13) + (nI 1)))
            rw [show mm 26 13 = nI (pw_g A 14 4) from mv_sn hv hok]
            rw [show (nI (pw_g A 14 4)) + (nI 1) = nI ((pw_g A 14 4) + 1) from nI_add _ _]
            rw [← hZ]
            refine pw_ri (by decide +kernel) ?_
            have eG : G_seen A (nI j5) (nI j13) (nI j30) (nI j40) = pw_up (pw_up (pw_up (pw_up (pw_up A 15 (pw_g A 14 4) (nI j5)) 16 (pw_g A 14 4) (nI j13)) 17 (pw_g A 14 4) (nI j30)) 18 (pw_g A 14 4) (nI j40)) 14 4 (nI (pw_g A 14 4 + 1)) := by simp [G_seen, pw_inr_nI (show j5 < 2 ^ 31 by omega) (show pw_k A < 2 ^ 31 by omega), pw_c_nI (show j5 < 2 ^ 31 by omega), b5, pw_inr_nI (show j13 < 2 ^ 31 by omega) (show pw_n A < 2 ^ 31 by omega), pw_c_nI (show j13 < 2 ^ 31 by omega), b13, pw_inr_nI (show j30 < 2 ^ 31 by omega) (show (pw_g A 42 0 + 1) < 2 ^ 31 by omega), pw_c_nI (show j30 < 2 ^ 31 by omega), b30, pw_inr_nI (show j40 < 2 ^ 31 by omega) (show 2 < 2 ^ 31 by omega), pw_c_nI (show j40 < 2 ^ 31 by omega), b40, h5, h13, h30, h40, h52, show pw_g A 14 4 < 8 by omega]
            refine ⟨?_, ?_, ?_⟩
            · simp [F_seen, pw_inr_nI (show j5 < 2 ^ 31 by omega) (show pw_k A < 2 ^ 31 by omega), pw_c_nI (show j5 < 2 ^ 31 by omega), b5, pw_inr_nI (show j13 < 2 ^ 31 by omega) (show pw_n A < 2 ^ 31 by omega), pw_c_nI (show j13 < 2 ^ 31 by omega), b13, pw_inr_nI (show j30 < 2 ^ 31 by omega) (show (pw_g A 42 0 + 1) < 2 ^ 31 by omega), pw_c_nI (show j30 < 2 ^ 31 by omega), b30, pw_inr_nI (show j40 < 2 ^ 31 by omega) (show 2 < 2 ^ 31 by omega), pw_c_nI (show j40 < 2 ^ 31 by omega), b40, h5, h13, h30, h40, h52, show pw_g A 14 4 < 8 by omega]
              try rfl
            · rw [eG]; exact mv_seen hv hok _ _ _ _ (by omega)
            · exact pw_mf_u (pw_mf_u (pw_mf_u (pw_mf_u (pw_mf_u pw_mf_r (by decide)) (by decide)) (by decide)) (by decide)) (by decide)
          · refine pw_blk (pc' := 57) [.iconst (-5)] (by decide +kernel) ?_
            show pw_V x m_X8_seen 2 Z 57 [(0, .ref 26), (1, .int (nI j5)), (2, .int (nI j13)), (3, .int (nI j30)), (4, .int (nI j40))] [.int (-5)] mm
            rw [← hZ]
            refine pw_ri (by decide +kernel) ?_
            have eG : G_seen A (nI j5) (nI j13) (nI j30) (nI j40) = A := by simp [G_seen, pw_inr_nI (show j5 < 2 ^ 31 by omega) (show pw_k A < 2 ^ 31 by omega), pw_c_nI (show j5 < 2 ^ 31 by omega), b5, pw_inr_nI (show j13 < 2 ^ 31 by omega) (show pw_n A < 2 ^ 31 by omega), pw_c_nI (show j13 < 2 ^ 31 by omega), b13, pw_inr_nI (show j30 < 2 ^ 31 by omega) (show (pw_g A 42 0 + 1) < 2 ^ 31 by omega), pw_c_nI (show j30 < 2 ^ 31 by omega), b30, pw_inr_nI (show j40 < 2 ^ 31 by omega) (show 2 < 2 ^ 31 by omega), pw_c_nI (show j40 < 2 ^ 31 by omega), b40, h5, h13, h30, h40, h52]
            refine ⟨?_, ?_, ?_⟩
            · simp [F_seen, pw_inr_nI (show j5 < 2 ^ 31 by omega) (show pw_k A < 2 ^ 31 by omega), pw_c_nI (show j5 < 2 ^ 31 by omega), b5, pw_inr_nI (show j13 < 2 ^ 31 by omega) (show pw_n A < 2 ^ 31 by omega), pw_c_nI (show j13 < 2 ^ 31 by omega), b13, pw_inr_nI (show j30 < 2 ^ 31 by omega) (show (pw_g A 42 0 + 1) < 2 ^ 31 by omega), pw_c_nI (show j30 < 2 ^ 31 by omega), b30, pw_inr_nI (show j40 < 2 ^ 31 by omega) (show 2 < 2 ^ 31 by omega), pw_c_nI (show j40 < 2 ^ 31 by omega), b40, h5, h13, h30, h40, h52]
              try rfl
            · rw [eG]; exact hv
            · exact pw_mf_r
        · refine pw_blk (pc' := 45) [.iconst (-3)] (by decide +kernel) ?_
          show pw_V x m_X8_seen 2 Z 45 [(0, .ref 26), (1, .int (nI j5)), (2, .int (nI j13)), (3, .int (nI j30)), (4, .int t)] [.int (-3)] mm
          rw [← hZ]
          refine pw_ri (by decide +kernel) ?_
          have eG : G_seen A (nI j5) (nI j13) (nI j30) t = A := by simp [G_seen, pw_inr_nI (show j5 < 2 ^ 31 by omega) (show pw_k A < 2 ^ 31 by omega), pw_c_nI (show j5 < 2 ^ 31 by omega), b5, pw_inr_nI (show j13 < 2 ^ 31 by omega) (show pw_n A < 2 ^ 31 by omega), pw_c_nI (show j13 < 2 ^ 31 by omega), b13, pw_inr_nI (show j30 < 2 ^ 31 by omega) (show (pw_g A 42 0 + 1) < 2 ^ 31 by omega), pw_c_nI (show j30 < 2 ^ 31 by omega), b30, h5, h13, h30, h40]
          refine ⟨?_, ?_, ?_⟩
          · simp [F_seen, pw_inr_nI (show j5 < 2 ^ 31 by omega) (show pw_k A < 2 ^ 31 by omega), pw_c_nI (show j5 < 2 ^ 31 by omega), b5, pw_inr_nI (show j13 < 2 ^ 31 by omega) (show pw_n A < 2 ^ 31 by omega), pw_c_nI (show j13 < 2 ^ 31 by omega), b13, pw_inr_nI (show j30 < 2 ^ 31 by omega) (show (pw_g A 42 0 + 1) < 2 ^ 31 by omega), pw_c_nI (show j30 < 2 ^ 31 by omega), b30, h5, h13, h30, h40]
            try rfl
          · rw [eG]; exact hv
          · exact pw_mf_r
    · refine pw_blk (pc' := 18) [.iconst (-2)] (by decide +kernel) ?_
      show pw_V x m_X8_seen 2 Z 18 [(0, .ref 26), (1, .int (nI j5)), (2, .int s), (3, .int d), (4, .int t)] [.int (-2)] mm
      rw [← hZ]
      refine pw_ri (by decide +kernel) ?_
      have eG : G_seen A (nI j5) s d t = A := by simp [G_seen, pw_inr_nI (show j5 < 2 ^ 31 by omega) (show pw_k A < 2 ^ 31 by omega), pw_c_nI (show j5 < 2 ^ 31 by omega), b5, h5, h13]
      refine ⟨?_, ?_, ?_⟩
      · simp [F_seen, pw_inr_nI (show j5 < 2 ^ 31 by omega) (show pw_k A < 2 ^ 31 by omega), pw_c_nI (show j5 < 2 ^ 31 by omega), b5, h5, h13]
        try rfl
      · rw [eG]; exact hv
      · exact pw_mf_r
