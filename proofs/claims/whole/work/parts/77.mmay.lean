set_option maxHeartbeats 4000000 in
set_option maxRecDepth 100000 in
theorem cL_misKnight {A : pw_m} (mm : pw_m) (hl : MV A (pw_up mm 26 33 (-1))) (hok : pw_ok A) (s : Int32) : pw_Ct 1 yX8_isKnight m_X8_isKnight [.ref 26, .int s] mm (fun r m' => r = some (.int (pw_b (pw_inr s (pw_k A)))) ∧ m' = mm) := by
  refine pw_ct (by decide +kernel) rfl (Nat.le_of_ble_eq_true rfl) (fun x => ?_)
  generalize hZ : pw_Z x _ = Z
  have bn := pw_bn hok
  have bk := pw_bk hok
  show pw_V x m_X8_isKnight 1 Z 0 [(0, .ref 26), (1, .int s)] [] mm
  refine pw_blk (pc' := 8) [.iload 1, .iconst 0, .aload 0, .getfield 802, .iconst 1, .isub] (by decide +kernel) ?_
  show pw_V x m_X8_isKnight 1 Z 8 [(0, .ref 26), (1, .int s)] [.int ((mm 26 2) - (nI 1)), .int (nI 0), .int s] mm
  rw [show mm 26 2 = nI (pw_k A) from mv_k (B := pw_up mm 26 33 (-1)) hl hok]
  refine pw_cS (vs := [.int s, .int (nI 0), .int ((nI (pw_k A)) - (nI 1))]) (rest := []) k_X8_in (c_in1 s (pw_k A) mm (by first | omega | exact pw_g_lt)) l_8_78 rfl (by omega) (Nat.le_of_ble_eq_true rfl) (by decide +kernel) ?_
  rintro _ m1 ⟨rfl, e1⟩
  rw [e1]
  clear e1 m1
  show pw_V x m_X8_isKnight 1 Z 11 [(0, .ref 26), (1, .int s)] [.int (pw_b (pw_inr s (pw_k A)))] mm
  rw [← hZ]
  refine pw_rz (by decide +kernel) (pw_b01 _) ?_
  exact ⟨rfl, rfl⟩

set_option maxHeartbeats 4000000 in
set_option maxRecDepth 100000 in
theorem cL_mThere {A : pw_m} (mm : pw_m) (hl : MV A (pw_up mm 26 33 (-1))) (hok : pw_ok A) (i : Nat) (hi : i < pw_k A) : pw_Ct 2 yX8_isThere m_X8_isThere [.ref 26, .int (nI i)] mm (fun r m' => r = some (.int (pw_b ((pw_g A 42 1).testBit i))) ∧ m' = mm) := by
  refine pw_ct (by decide +kernel) rfl (Nat.le_of_ble_eq_true rfl) (fun x => ?_)
  generalize hZ : pw_Z x _ = Z
  have bn := pw_bn hok
  have bk := pw_bk hok
  show pw_V x m_X8_isThere 2 Z 0 [(0, .ref 26), (1, .int (nI i))] [] mm
  refine pw_blk (pc' := 2) [.aload 0, .iload 1] (by decide +kernel) ?_
  show pw_V x m_X8_isThere 2 Z 2 [(0, .ref 26), (1, .int (nI i))] [.int (nI i), .ref 26] mm
  refine pw_cV (vs := [.int (nI i)]) (rest := []) k_X8_isKnight (cL_misKnight mm hl hok (nI i)) l_8_82 rfl rfl rfl rfl (by omega) (Nat.le_of_ble_eq_true rfl) (by decide +kernel) ?_
  rintro _ m1 ⟨rfl, e1⟩
  rw [e1]
  clear e1 m1
  show pw_V x m_X8_isThere 2 Z 5 [(0, .ref 26), (1, .int (nI i))] [.int (pw_b (pw_inr (nI i) (pw_k A)))] mm
  refine pw_ib_eq (tgt := 25) (off := 20) (by decide +kernel) (by decide) (fun h5 => ?_) (fun h5 => ?_)
  · rw [pw_inr_nI (by omega) (by omega)] at h5; simp [hi] at h5
  · refine pw_blk (pc' := 15) [.aload 0, .getfield 808, .iconst 1, .iaload, .iload 1] (by decide +kernel) ?_
    refine ⟨1, rfl, by omega, ?_⟩
    show pw_V x m_X8_isThere 2 Z 15 [(0, .ref 26), (1, .int (nI i))] [.int (nI i), .int (mm 30 1)] mm
    rw [show mm 30 1 = nI (pw_g A 42 1) from mv_t (B := pw_up mm 26 33 (-1)) hl hok]
    refine pw_cS (vs := [.int (nI (pw_g A 42 1)), .int (nI i)]) (rest := []) k_X8_has (c_mhasN (pw_g A 42 1) i mm (by first | omega | exact pw_g_lt | exact pw_ob_lt31 (by omega)) (by omega)) l_8_86 rfl (by omega) (Nat.le_of_ble_eq_true rfl) (by decide +kernel) ?_
    rintro _ m1 ⟨rfl, e1⟩
    rw [e1]
    clear e1 m1
    show pw_V x m_X8_isThere 2 Z 18 [(0, .ref 26), (1, .int (nI i))] [.int (pw_b (((pw_g A 42 1)).testBit i))] mm
    refine pw_ib_eq (tgt := 25) (off := 7) (by decide +kernel) (by decide) (fun h18 => ?_) (fun h18 => ?_)
    · refine pw_blk (pc' := 26) [.iconst 0] (by decide +kernel) ?_
      show pw_V x m_X8_isThere 2 Z 26 [(0, .ref 26), (1, .int (nI i))] [.int (nI 0)] mm
      rw [← hZ]
      refine pw_rz (by decide +kernel) (Or.inl rfl) ?_
      refine ⟨?_, rfl⟩
      rw [h18]
      rfl
    · refine pw_blk (pc' := 22) [.iconst 1] (by decide +kernel) ?_
      show pw_V x m_X8_isThere 2 Z 22 [(0, .ref 26), (1, .int (nI i))] [.int (nI 1)] mm
      refine pw_goto (tgt := 26) (off := 4) (by decide +kernel) (by decide) ?_
      rw [← hZ]
      refine pw_rz (by decide +kernel) (Or.inr rfl) ?_
      refine ⟨?_, rfl⟩
      rw [h18]
      rfl

set_option maxHeartbeats 4000000 in
set_option maxRecDepth 100000 in
theorem cL_mfitsBy {A : pw_m} (mm : pw_m) (hl : MV A (pw_up mm 26 33 (-1))) (hok : pw_ok A) (k rn s : Nat) (hk : k < 6) (hs : s < 8) (hr : rn < 2 ^ 31) : pw_Ct 0 yX8_fitsBy m_X8_fitsBy [.ref 26, .int (nI k), .int (nI s), .int (nI rn)] mm (fun r m' => r = some (.int (pw_b (pw_fit A k rn s))) ∧ m' = mm) := by
  refine pw_ct (by decide +kernel) rfl (Nat.le_of_ble_eq_true rfl) (fun x => ?_)
  generalize hZ : pw_Z x _ = Z
  have bn := pw_bn hok
  have bk := pw_bk hok
  show pw_V x m_X8_fitsBy 0 Z 0 [(0, .ref 26), (1, .int (nI k)), (2, .int (nI s)), (3, .int (nI rn))] [] mm
  refine pw_blk (pc' := 24) [.aload 0, .getfield 801, .iconst 2, .iload 2, .imul, .iaload, .istore 4, .aload 0, .getfield 801, .iconst 2, .iload 2, .imul, .iconst 1, .iadd, .iaload, .istore 5, .iload 4] (by decide +kernel) ?_
  refine ⟨(2 * s), (show (nI 2) * (nI s) = nI (2 * s) from by rw [show (nI 2) * (nI s) = nI (2 * s) from pk_mul _ _]), by first | omega | exact pw_g_lt, ?_⟩
  refine ⟨((2 * s) + 1), (show ((nI 2) * (nI s)) + (nI 1) = nI ((2 * s) + 1) from by rw [show (nI 2) * (nI s) = nI (2 * s) from pk_mul _ _, show (nI (2 * s)) + (nI 1) = nI ((2 * s) + 1) from nI_add _ _]), by first | omega | exact pw_g_lt, ?_⟩
  show pw_V x m_X8_fitsBy 0 Z 24 [(5, .int (mm 27 ((2 * s) + 1))), (4, .int (mm 27 (2 * s))), (0, .ref 26), (1, .int (nI k)), (2, .int (nI s)), (3, .int (nI rn))] [.int (mm 27 (2 * s))] mm
  rw [show mm 27 ((2 * s) + 1) = nI (pw_g A 6 s) from mv_nn (B := pw_up mm 26 33 (-1)) hl hok (s := s) (by omega)]
  rw [show mm 27 (2 * s) = nI (pw_g A 5 s) from mv_nk (B := pw_up mm 26 33 (-1)) hl hok (s := s) (by omega)]
  refine pw_iz_eq (tgt := 45) (off := 21) (by first | omega | exact pw_g_lt) (by decide +kernel) (by decide) (fun h24 => ?_) (fun h24 => ?_)
  · refine pw_blk (pc' := 46) [.iconst 1] (by decide +kernel) ?_
    show pw_V x m_X8_fitsBy 0 Z 46 [(5, .int (nI (pw_g A 6 s))), (4, .int (nI (pw_g A 5 s))), (0, .ref 26), (1, .int (nI k)), (2, .int (nI s)), (3, .int (nI rn))] [.int (nI 1)] mm
    rw [← hZ]
    refine pw_rz (by decide +kernel) (Or.inr rfl) ?_
    refine ⟨?_, rfl⟩
    have e : pw_fit A k rn s = true := by
      have b5 := pw_b5 hok hs
      unfold pw_fit pw_fitB
      repeat' split
      all_goals first | rfl | (exfalso; omega) | exact decide_eq_true (by omega) | exact decide_eq_false (by omega)
    rw [e]
    rfl
  · refine pw_blk (pc' := 30) [.iload 4, .iconst 4] (by decide +kernel) ?_
    show pw_V x m_X8_fitsBy 0 Z 30 [(5, .int (nI (pw_g A 6 s))), (4, .int (nI (pw_g A 5 s))), (0, .ref 26), (1, .int (nI k)), (2, .int (nI s)), (3, .int (nI rn))] [.int (nI 4), .int (nI (pw_g A 5 s))] mm
    refine pw_in_eq (tgt := 47) (off := 17) (by first | omega | exact pw_g_lt) (by first | omega | exact pw_g_lt) (by decide +kernel) (by decide) (fun h30 => ?_) (fun h30 => ?_)
    · refine pw_blk (pc' := 50) [.iload 4, .iconst 1] (by decide +kernel) ?_
      show pw_V x m_X8_fitsBy 0 Z 50 [(5, .int (nI (pw_g A 6 s))), (4, .int (nI (pw_g A 5 s))), (0, .ref 26), (1, .int (nI k)), (2, .int (nI s)), (3, .int (nI rn))] [.int (nI 1), .int (nI (pw_g A 5 s))] mm
      refine pw_in_ne (tgt := 67) (off := 17) (by first | omega | exact pw_g_lt) (by first | omega | exact pw_g_lt) (by decide +kernel) (by decide) (fun h50 => ?_) (fun h50 => ?_)
      · refine pw_blk (pc' := 70) [.iload 4, .iconst 2] (by decide +kernel) ?_
        show pw_V x m_X8_fitsBy 0 Z 70 [(5, .int (nI (pw_g A 6 s))), (4, .int (nI (pw_g A 5 s))), (0, .ref 26), (1, .int (nI k)), (2, .int (nI s)), (3, .int (nI rn))] [.int (nI 2), .int (nI (pw_g A 5 s))] mm
        refine pw_in_ne (tgt := 87) (off := 17) (by first | omega | exact pw_g_lt) (by first | omega | exact pw_g_lt) (by decide +kernel) (by decide) (fun h70 => ?_) (fun h70 => ?_)
        · refine pw_blk (pc' := 90) [.iload 4, .iconst 3] (by decide +kernel) ?_
          show pw_V x m_X8_fitsBy 0 Z 90 [(5, .int (nI (pw_g A 6 s))), (4, .int (nI (pw_g A 5 s))), (0, .ref 26), (1, .int (nI k)), (2, .int (nI s)), (3, .int (nI rn))] [.int (nI 3), .int (nI (pw_g A 5 s))] mm
          refine pw_in_ne (tgt := 112) (off := 22) (by first | omega | exact pw_g_lt) (by first | omega | exact pw_g_lt) (by decide +kernel) (by decide) (fun h90 => ?_) (fun h90 => ?_)
          · refine pw_blk (pc' := 113) [.iconst 0] (by decide +kernel) ?_
            show pw_V x m_X8_fitsBy 0 Z 113 [(5, .int (nI (pw_g A 6 s))), (4, .int (nI (pw_g A 5 s))), (0, .ref 26), (1, .int (nI k)), (2, .int (nI s)), (3, .int (nI rn))] [.int (nI 0)] mm
            rw [← hZ]
            refine pw_rz (by decide +kernel) (Or.inl rfl) ?_
            refine ⟨?_, rfl⟩
            have e : pw_fit A k rn s = false := by
              have b5 := pw_b5 hok hs
              unfold pw_fit pw_fitB
              repeat' split
              all_goals first | rfl | (exfalso; omega) | exact decide_eq_true (by omega) | exact decide_eq_false (by omega)
            rw [e]
            rfl
          · refine pw_blk (pc' := 105) [.aload 0, .getfield 803, .iconst 3, .iload 1, .imul, .iconst 2, .iadd, .iaload, .iload 5] (by decide +kernel) ?_
            refine ⟨((3 * k) + 2), (show ((nI 3) * (nI k)) + (nI 2) = nI ((3 * k) + 2) from by rw [show (nI 3) * (nI k) = nI (3 * k) from pk_mul _ _, show (nI (3 * k)) + (nI 2) = nI ((3 * k) + 2) from nI_add _ _]), by first | omega | exact pw_g_lt, ?_⟩
            show pw_V x m_X8_fitsBy 0 Z 105 [(5, .int (nI (pw_g A 6 s))), (4, .int (nI (pw_g A 5 s))), (0, .ref 26), (1, .int (nI k)), (2, .int (nI s)), (3, .int (nI rn))] [.int (nI (pw_g A 6 s)), .int (mm 28 ((3 * k) + 2))] mm
            rw [show mm 28 ((3 * k) + 2) = nI (pw_g A 9 k) from mv_kh (B := pw_up mm 26 33 (-1)) hl hok (i := k) (by omega)]
            refine pw_in_ne (tgt := 112) (off := 7) (by first | omega | exact pw_g_lt) (by first | omega | exact pw_g_lt) (by decide +kernel) (by decide) (fun h105 => ?_) (fun h105 => ?_)
            · refine pw_blk (pc' := 113) [.iconst 0] (by decide +kernel) ?_
              show pw_V x m_X8_fitsBy 0 Z 113 [(5, .int (nI (pw_g A 6 s))), (4, .int (nI (pw_g A 5 s))), (0, .ref 26), (1, .int (nI k)), (2, .int (nI s)), (3, .int (nI rn))] [.int (nI 0)] mm
              rw [← hZ]
              refine pw_rz (by decide +kernel) (Or.inl rfl) ?_
              refine ⟨?_, rfl⟩
              have e : pw_fit A k rn s = false := by
                have b5 := pw_b5 hok hs
                unfold pw_fit pw_fitB
                repeat' split
                all_goals first | rfl | (exfalso; omega) | exact decide_eq_true (by omega) | exact decide_eq_false (by omega)
              rw [e]
              rfl
            · refine pw_blk (pc' := 109) [.iconst 1] (by decide +kernel) ?_
              show pw_V x m_X8_fitsBy 0 Z 109 [(5, .int (nI (pw_g A 6 s))), (4, .int (nI (pw_g A 5 s))), (0, .ref 26), (1, .int (nI k)), (2, .int (nI s)), (3, .int (nI rn))] [.int (nI 1)] mm
              refine pw_goto (tgt := 113) (off := 4) (by decide +kernel) (by decide) ?_
              rw [← hZ]
              refine pw_rz (by decide +kernel) (Or.inr rfl) ?_
              refine ⟨?_, rfl⟩
              have e : pw_fit A k rn s = true := by
                have b5 := pw_b5 hok hs
                unfold pw_fit pw_fitB
                repeat' split
                all_goals first | rfl | (exfalso; omega) | exact decide_eq_true (by omega) | exact decide_eq_false (by omega)
              rw [e]
              rfl
        · refine pw_blk (pc' := 76) [.iload 3, .iload 5] (by decide +kernel) ?_
          show pw_V x m_X8_fitsBy 0 Z 76 [(5, .int (nI (pw_g A 6 s))), (4, .int (nI (pw_g A 5 s))), (0, .ref 26), (1, .int (nI k)), (2, .int (nI s)), (3, .int (nI rn))] [.int (nI (pw_g A 6 s)), .int (nI rn)] mm
          refine pw_in_gt (tgt := 83) (off := 7) (by first | omega | exact pw_g_lt) (by first | omega | exact pw_g_lt) (by decide +kernel) (by decide) (fun h76 => ?_) (fun h76 => ?_)
          · refine pw_blk (pc' := 84) [.iconst 0] (by decide +kernel) ?_
            show pw_V x m_X8_fitsBy 0 Z 84 [(5, .int (nI (pw_g A 6 s))), (4, .int (nI (pw_g A 5 s))), (0, .ref 26), (1, .int (nI k)), (2, .int (nI s)), (3, .int (nI rn))] [.int (nI 0)] mm
            refine pw_goto (tgt := 113) (off := 29) (by decide +kernel) (by decide) ?_
            rw [← hZ]
            refine pw_rz (by decide +kernel) (Or.inl rfl) ?_
            refine ⟨?_, rfl⟩
            have e : pw_fit A k rn s = false := by
              have b5 := pw_b5 hok hs
              unfold pw_fit pw_fitB
              repeat' split
              all_goals first | rfl | (exfalso; omega) | exact decide_eq_true (by omega) | exact decide_eq_false (by omega)
            rw [e]
            rfl
          · refine pw_blk (pc' := 80) [.iconst 1] (by decide +kernel) ?_
            show pw_V x m_X8_fitsBy 0 Z 80 [(5, .int (nI (pw_g A 6 s))), (4, .int (nI (pw_g A 5 s))), (0, .ref 26), (1, .int (nI k)), (2, .int (nI s)), (3, .int (nI rn))] [.int (nI 1)] mm
            refine pw_goto (tgt := 113) (off := 33) (by decide +kernel) (by decide) ?_
            rw [← hZ]
            refine pw_rz (by decide +kernel) (Or.inr rfl) ?_
            refine ⟨?_, rfl⟩
            have e : pw_fit A k rn s = true := by
              have b5 := pw_b5 hok hs
              unfold pw_fit pw_fitB
              repeat' split
              all_goals first | rfl | (exfalso; omega) | exact decide_eq_true (by omega) | exact decide_eq_false (by omega)
            rw [e]
            rfl
      · refine pw_blk (pc' := 56) [.iload 3, .iload 5] (by decide +kernel) ?_
        show pw_V x m_X8_fitsBy 0 Z 56 [(5, .int (nI (pw_g A 6 s))), (4, .int (nI (pw_g A 5 s))), (0, .ref 26), (1, .int (nI k)), (2, .int (nI s)), (3, .int (nI rn))] [.int (nI (pw_g A 6 s)), .int (nI rn)] mm
        refine pw_in_lt (tgt := 63) (off := 7) (by first | omega | exact pw_g_lt) (by first | omega | exact pw_g_lt) (by decide +kernel) (by decide) (fun h56 => ?_) (fun h56 => ?_)
        · refine pw_blk (pc' := 64) [.iconst 0] (by decide +kernel) ?_
          show pw_V x m_X8_fitsBy 0 Z 64 [(5, .int (nI (pw_g A 6 s))), (4, .int (nI (pw_g A 5 s))), (0, .ref 26), (1, .int (nI k)), (2, .int (nI s)), (3, .int (nI rn))] [.int (nI 0)] mm
          refine pw_goto (tgt := 113) (off := 49) (by decide +kernel) (by decide) ?_
          rw [← hZ]
          refine pw_rz (by decide +kernel) (Or.inl rfl) ?_
          refine ⟨?_, rfl⟩
          have e : pw_fit A k rn s = false := by
            have b5 := pw_b5 hok hs
            unfold pw_fit pw_fitB
            repeat' split
            all_goals first | rfl | (exfalso; omega) | exact decide_eq_true (by omega) | exact decide_eq_false (by omega)
          rw [e]
          rfl
        · refine pw_blk (pc' := 60) [.iconst 1] (by decide +kernel) ?_
          show pw_V x m_X8_fitsBy 0 Z 60 [(5, .int (nI (pw_g A 6 s))), (4, .int (nI (pw_g A 5 s))), (0, .ref 26), (1, .int (nI k)), (2, .int (nI s)), (3, .int (nI rn))] [.int (nI 1)] mm
          refine pw_goto (tgt := 113) (off := 53) (by decide +kernel) (by decide) ?_
          rw [← hZ]
          refine pw_rz (by decide +kernel) (Or.inr rfl) ?_
          refine ⟨?_, rfl⟩
          have e : pw_fit A k rn s = true := by
            have b5 := pw_b5 hok hs
            unfold pw_fit pw_fitB
            repeat' split
            all_goals first | rfl | (exfalso; omega) | exact decide_eq_true (by omega) | exact decide_eq_false (by omega)
          rw [e]
          rfl
    · refine pw_blk (pc' := 42) [.aload 0, .getfield 803, .iconst 3, .iload 1, .imul, .iaload, .iconst 2] (by decide +kernel) ?_
      refine ⟨(3 * k), (show (nI 3) * (nI k) = nI (3 * k) from by rw [show (nI 3) * (nI k) = nI (3 * k) from pk_mul _ _]), by first | omega | exact pw_g_lt, ?_⟩
      show pw_V x m_X8_fitsBy 0 Z 42 [(5, .int (nI (pw_g A 6 s))), (4, .int (nI (pw_g A 5 s))), (0, .ref 26), (1, .int (nI k)), (2, .int (nI s)), (3, .int (nI rn))] [.int (nI 2), .int (mm 28 (3 * k))] mm
      rw [show mm 28 (3 * k) = nI (pw_g A 7 k) from mv_kk (B := pw_up mm 26 33 (-1)) hl hok (i := k) (by omega)]
      refine pw_in_ne (tgt := 47) (off := 5) (by first | omega | exact pw_g_lt) (by first | omega | exact pw_g_lt) (by decide +kernel) (by decide) (fun h42 => ?_) (fun h42 => ?_)
      · refine pw_blk (pc' := 50) [.iload 4, .iconst 1] (by decide +kernel) ?_
        show pw_V x m_X8_fitsBy 0 Z 50 [(5, .int (nI (pw_g A 6 s))), (4, .int (nI (pw_g A 5 s))), (0, .ref 26), (1, .int (nI k)), (2, .int (nI s)), (3, .int (nI rn))] [.int (nI 1), .int (nI (pw_g A 5 s))] mm
        refine pw_in_ne (tgt := 67) (off := 17) (by first | omega | exact pw_g_lt) (by first | omega | exact pw_g_lt) (by decide +kernel) (by decide) (fun h50 => ?_) (fun h50 => ?_)
        · refine pw_blk (pc' := 70) [.iload 4, .iconst 2] (by decide +kernel) ?_
          show pw_V x m_X8_fitsBy 0 Z 70 [(5, .int (nI (pw_g A 6 s))), (4, .int (nI (pw_g A 5 s))), (0, .ref 26), (1, .int (nI k)), (2, .int (nI s)), (3, .int (nI rn))] [.int (nI 2), .int (nI (pw_g A 5 s))] mm
          refine pw_in_ne (tgt := 87) (off := 17) (by first | omega | exact pw_g_lt) (by first | omega | exact pw_g_lt) (by decide +kernel) (by decide) (fun h70 => ?_) (fun h70 => ?_)
          · refine pw_blk (pc' := 90) [.iload 4, .iconst 3] (by decide +kernel) ?_
            show pw_V x m_X8_fitsBy 0 Z 90 [(5, .int (nI (pw_g A 6 s))), (4, .int (nI (pw_g A 5 s))), (0, .ref 26), (1, .int (nI k)), (2, .int (nI s)), (3, .int (nI rn))] [.int (nI 3), .int (nI (pw_g A 5 s))] mm
            refine pw_in_ne (tgt := 112) (off := 22) (by first | omega | exact pw_g_lt) (by first | omega | exact pw_g_lt) (by decide +kernel) (by decide) (fun h90 => ?_) (fun h90 => ?_)
            · refine pw_blk (pc' := 113) [.iconst 0] (by decide +kernel) ?_
              show pw_V x m_X8_fitsBy 0 Z 113 [(5, .int (nI (pw_g A 6 s))), (4, .int (nI (pw_g A 5 s))), (0, .ref 26), (1, .int (nI k)), (2, .int (nI s)), (3, .int (nI rn))] [.int (nI 0)] mm
              rw [← hZ]
              refine pw_rz (by decide +kernel) (Or.inl rfl) ?_
              refine ⟨?_, rfl⟩
              have e : pw_fit A k rn s = false := by
                have b5 := pw_b5 hok hs
                unfold pw_fit pw_fitB
                repeat' split
                all_goals first | rfl | (exfalso; omega) | exact decide_eq_true (by omega) | exact decide_eq_false (by omega)
              rw [e]
              rfl
            · refine pw_blk (pc' := 105) [.aload 0, .getfield 803, .iconst 3, .iload 1, .imul, .iconst 2, .iadd, .iaload, .iload 5] (by decide +kernel) ?_
              refine ⟨((3 * k) + 2), (show ((nI 3) * (nI k)) + (nI 2) = nI ((3 * k) + 2) from by rw [show (nI 3) * (nI k) = nI (3 * k) from pk_mul _ _, show (nI (3 * k)) + (nI 2) = nI ((3 * k) + 2) from nI_add _ _]), by first | omega | exact pw_g_lt, ?_⟩
              show pw_V x m_X8_fitsBy 0 Z 105 [(5, .int (nI (pw_g A 6 s))), (4, .int (nI (pw_g A 5 s))), (0, .ref 26), (1, .int (nI k)), (2, .int (nI s)), (3, .int (nI rn))] [.int (nI (pw_g A 6 s)), .int (mm 28 ((3 * k) + 2))] mm
              rw [show mm 28 ((3 * k) + 2) = nI (pw_g A 9 k) from mv_kh (B := pw_up mm 26 33 (-1)) hl hok (i := k) (by omega)]
              refine pw_in_ne (tgt := 112) (off := 7) (by first | omega | exact pw_g_lt) (by first | omega | exact pw_g_lt) (by decide +kernel) (by decide) (fun h105 => ?_) (fun h105 => ?_)
              · refine pw_blk (pc' := 113) [.iconst 0] (by decide +kernel) ?_
                show pw_V x m_X8_fitsBy 0 Z 113 [(5, .int (nI (pw_g A 6 s))), (4, .int (nI (pw_g A 5 s))), (0, .ref 26), (1, .int (nI k)), (2, .int (nI s)), (3, .int (nI rn))] [.int (nI 0)] mm
                rw [← hZ]
                refine pw_rz (by decide +kernel) (Or.inl rfl) ?_
                refine ⟨?_, rfl⟩
                have e : pw_fit A k rn s = false := by
                  have b5 := pw_b5 hok hs
                  unfold pw_fit pw_fitB
                  repeat' split
                  all_goals first | rfl | (exfalso; omega) | exact decide_eq_true (by omega) | exact decide_eq_false (by omega)
                rw [e]
                rfl
              · refine pw_blk (pc' := 109) [.iconst 1] (by decide +kernel) ?_
                show pw_V x m_X8_fitsBy 0 Z 109 [(5, .int (nI (pw_g A 6 s))), (4, .int (nI (pw_g A 5 s))), (0, .ref 26), (1, .int (nI k)), (2, .int (nI s)), (3, .int (nI rn))] [.int (nI 1)] mm
                refine pw_goto (tgt := 113) (off := 4) (by decide +kernel) (by decide) ?_
                rw [← hZ]
                refine pw_rz (by decide +kernel) (Or.inr rfl) ?_
                refine ⟨?_, rfl⟩
                have e : pw_fit A k rn s = true := by
                  have b5 := pw_b5 hok hs
                  unfold pw_fit pw_fitB
                  repeat' split
                  all_goals first | rfl | (exfalso; omega) | exact decide_eq_true (by omega) | exact decide_eq_false (by omega)
                rw [e]
                rfl
          · refine pw_blk (pc' := 76) [.iload 3, .iload 5] (by decide +kernel) ?_
            show pw_V x m_X8_fitsBy 0 Z 76 [(5, .int (nI (pw_g A 6 s))), (4, .int (nI (pw_g A 5 s))), (0, .ref 26), (1, .int (nI k)), (2, .int (nI s)), (3, .int (nI rn))] [.int (nI (pw_g A 6 s)), .int (nI rn)] mm
            refine pw_in_gt (tgt := 83) (off := 7) (by first | omega | exact pw_g_lt) (by first | omega | exact pw_g_lt) (by decide +kernel) (by decide) (fun h76 => ?_) (fun h76 => ?_)
            · refine pw_blk (pc' := 84) [.iconst 0] (by decide +kernel) ?_
              show pw_V x m_X8_fitsBy 0 Z 84 [(5, .int (nI (pw_g A 6 s))), (4, .int (nI (pw_g A 5 s))), (0, .ref 26), (1, .int (nI k)), (2, .int (nI s)), (3, .int (nI rn))] [.int (nI 0)] mm
              refine pw_goto (tgt := 113) (off := 29) (by decide +kernel) (by decide) ?_
              rw [← hZ]
              refine pw_rz (by decide +kernel) (Or.inl rfl) ?_
              refine ⟨?_, rfl⟩
              have e : pw_fit A k rn s = false := by
                have b5 := pw_b5 hok hs
                unfold pw_fit pw_fitB
                repeat' split
                all_goals first | rfl | (exfalso; omega) | exact decide_eq_true (by omega) | exact decide_eq_false (by omega)
              rw [e]
              rfl
            · refine pw_blk (pc' := 80) [.iconst 1] (by decide +kernel) ?_
              show pw_V x m_X8_fitsBy 0 Z 80 [(5, .int (nI (pw_g A 6 s))), (4, .int (nI (pw_g A 5 s))), (0, .ref 26), (1, .int (nI k)), (2, .int (nI s)), (3, .int (nI rn))] [.int (nI 1)] mm
              refine pw_goto (tgt := 113) (off := 33) (by decide +kernel) (by decide) ?_
              rw [← hZ]
              refine pw_rz (by decide +kernel) (Or.inr rfl) ?_
              refine ⟨?_, rfl⟩
              have e : pw_fit A k rn s = true := by
                have b5 := pw_b5 hok hs
                unfold pw_fit pw_fitB
                repeat' split
                all_goals first | rfl | (exfalso; omega) | exact decide_eq_true (by omega) | exact decide_eq_false (by omega)
              rw [e]
              rfl
        · refine pw_blk (pc' := 56) [.iload 3, .iload 5] (by decide +kernel) ?_
          show pw_V x m_X8_fitsBy 0 Z 56 [(5, .int (nI (pw_g A 6 s))), (4, .int (nI (pw_g A 5 s))), (0, .ref 26), (1, .int (nI k)), (2, .int (nI s)), (3, .int (nI rn))] [.int (nI (pw_g A 6 s)), .int (nI rn)] mm
          refine pw_in_lt (tgt := 63) (off := 7) (by first | omega | exact pw_g_lt) (by first | omega | exact pw_g_lt) (by decide +kernel) (by decide) (fun h56 => ?_) (fun h56 => ?_)
          · refine pw_blk (pc' := 64) [.iconst 0] (by decide +kernel) ?_
            show pw_V x m_X8_fitsBy 0 Z 64 [(5, .int (nI (pw_g A 6 s))), (4, .int (nI (pw_g A 5 s))), (0, .ref 26), (1, .int (nI k)), (2, .int (nI s)), (3, .int (nI rn))] [.int (nI 0)] mm
            refine pw_goto (tgt := 113) (off := 49) (by decide +kernel) (by decide) ?_
            rw [← hZ]
            refine pw_rz (by decide +kernel) (Or.inl rfl) ?_
            refine ⟨?_, rfl⟩
            have e : pw_fit A k rn s = false := by
              have b5 := pw_b5 hok hs
              unfold pw_fit pw_fitB
              repeat' split
              all_goals first | rfl | (exfalso; omega) | exact decide_eq_true (by omega) | exact decide_eq_false (by omega)
            rw [e]
            rfl
          · refine pw_blk (pc' := 60) [.iconst 1] (by decide +kernel) ?_
            show pw_V x m_X8_fitsBy 0 Z 60 [(5, .int (nI (pw_g A 6 s))), (4, .int (nI (pw_g A 5 s))), (0, .ref 26), (1, .int (nI k)), (2, .int (nI s)), (3, .int (nI rn))] [.int (nI 1)] mm
            refine pw_goto (tgt := 113) (off := 53) (by decide +kernel) (by decide) ?_
            rw [← hZ]
            refine pw_rz (by decide +kernel) (Or.inr rfl) ?_
            refine ⟨?_, rfl⟩
            have e : pw_fit A k rn s = true := by
              have b5 := pw_b5 hok hs
              unfold pw_fit pw_fitB
              repeat' split
              all_goals first | rfl | (exfalso; omega) | exact decide_eq_true (by omega) | exact decide_eq_false (by omega)
            rw [e]
            rfl
      · refine pw_blk (pc' := 46) [.iconst 1] (by decide +kernel) ?_
        show pw_V x m_X8_fitsBy 0 Z 46 [(5, .int (nI (pw_g A 6 s))), (4, .int (nI (pw_g A 5 s))), (0, .ref 26), (1, .int (nI k)), (2, .int (nI s)), (3, .int (nI rn))] [.int (nI 1)] mm
        rw [← hZ]
        refine pw_rz (by decide +kernel) (Or.inr rfl) ?_
        refine ⟨?_, rfl⟩
        have e : pw_fit A k rn s = true := by
          have b5 := pw_b5 hok hs
          unfold pw_fit pw_fitB
          repeat' split
          all_goals first | rfl | (exfalso; omega) | exact decide_eq_true (by omega) | exact decide_eq_false (by omega)
        rw [e]
        rfl

set_option maxHeartbeats 4000000 in
set_option maxRecDepth 100000 in
theorem cL_mfits {A : pw_m} (mm : pw_m) (hl : MV A (pw_up mm 26 33 (-1))) (hok : pw_ok A) (k s : Nat) (hk : k < 6) (hs : s < 8) : pw_Ct 1 yX8_fits m_X8_fits [.ref 26, .int (nI k), .int (nI s)] mm (fun r m' => r = some (.int (pw_b (pw_fnow A k s))) ∧ m' = mm) := by
  refine pw_ct (by decide +kernel) rfl (Nat.le_of_ble_eq_true rfl) (fun x => ?_)
  generalize hZ : pw_Z x _ = Z
  have bn := pw_bn hok
  have bk := pw_bk hok
  show pw_V x m_X8_fits 1 Z 0 [(0, .ref 26), (1, .int (nI k)), (2, .int (nI s))] [] mm
  refine pw_blk (pc' := 11) [.aload 0, .iload 1, .iload 2, .aload 0, .getfield 808, .iconst 2, .iload 1, .iadd, .iaload] (by decide +kernel) ?_
  refine ⟨(2 + k), (show (nI 2) + (nI k) = nI (2 + k) from by rw [show (nI 2) + (nI k) = nI (2 + k) from nI_add _ _]), by first | omega | exact pw_g_lt, ?_⟩
  show pw_V x m_X8_fits 1 Z 11 [(0, .ref 26), (1, .int (nI k)), (2, .int (nI s))] [.int (mm 30 (2 + k)), .int (nI s), .int (nI k), .ref 26] mm
  rw [show mm 30 (2 + k) = nI (pw_g A 43 k) from mv_rn (B := pw_up mm 26 33 (-1)) hl hok (i := k) (by omega)]
  refine pw_cV (vs := [.int (nI k), .int (nI s), .int (nI (pw_g A 43 k))]) (rest := []) k_X8_fitsBy (cL_mfitsBy mm hl hok k (pw_g A 43 k) s (by omega) (by omega) (by first | omega | exact pw_g_lt)) l_8_186 rfl rfl rfl rfl (by omega) (Nat.le_of_ble_eq_true rfl) (by decide +kernel) ?_
  rintro _ m1 ⟨rfl, e1⟩
  rw [e1]
  clear e1 m1
  show pw_V x m_X8_fits 1 Z 14 [(0, .ref 26), (1, .int (nI k)), (2, .int (nI s))] [.int (pw_b (pw_fit A k (pw_g A 43 k) s))] mm
  rw [← hZ]
  refine pw_rz (by decide +kernel) (pw_b01 _) ?_
  exact ⟨rfl, rfl⟩

set_option maxHeartbeats 4000000 in
set_option maxRecDepth 100000 in
theorem cL_mperil {A : pw_m} (mm : pw_m) (hl : MV A (pw_up mm 26 33 (-1))) (hok : pw_ok A) : pw_Ct 0 yX8_perilOn m_X8_perilOn [.ref 26] mm (fun r m' => r = some (.int (pw_o (pw_pon A))) ∧ m' = mm) := by
  refine pw_ct (by decide +kernel) rfl (Nat.le_of_ble_eq_true rfl) (fun x => ?_)
  generalize hZ : pw_Z x _ = Z
  have bn := pw_bn hok
  have bk := pw_bk hok
  have b48 := pw_b48 hok
  have b49 := pw_b49 hok
  have b420 := pw_b420 hok
  have bm := pw_mulb b49 b420
  show pw_V x m_X8_perilOn 0 Z 0 [(0, .ref 26)] [] mm
  refine pw_blk (pc' := 4) [.aload 0, .getfield 800] (by decide +kernel) ?_
  show pw_V x m_X8_perilOn 0 Z 4 [(0, .ref 26)] [.int (mm 26 0)] mm
  rw [show mm 26 0 = nI (pw_n A) from mv_n (B := pw_up mm 26 33 (-1)) hl hok]
  refine pw_iz_ne (tgt := 11) (off := 7) (by omega) (by decide +kernel) (by decide) (fun h4 => ?_) (fun h4 => ?_)
  · refine pw_blk (pc' := 32) [.aload 0, .getfield 805, .aload 0, .getfield 806, .aload 0, .getfield 808, .iconst 0, .iaload, .imul, .iadd, .aload 0, .getfield 800, .irem] (by decide +kernel) ?_
    refine ⟨0, rfl, by omega, ?_⟩
    refine ⟨(show ¬ mm 26 0 = 0 from by rw [show mm 26 0 = nI (pw_n A) from mv_n (B := pw_up mm 26 33 (-1)) hl hok]; exact (show ¬ nI (pw_n A) = 0 from nI_ne0 (by omega) (by omega))), ?_⟩
    show pw_V x m_X8_perilOn 0 Z 32 [(0, .ref 26)] [.int (((mm 26 5) + ((mm 26 6) * (mm 30 0))) - ((mm 26 5) + ((mm 26 6) * (mm 30 0))) / (mm 26 0) * (mm 26 0))] mm
    rw [show mm 26 5 = nI (pw_g A 4 8) from mv_pf (B := pw_up mm 26 33 (-1)) hl hok]
    rw [show mm 26 6 = nI (pw_g A 4 9) from mv_ps (B := pw_up mm 26 33 (-1)) hl hok]
    rw [show mm 30 0 = nI (pw_g A 42 0) from mv_d (B := pw_up mm 26 33 (-1)) hl hok]
    rw [show (nI (pw_g A 4 9)) * (nI (pw_g A 42 0)) = nI ((pw_g A 4 9) * (pw_g A 42 0)) from pk_mul _ _]
    rw [show (nI (pw_g A 4 8)) + (nI ((pw_g A 4 9) * (pw_g A 42 0))) = nI ((pw_g A 4 8) + ((pw_g A 4 9) * (pw_g A 42 0))) from nI_add _ _]
    rw [show mm 26 0 = nI (pw_n A) from mv_n (B := pw_up mm 26 33 (-1)) hl hok]
    rw [show (nI ((pw_g A 4 8) + ((pw_g A 4 9) * (pw_g A 42 0)))) - (nI ((pw_g A 4 8) + ((pw_g A 4 9) * (pw_g A 42 0)))) / (nI (pw_n A)) * (nI (pw_n A)) = nI (((pw_g A 4 8) + ((pw_g A 4 9) * (pw_g A 42 0))) % (pw_n A)) from pk_rem (by omega) (by omega) (by omega)]
    rw [← hZ]
    refine pw_ri (by decide +kernel) ?_
    refine ⟨?_, rfl⟩
    simp [pw_pon, pw_per, h4]
    try rfl
  · refine pw_blk (pc' := 8) [.iconst (-1)] (by decide +kernel) ?_
    show pw_V x m_X8_perilOn 0 Z 8 [(0, .ref 26)] [.int (-1)] mm
    refine pw_goto (tgt := 32) (off := 24) (by decide +kernel) (by decide) ?_
    rw [← hZ]
    refine pw_ri (by decide +kernel) ?_
    refine ⟨?_, rfl⟩
    simp [pw_pon, pw_per, h4]
    try rfl

set_option maxHeartbeats 4000000 in
set_option maxRecDepth 100000 in
theorem cL_mbes1 {A : pw_m} (mm : pw_m) (hl : MV A (pw_up mm 26 33 (-1))) (hok : pw_ok A) (s : Nat) (hs : s < pw_n A) : pw_Ct 0 yX8_beside m_X8_beside [.ref 26, .int (nI s), .int (nI 1)] mm (fun r m' => r = some (.int (nI (pw_bh (pw_n A) s))) ∧ m' = mm) := by
  refine pw_ct (by decide +kernel) rfl (Nat.le_of_ble_eq_true rfl) (fun x => ?_)
  generalize hZ : pw_Z x _ = Z
  have bn := pw_bn hok
  have bk := pw_bk hok
  show pw_V x m_X8_beside 0 Z 0 [(0, .ref 26), (1, .int (nI s)), (2, .int (nI 1))] [] mm
  refine pw_blk (pc' := 13) [.iload 1, .iload 2, .iadd, .aload 0, .getfield 800, .iadd, .aload 0, .getfield 800, .irem] (by decide +kernel) ?_
  refine ⟨(show ¬ mm 26 0 = 0 from by rw [show mm 26 0 = nI (pw_n A) from mv_n (B := pw_up mm 26 33 (-1)) hl hok]; exact (show ¬ nI (pw_n A) = 0 from nI_ne0 (by omega) (by omega))), ?_⟩
  show pw_V x m_X8_beside 0 Z 13 [(0, .ref 26), (1, .int (nI s)), (2, .int (nI 1))] [.int ((((nI s) + (nI 1)) + (mm 26 0)) - (((nI s) + (nI 1)) + (mm 26 0)) / (mm 26 0) * (mm 26 0))] mm
  rw [show (nI s) + (nI 1) = nI (s + 1) from nI_add _ _]
  rw [show mm 26 0 = nI (pw_n A) from mv_n (B := pw_up mm 26 33 (-1)) hl hok]
  rw [show (nI (s + 1)) + (nI (pw_n A)) = nI ((s + 1) + (pw_n A)) from nI_add _ _]
  rw [show (nI ((s + 1) + (pw_n A))) - (nI ((s + 1) + (pw_n A))) / (nI (pw_n A)) * (nI (pw_n A)) = nI (((s + 1) + (pw_n A)) % (pw_n A)) from pk_rem (by omega) (by omega) (by omega)]
  rw [← hZ]
  refine pw_ri (by decide +kernel) ?_
  refine ⟨?_, rfl⟩
  rw [pw_bes1 hs]

set_option maxHeartbeats 4000000 in
set_option maxRecDepth 100000 in
theorem cL_mbesm {A : pw_m} (mm : pw_m) (hl : MV A (pw_up mm 26 33 (-1))) (hok : pw_ok A) (s : Nat) (hs : s < pw_n A) : pw_Ct 0 yX8_beside m_X8_beside [.ref 26, .int (nI s), .int (-1)] mm (fun r m' => r = some (.int (nI (pw_ah (pw_n A) s))) ∧ m' = mm) := by
  refine pw_ct (by decide +kernel) rfl (Nat.le_of_ble_eq_true rfl) (fun x => ?_)
  generalize hZ : pw_Z x _ = Z
  have bn := pw_bn hok
  have bk := pw_bk hok
  show pw_V x m_X8_beside 0 Z 0 [(0, .ref 26), (1, .int (nI s)), (2, .int (-1))] [] mm
  refine pw_blk (pc' := 8) [.iload 1, .iload 2, .iadd, .aload 0, .getfield 800, .iadd] (by decide +kernel) ?_
  show pw_V x m_X8_beside 0 Z 8 [(0, .ref 26), (1, .int (nI s)), (2, .int (-1))] [.int (((nI s) + (-1)) + (mm 26 0))] mm
  rw [show mm 26 0 = nI (pw_n A) from mv_n (B := pw_up mm 26 33 (-1)) hl hok]
  rw [show ((nI s) + (-1)) + (nI (pw_n A)) = nI (s + pw_n A - 1) from pw_nIms (by omega) (by omega)]
  refine pw_blk (pc' := 13) [.aload 0, .getfield 800, .irem] (by decide +kernel) ?_
  refine ⟨(show ¬ mm 26 0 = 0 from by rw [show mm 26 0 = nI (pw_n A) from mv_n (B := pw_up mm 26 33 (-1)) hl hok]; exact (show ¬ nI (pw_n A) = 0 from nI_ne0 (by omega) (by omega))), ?_⟩
  show pw_V x m_X8_beside 0 Z 13 [(0, .ref 26), (1, .int (nI s)), (2, .int (-1))] [.int ((nI (s + pw_n A - 1)) - (nI (s + pw_n A - 1)) / (mm 26 0) * (mm 26 0))] mm
  rw [show mm 26 0 = nI (pw_n A) from mv_n (B := pw_up mm 26 33 (-1)) hl hok]
  rw [show (nI (s + pw_n A - 1)) - (nI (s + pw_n A - 1)) / (nI (pw_n A)) * (nI (pw_n A)) = nI ((s + pw_n A - 1) % (pw_n A)) from pk_rem (by omega) (by omega) (by omega)]
  rw [← hZ]
  refine pw_ri (by decide +kernel) ?_
  refine ⟨?_, rfl⟩
  rw [pw_besm hs]

set_option maxHeartbeats 4000000 in
set_option maxRecDepth 100000 in
theorem cL_mare {A : pw_m} (mm : pw_m) (hl : MV A (pw_up mm 26 33 (-1))) (hok : pw_ok A) (i : Nat) (q : Option Nat) (hi : i < 6) (hq : ∀ c, q = some c → c < 6) : pw_Ct 1 yX8_areEnemies m_X8_areEnemies [.ref 26, .int (nI i), .int (pw_o (q))] mm (fun r m' => r = some (.int (pw_b (pw_en A i q))) ∧ m' = mm) := by
  refine pw_ct (by decide +kernel) rfl (Nat.le_of_ble_eq_true rfl) (fun x => ?_)
  generalize hZ : pw_Z x _ = Z
  have bn := pw_bn hok
  have bk := pw_bk hok
  show pw_V x m_X8_areEnemies 1 Z 0 [(0, .ref 26), (1, .int (nI i)), (2, .int (pw_o (q)))] [] mm
  refine pw_blk (pc' := 2) [.iload 2, .iconst (-1)] (by decide +kernel) ?_
  show pw_V x m_X8_areEnemies 1 Z 2 [(0, .ref 26), (1, .int (nI i)), (2, .int (pw_o (q)))] [.int (-1), .int (pw_o (q))] mm
  rcases h2 : q with _ | s2
  · show pw_V x m_X8_areEnemies 1 Z 2 [(0, .ref 26), (1, .int (nI i)), (2, .int (-1))] [.int (-1), .int (-1)] mm
    refine pw_ic_eq (tgt := 22) (off := 20) (by decide +kernel) (by decide) (fun _ => ?_) (fun h => absurd rfl h)
    refine pw_blk (pc' := 23) [.iconst 0] (by decide +kernel) ?_
    show pw_V x m_X8_areEnemies 1 Z 23 [(0, .ref 26), (1, .int (nI i)), (2, .int (-1))] [.int (nI 0)] mm
    rw [← hZ]
    refine pw_rz (by decide +kernel) (Or.inl rfl) ?_
    refine ⟨?_, rfl⟩
    simp [pw_en, h2]
    try rfl
  · show pw_V x m_X8_areEnemies 1 Z 2 [(0, .ref 26), (1, .int (nI i)), (2, .int (nI s2))] [.int (-1), .int (nI s2)] mm
    have b2 := hq _ h2
    refine pw_ic_eq (tgt := 22) (off := 20) (by decide +kernel) (by decide) (fun h => absurd h (pw_n1 (by first | omega | exact pw_g_lt))) (fun _ => ?_)
    refine pw_blk (pc' := 12) [.aload 0, .getfield 804, .iload 1, .iaload, .iload 2] (by decide +kernel) ?_
    refine ⟨i, rfl, by first | omega | exact pw_g_lt, ?_⟩
    show pw_V x m_X8_areEnemies 1 Z 12 [(0, .ref 26), (1, .int (nI i)), (2, .int (nI s2))] [.int (nI s2), .int (mm 29 i)] mm
    rw [show mm 29 i = nI (pw_g A 10 i) from mv_en (B := pw_up mm 26 33 (-1)) hl hok (i := i) (by omega)]
    refine pw_cS (vs := [.int (nI (pw_g A 10 i)), .int (nI s2)]) (rest := []) k_X8_has (c_mhasN (pw_g A 10 i) s2 mm (by first | omega | exact pw_g_lt | exact pw_ob_lt31 (by omega)) (by first | omega | exact pw_g_lt)) l_8_86 rfl (by omega) (Nat.le_of_ble_eq_true rfl) (by decide +kernel) ?_
    rintro _ m1 ⟨rfl, e1⟩
    rw [e1]
    clear e1 m1
    show pw_V x m_X8_areEnemies 1 Z 15 [(0, .ref 26), (1, .int (nI i)), (2, .int (nI s2))] [.int (pw_b (((pw_g A 10 i)).testBit s2))] mm
    refine pw_ib_eq (tgt := 22) (off := 7) (by decide +kernel) (by decide) (fun h15 => ?_) (fun h15 => ?_)
    · refine pw_blk (pc' := 23) [.iconst 0] (by decide +kernel) ?_
      show pw_V x m_X8_areEnemies 1 Z 23 [(0, .ref 26), (1, .int (nI i)), (2, .int (nI s2))] [.int (nI 0)] mm
      rw [← hZ]
      refine pw_rz (by decide +kernel) (Or.inl rfl) ?_
      refine ⟨?_, rfl⟩
      simp [pw_en, h2, h15]
      try rfl
    · refine pw_blk (pc' := 19) [.iconst 1] (by decide +kernel) ?_
      show pw_V x m_X8_areEnemies 1 Z 19 [(0, .ref 26), (1, .int (nI i)), (2, .int (nI s2))] [.int (nI 1)] mm
      refine pw_goto (tgt := 23) (off := 4) (by decide +kernel) (by decide) ?_
      rw [← hZ]
      refine pw_rz (by decide +kernel) (Or.inr rfl) ?_
      refine ⟨?_, rfl⟩
      simp [pw_en, h2, h15]
      try rfl

theorem pw_sby_6 {gx : Nat → Option Nat} {kn s j : Nat} (hk : kn ≤ 6) (h : pw_sby gx kn s = some j) : j < 6 := by have := pw_sby_lt h; omega

set_option maxHeartbeats 4000000 in
set_option maxRecDepth 100000 in
theorem cL_msby {A : pw_m} (mm : pw_m) (hl : MV A (pw_up mm 26 33 (-1))) (hok : pw_ok A) (gx : Nat → Option Nat) (hg : ∀ j, j < 6 → mm 40 j = pw_o (gx j)) (hgb : ∀ j a, j < 6 → gx j = some a → a < 8) (s : Nat) (hs : s < 2 ^ 31) : pw_Ct 0 yX8_sitterBy m_X8_sitterBy [.ref 26, .int (nI s)] mm (fun r m' => r = some (.int (pw_o (pw_sby gx (pw_k A) s))) ∧ m' = mm) := by
  refine pw_ct (by decide +kernel) rfl (Nat.le_of_ble_eq_true rfl) (fun x => ?_)
  generalize hZ : pw_Z x _ = Z
  have bn := pw_bn hok
  have bk := pw_bk hok
  show pw_V x m_X8_sitterBy 0 Z 0 [(0, .ref 26), (1, .int (nI s))] [] mm
  refine pw_blk (pc' := 4) [.iconst (-1), .istore 2, .iconst 0, .istore 3] (by decide +kernel) ?_
  show pw_V x m_X8_sitterBy 0 Z 4 [(3, .int (nI 0)), (2, .int (-1)), (0, .ref 26), (1, .int (nI s))] [] mm
  refine pw_lvp [2, 3, 1, 0] rfl ?_
  rw [show (-1) = pw_o ((pw_lf (fun j => decide (gx j = some s)) 0)) from rfl]
  suffices lo : ∀ ix : Nat, ix ≤ pw_k A → pw_V x m_X8_sitterBy 0 Z 4 [(0, .ref 26), (1, .int (nI s)), (2, .int (pw_o ((pw_lf (fun j => decide (gx j = some s)) ix)))), (3, .int (nI ix))] [] mm from lo 0 (by omega)
  refine pw_dn (pw_k A) (fun ix hix ih => ?_)
  refine pw_blk (pc' := 9) [.iload 3, .aload 0, .getfield 802] (by decide +kernel) ?_
  show pw_V x m_X8_sitterBy 0 Z 9 [(0, .ref 26), (1, .int (nI s)), (2, .int (pw_o ((pw_lf (fun j => decide (gx j = some s)) ix)))), (3, .int (nI ix))] [.int (mm 26 2), .int (nI ix)] mm
  rw [show mm 26 2 = nI (pw_k A) from mv_k (B := pw_up mm 26 33 (-1)) hl hok]
  refine pw_in_ge (tgt := 34) (off := 25) (by omega) (by omega) (by decide +kernel) (by decide) (fun h9 => ?_) (fun h9 => ?_)
  · refine pw_blk (pc' := 35) [.iload 2] (by decide +kernel) ?_
    show pw_V x m_X8_sitterBy 0 Z 35 [(0, .ref 26), (1, .int (nI s)), (2, .int (pw_o ((pw_lf (fun j => decide (gx j = some s)) ix)))), (3, .int (nI ix))] [.int (pw_o ((pw_lf (fun j => decide (gx j = some s)) ix)))] mm
    rw [← hZ]
    refine pw_ri (by decide +kernel) ?_
    refine ⟨?_, rfl⟩
    rw [show ix = pw_k A by omega]
    rfl
  · refine pw_blk (pc' := 19) [.aload 0, .getfield 832, .iload 3, .iaload, .iload 1] (by decide +kernel) ?_
    refine ⟨ix, rfl, by omega, ?_⟩
    show pw_V x m_X8_sitterBy 0 Z 19 [(0, .ref 26), (1, .int (nI s)), (2, .int (pw_o ((pw_lf (fun j => decide (gx j = some s)) ix)))), (3, .int (nI ix))] [.int (nI s), .int (mm 40 ix)] mm
    rw [show mm 40 ix = pw_o (gx ix) from hg ix (by omega)]
    refine pw_on_ne (tgt := 26) (off := 7) (by decide +kernel) (by decide) (fun a ha => Nat.lt_trans (hgb ix _ (by omega) ha) (by omega)) (by omega) (fun h19 => ?_) (fun h19 => ?_)
    · refine pw_blk (pc' := 31) [.iload 2, .istore 2, .iinc 3 1] (by decide +kernel) ?_
      show pw_V x m_X8_sitterBy 0 Z 31 [(3, .int ((nI ix) + (nI 1))), (2, .int (pw_o ((pw_lf (fun j => decide (gx j = some s)) ix)))), (0, .ref 26), (1, .int (nI s))] [] mm
      rw [show (nI ix) + (nI 1) = nI (ix + 1) from nI_add _ _]
      refine pw_goto (tgt := 4) (off := -27) (by decide +kernel) (by decide) ?_
      rw [show pw_o ((pw_lf (fun j => decide (gx j = some s)) ix)) = pw_o ((pw_lf (fun j => decide (gx j = some s)) (ix + 1))) from by simp [pw_lf, pw_o, h9, h19]]
      refine pw_lvp [2, 3, 1, 0] rfl ?_
      exact ih (by omega)
    · refine pw_blk (pc' := 23) [.iload 3] (by decide +kernel) ?_
      show pw_V x m_X8_sitterBy 0 Z 23 [(0, .ref 26), (1, .int (nI s)), (2, .int (pw_o ((pw_lf (fun j => decide (gx j = some s)) ix)))), (3, .int (nI ix))] [.int (nI ix)] mm
      refine pw_goto (tgt := 27) (off := 4) (by decide +kernel) (by decide) ?_
      refine pw_blk (pc' := 31) [.istore 2, .iinc 3 1] (by decide +kernel) ?_
      show pw_V x m_X8_sitterBy 0 Z 31 [(3, .int ((nI ix) + (nI 1))), (2, .int (nI ix)), (0, .ref 26), (1, .int (nI s))] [] mm
      rw [show (nI ix) + (nI 1) = nI (ix + 1) from nI_add _ _]
      refine pw_goto (tgt := 4) (off := -27) (by decide +kernel) (by decide) ?_
      rw [show nI ix = pw_o ((pw_lf (fun j => decide (gx j = some s)) (ix + 1))) from by simp [pw_lf, pw_o, h9, h19]]
      refine pw_lvp [2, 3, 1, 0] rfl ?_
      exact ih (by omega)

set_option maxHeartbeats 4000000 in
set_option maxRecDepth 100000 in
theorem cL_mmay {A : pw_m} (mm : pw_m) (hl : MV A (pw_up mm 26 33 (-1))) (hok : pw_ok A) (gx : Nat → Option Nat) (hg : ∀ j, j < 6 → mm 40 j = pw_o (gx j)) (hgb : ∀ j a, j < 6 → gx j = some a → a < 8) (q : Option Nat) (hq : mm 26 33 = pw_o q) (hqb : ∀ a, q = some a → a < 8) (i s : Nat) (hi : i < pw_k A) (hs : s < pw_n A) : pw_Ct 2 yX8_maySit m_X8_maySit [.ref 26, .int (nI i), .int (nI s)] mm (fun r m' => r = some (.int (pw_b (pw_may A q gx i s))) ∧ m' = mm) := by
  refine pw_ct (by decide +kernel) rfl (Nat.le_of_ble_eq_true rfl) (fun x => ?_)
  generalize hZ : pw_Z x _ = Z
  have bn := pw_bn hok
  have bk := pw_bk hok
  show pw_V x m_X8_maySit 2 Z 0 [(0, .ref 26), (1, .int (nI i)), (2, .int (nI s))] [] mm
  refine pw_blk (pc' := 5) [.iload 2, .aload 0, .getfield 833] (by decide +kernel) ?_
  show pw_V x m_X8_maySit 2 Z 5 [(0, .ref 26), (1, .int (nI i)), (2, .int (nI s))] [.int (mm 26 33), .int (nI s)] mm
  rw [show mm 26 33 = pw_o (q) from hq]
  refine pw_no_ne (tgt := 12) (off := 7) (by decide +kernel) (by decide) (by first | omega | exact pw_g_lt) (fun a ha => Nat.lt_trans (hqb _ ha) (by omega)) (fun h5 => ?_) (fun h5 => ?_)
  · refine pw_blk (pc' := 16) [.iconst 0, .istore 3, .iload 2, .aload 0] (by decide +kernel) ?_
    show pw_V x m_X8_maySit 2 Z 16 [(3, .int (nI 0)), (0, .ref 26), (1, .int (nI i)), (2, .int (nI s))] [.ref 26, .int (nI s)] mm
    refine pw_cV (vs := []) (rest := [.int (nI s)]) k_X8_perilOn (cL_mperil mm hl hok) l_8_192 rfl rfl rfl rfl (by omega) (Nat.le_of_ble_eq_true rfl) (by decide +kernel) ?_
    rintro _ m1 ⟨rfl, e1⟩
    rw [e1]
    clear e1 m1
    show pw_V x m_X8_maySit 2 Z 19 [(3, .int (nI 0)), (0, .ref 26), (1, .int (nI i)), (2, .int (nI s))] [.int (pw_o (pw_pon A)), .int (nI s)] mm
    refine pw_no_ne (tgt := 46) (off := 27) (by decide +kernel) (by decide) (by first | omega | exact pw_g_lt) (fun a ha => Nat.lt_trans (pw_mpon hok ha) (by omega)) (fun h19 => ?_) (fun h19 => ?_)
    · refine pw_blk (pc' := 51) [.iconst 0, .istore 4, .aload 0, .iload 2] (by decide +kernel) ?_
      show pw_V x m_X8_maySit 2 Z 51 [(4, .int (nI 0)), (3, .int (nI 0)), (0, .ref 26), (1, .int (nI i)), (2, .int (nI s))] [.int (nI s), .ref 26] mm
      refine pw_cV (vs := [.int (nI s)]) (rest := []) k_X8_sitterBy (cL_msby mm hl hok gx hg hgb s (by have z1 := pw_bh_lt hs; have z2 := pw_ah_lt hs; omega)) l_8_228 rfl rfl rfl rfl (by omega) (Nat.le_of_ble_eq_true rfl) (by decide +kernel) ?_
      rintro _ m1 ⟨rfl, e1⟩
      rw [e1]
      clear e1 m1
      show pw_V x m_X8_maySit 2 Z 54 [(4, .int (nI 0)), (3, .int (nI 0)), (0, .ref 26), (1, .int (nI i)), (2, .int (nI s))] [.int (pw_o (pw_sby gx (pw_k A) s))] mm
      refine pw_blk (pc' := 55) [.iconst (-1)] (by decide +kernel) ?_
      show pw_V x m_X8_maySit 2 Z 55 [(4, .int (nI 0)), (3, .int (nI 0)), (0, .ref 26), (1, .int (nI i)), (2, .int (nI s))] [.int (-1), .int (pw_o (pw_sby gx (pw_k A) s))] mm
      rcases h55 : pw_sby gx (pw_k A) s with _ | s55
      · show pw_V x m_X8_maySit 2 Z 55 [(4, .int (nI 0)), (3, .int (nI 0)), (0, .ref 26), (1, .int (nI i)), (2, .int (nI s))] [.int (-1), .int (-1)] mm
        refine pw_ic_ne (tgt := 116) (off := 61) (by decide +kernel) (by decide) (fun h => absurd rfl h) (fun _ => ?_)
        refine pw_blk (pc' := 59) [.iload 3] (by decide +kernel) ?_
        show pw_V x m_X8_maySit 2 Z 59 [(4, .int (nI 0)), (3, .int (nI 0)), (0, .ref 26), (1, .int (nI i)), (2, .int (nI s))] [.int (nI 0)] mm
        refine pw_iz_ne (tgt := 71) (off := 12) (by omega) (by decide +kernel) (by decide) (fun h => by omega) (fun _ => ?_)
        refine pw_blk (pc' := 65) [.aload 0, .iload 1, .iload 2] (by decide +kernel) ?_
        show pw_V x m_X8_maySit 2 Z 65 [(4, .int (nI 0)), (3, .int (nI 0)), (0, .ref 26), (1, .int (nI i)), (2, .int (nI s))] [.int (nI s), .int (nI i), .ref 26] mm
        refine pw_cV (vs := [.int (nI i), .int (nI s)]) (rest := []) k_X8_fits (cL_mfits mm hl hok i s (by omega) (by omega)) l_8_189 rfl rfl rfl rfl (by omega) (Nat.le_of_ble_eq_true rfl) (by decide +kernel) ?_
        rintro _ m1 ⟨rfl, e1⟩
        rw [e1]
        clear e1 m1
        show pw_V x m_X8_maySit 2 Z 68 [(4, .int (nI 0)), (3, .int (nI 0)), (0, .ref 26), (1, .int (nI i)), (2, .int (nI s))] [.int (pw_b (pw_fnow A i s))] mm
        refine pw_ib_eq (tgt := 116) (off := 48) (by decide +kernel) (by decide) (fun h68 => ?_) (fun h68 => ?_)
        · refine pw_blk (pc' := 117) [.iconst 0] (by decide +kernel) ?_
          show pw_V x m_X8_maySit 2 Z 117 [(4, .int (nI 0)), (3, .int (nI 0)), (0, .ref 26), (1, .int (nI i)), (2, .int (nI s))] [.int (nI 0)] mm
          rw [← hZ]
          refine pw_rz (by decide +kernel) (Or.inl rfl) ?_
          refine ⟨?_, rfl⟩
          unfold pw_may pw_inp
          simp [h5, h19, h55, h68]
          try rfl
        · refine pw_blk (pc' := 73) [.iload 4] (by decide +kernel) ?_
          show pw_V x m_X8_maySit 2 Z 73 [(4, .int (nI 0)), (3, .int (nI 0)), (0, .ref 26), (1, .int (nI i)), (2, .int (nI s))] [.int (nI 0)] mm
          refine pw_iz_ne (tgt := 116) (off := 43) (by omega) (by decide +kernel) (by decide) (fun h => by omega) (fun _ => ?_)
          refine pw_blk (pc' := 82) [.aload 0, .iload 1, .aload 0, .aload 0, .iload 2, .iconst 1] (by decide +kernel) ?_
          show pw_V x m_X8_maySit 2 Z 82 [(4, .int (nI 0)), (3, .int (nI 0)), (0, .ref 26), (1, .int (nI i)), (2, .int (nI s))] [.int (nI 1), .int (nI s), .ref 26, .ref 26, .int (nI i), .ref 26] mm
          refine pw_cV (vs := [.int (nI s), .int (nI 1)]) (rest := [.ref 26, .int (nI i), .ref 26]) k_X8_beside (cL_mbes1 mm hl hok s (by omega)) l_8_222 rfl rfl rfl rfl (by omega) (Nat.le_of_ble_eq_true rfl) (by decide +kernel) ?_
          rintro _ m1 ⟨rfl, e1⟩
          rw [e1]
          clear e1 m1
          show pw_V x m_X8_maySit 2 Z 85 [(4, .int (nI 0)), (3, .int (nI 0)), (0, .ref 26), (1, .int (nI i)), (2, .int (nI s))] [.int (nI (pw_bh (pw_n A) s)), .ref 26, .int (nI i), .ref 26] mm
          refine pw_cV (vs := [.int (nI (pw_bh (pw_n A) s))]) (rest := [.int (nI i), .ref 26]) k_X8_sitterBy (cL_msby mm hl hok gx hg hgb (pw_bh (pw_n A) s) (by have z1 := pw_bh_lt hs; have z2 := pw_ah_lt hs; omega)) l_8_228 rfl rfl rfl rfl (by omega) (Nat.le_of_ble_eq_true rfl) (by decide +kernel) ?_
          rintro _ m1 ⟨rfl, e1⟩
          rw [e1]
          clear e1 m1
          show pw_V x m_X8_maySit 2 Z 88 [(4, .int (nI 0)), (3, .int (nI 0)), (0, .ref 26), (1, .int (nI i)), (2, .int (nI s))] [.int (pw_o (pw_sby gx (pw_k A) (pw_bh (pw_n A) s))), .int (nI i), .ref 26] mm
          refine pw_cV (vs := [.int (nI i), .int (pw_o (pw_sby gx (pw_k A) (pw_bh (pw_n A) s)))]) (rest := []) k_X8_areEnemies (cL_mare mm hl hok i (pw_sby gx (pw_k A) (pw_bh (pw_n A) s)) (by omega) (fun c hc => pw_sby_6 bk hc)) l_8_225 rfl rfl rfl rfl (by omega) (Nat.le_of_ble_eq_true rfl) (by decide +kernel) ?_
          rintro _ m1 ⟨rfl, e1⟩
          rw [e1]
          clear e1 m1
          show pw_V x m_X8_maySit 2 Z 91 [(4, .int (nI 0)), (3, .int (nI 0)), (0, .ref 26), (1, .int (nI i)), (2, .int (nI s))] [.int (pw_b (pw_en A i (pw_sby gx (pw_k A) (pw_bh (pw_n A) s))))] mm
          refine pw_ib_ne (tgt := 116) (off := 25) (by decide +kernel) (by decide) (fun h91 => ?_) (fun h91 => ?_)
          · refine pw_blk (pc' := 117) [.iconst 0] (by decide +kernel) ?_
            show pw_V x m_X8_maySit 2 Z 117 [(4, .int (nI 0)), (3, .int (nI 0)), (0, .ref 26), (1, .int (nI i)), (2, .int (nI s))] [.int (nI 0)] mm
            rw [← hZ]
            refine pw_rz (by decide +kernel) (Or.inl rfl) ?_
            refine ⟨?_, rfl⟩
            unfold pw_may pw_inp
            simp [h5, h19, h55, h68, h91]
            try rfl
          · refine pw_blk (pc' := 100) [.aload 0, .iload 1, .aload 0, .aload 0, .iload 2, .iconst (-1)] (by decide +kernel) ?_
            show pw_V x m_X8_maySit 2 Z 100 [(4, .int (nI 0)), (3, .int (nI 0)), (0, .ref 26), (1, .int (nI i)), (2, .int (nI s))] [.int (-1), .int (nI s), .ref 26, .ref 26, .int (nI i), .ref 26] mm
            refine pw_cV (vs := [.int (nI s), .int (-1)]) (rest := [.ref 26, .int (nI i), .ref 26]) k_X8_beside (cL_mbesm mm hl hok s (by omega)) l_8_222 rfl rfl rfl rfl (by omega) (Nat.le_of_ble_eq_true rfl) (by decide +kernel) ?_
            rintro _ m1 ⟨rfl, e1⟩
            rw [e1]
            clear e1 m1
            show pw_V x m_X8_maySit 2 Z 103 [(4, .int (nI 0)), (3, .int (nI 0)), (0, .ref 26), (1, .int (nI i)), (2, .int (nI s))] [.int (nI (pw_ah (pw_n A) s)), .ref 26, .int (nI i), .ref 26] mm
            refine pw_cV (vs := [.int (nI (pw_ah (pw_n A) s))]) (rest := [.int (nI i), .ref 26]) k_X8_sitterBy (cL_msby mm hl hok gx hg hgb (pw_ah (pw_n A) s) (by have z1 := pw_bh_lt hs; have z2 := pw_ah_lt hs; omega)) l_8_228 rfl rfl rfl rfl (by omega) (Nat.le_of_ble_eq_true rfl) (by decide +kernel) ?_
            rintro _ m1 ⟨rfl, e1⟩
            rw [e1]
            clear e1 m1
            show pw_V x m_X8_maySit 2 Z 106 [(4, .int (nI 0)), (3, .int (nI 0)), (0, .ref 26), (1, .int (nI i)), (2, .int (nI s))] [.int (pw_o (pw_sby gx (pw_k A) (pw_ah (pw_n A) s))), .int (nI i), .ref 26] mm
            refine pw_cV (vs := [.int (nI i), .int (pw_o (pw_sby gx (pw_k A) (pw_ah (pw_n A) s)))]) (rest := []) k_X8_areEnemies (cL_mare mm hl hok i (pw_sby gx (pw_k A) (pw_ah (pw_n A) s)) (by omega) (fun c hc => pw_sby_6 bk hc)) l_8_225 rfl rfl rfl rfl (by omega) (Nat.le_of_ble_eq_true rfl) (by decide +kernel) ?_
            rintro _ m1 ⟨rfl, e1⟩
            rw [e1]
            clear e1 m1
            show pw_V x m_X8_maySit 2 Z 109 [(4, .int (nI 0)), (3, .int (nI 0)), (0, .ref 26), (1, .int (nI i)), (2, .int (nI s))] [.int (pw_b (pw_en A i (pw_sby gx (pw_k A) (pw_ah (pw_n A) s))))] mm
            refine pw_ib_ne (tgt := 116) (off := 7) (by decide +kernel) (by decide) (fun h109 => ?_) (fun h109 => ?_)
            · refine pw_blk (pc' := 117) [.iconst 0] (by decide +kernel) ?_
              show pw_V x m_X8_maySit 2 Z 117 [(4, .int (nI 0)), (3, .int (nI 0)), (0, .ref 26), (1, .int (nI i)), (2, .int (nI s))] [.int (nI 0)] mm
              rw [← hZ]
              refine pw_rz (by decide +kernel) (Or.inl rfl) ?_
              refine ⟨?_, rfl⟩
              unfold pw_may pw_inp
              simp [h5, h19, h55, h68, h91, h109]
              try rfl
            · refine pw_blk (pc' := 113) [.iconst 1] (by decide +kernel) ?_
              show pw_V x m_X8_maySit 2 Z 113 [(4, .int (nI 0)), (3, .int (nI 0)), (0, .ref 26), (1, .int (nI i)), (2, .int (nI s))] [.int (nI 1)] mm
              refine pw_goto (tgt := 117) (off := 4) (by decide +kernel) (by decide) ?_
              rw [← hZ]
              refine pw_rz (by decide +kernel) (Or.inr rfl) ?_
              refine ⟨?_, rfl⟩
              unfold pw_may pw_inp
              simp [h5, h19, h55, h68, h91, h109]
              try rfl
      · show pw_V x m_X8_maySit 2 Z 55 [(4, .int (nI 0)), (3, .int (nI 0)), (0, .ref 26), (1, .int (nI i)), (2, .int (nI s))] [.int (-1), .int (nI s55)] mm
        have b55 := pw_sby_6 bk h55
        refine pw_ic_ne (tgt := 116) (off := 61) (by decide +kernel) (by decide) (fun _ => ?_) (fun h => absurd h (pw_n1 (by first | omega | exact pw_g_lt)))
        refine pw_blk (pc' := 117) [.iconst 0] (by decide +kernel) ?_
        show pw_V x m_X8_maySit 2 Z 117 [(4, .int (nI 0)), (3, .int (nI 0)), (0, .ref 26), (1, .int (nI i)), (2, .int (nI s))] [.int (nI 0)] mm
        rw [← hZ]
        refine pw_rz (by decide +kernel) (Or.inl rfl) ?_
        refine ⟨?_, rfl⟩
        unfold pw_may pw_inp
        simp [h5, h19, h55]
        try rfl
    · refine pw_blk (pc' := 27) [.iload 1, .aload 0, .getfield 807] (by decide +kernel) ?_
      show pw_V x m_X8_maySit 2 Z 27 [(3, .int (nI 0)), (0, .ref 26), (1, .int (nI i)), (2, .int (nI s))] [.int (mm 26 7), .int (nI i)] mm
      rw [show mm 26 7 = pw_o (pw_mt A) from mv_mt (B := pw_up mm 26 33 (-1)) hl hok]
      refine pw_no_eq (tgt := 46) (off := 19) (by decide +kernel) (by decide) (by first | omega | exact pw_g_lt) (fun a ha => Nat.lt_trans (pw_b410 hok ha) (by omega)) (fun h27 => ?_) (fun h27 => ?_)
      · refine pw_blk (pc' := 51) [.iconst 0, .istore 4, .aload 0, .iload 2] (by decide +kernel) ?_
        show pw_V x m_X8_maySit 2 Z 51 [(4, .int (nI 0)), (3, .int (nI 0)), (0, .ref 26), (1, .int (nI i)), (2, .int (nI s))] [.int (nI s), .ref 26] mm
        refine pw_cV (vs := [.int (nI s)]) (rest := []) k_X8_sitterBy (cL_msby mm hl hok gx hg hgb s (by have z1 := pw_bh_lt hs; have z2 := pw_ah_lt hs; omega)) l_8_228 rfl rfl rfl rfl (by omega) (Nat.le_of_ble_eq_true rfl) (by decide +kernel) ?_
        rintro _ m1 ⟨rfl, e1⟩
        rw [e1]
        clear e1 m1
        show pw_V x m_X8_maySit 2 Z 54 [(4, .int (nI 0)), (3, .int (nI 0)), (0, .ref 26), (1, .int (nI i)), (2, .int (nI s))] [.int (pw_o (pw_sby gx (pw_k A) s))] mm
        refine pw_blk (pc' := 55) [.iconst (-1)] (by decide +kernel) ?_
        show pw_V x m_X8_maySit 2 Z 55 [(4, .int (nI 0)), (3, .int (nI 0)), (0, .ref 26), (1, .int (nI i)), (2, .int (nI s))] [.int (-1), .int (pw_o (pw_sby gx (pw_k A) s))] mm
        rcases h55 : pw_sby gx (pw_k A) s with _ | s55
        · show pw_V x m_X8_maySit 2 Z 55 [(4, .int (nI 0)), (3, .int (nI 0)), (0, .ref 26), (1, .int (nI i)), (2, .int (nI s))] [.int (-1), .int (-1)] mm
          refine pw_ic_ne (tgt := 116) (off := 61) (by decide +kernel) (by decide) (fun h => absurd rfl h) (fun _ => ?_)
          refine pw_blk (pc' := 59) [.iload 3] (by decide +kernel) ?_
          show pw_V x m_X8_maySit 2 Z 59 [(4, .int (nI 0)), (3, .int (nI 0)), (0, .ref 26), (1, .int (nI i)), (2, .int (nI s))] [.int (nI 0)] mm
          refine pw_iz_ne (tgt := 71) (off := 12) (by omega) (by decide +kernel) (by decide) (fun h => by omega) (fun _ => ?_)
          refine pw_blk (pc' := 65) [.aload 0, .iload 1, .iload 2] (by decide +kernel) ?_
          show pw_V x m_X8_maySit 2 Z 65 [(4, .int (nI 0)), (3, .int (nI 0)), (0, .ref 26), (1, .int (nI i)), (2, .int (nI s))] [.int (nI s), .int (nI i), .ref 26] mm
          refine pw_cV (vs := [.int (nI i), .int (nI s)]) (rest := []) k_X8_fits (cL_mfits mm hl hok i s (by omega) (by omega)) l_8_189 rfl rfl rfl rfl (by omega) (Nat.le_of_ble_eq_true rfl) (by decide +kernel) ?_
          rintro _ m1 ⟨rfl, e1⟩
          rw [e1]
          clear e1 m1
          show pw_V x m_X8_maySit 2 Z 68 [(4, .int (nI 0)), (3, .int (nI 0)), (0, .ref 26), (1, .int (nI i)), (2, .int (nI s))] [.int (pw_b (pw_fnow A i s))] mm
          refine pw_ib_eq (tgt := 116) (off := 48) (by decide +kernel) (by decide) (fun h68 => ?_) (fun h68 => ?_)
          · refine pw_blk (pc' := 117) [.iconst 0] (by decide +kernel) ?_
            show pw_V x m_X8_maySit 2 Z 117 [(4, .int (nI 0)), (3, .int (nI 0)), (0, .ref 26), (1, .int (nI i)), (2, .int (nI s))] [.int (nI 0)] mm
            rw [← hZ]
            refine pw_rz (by decide +kernel) (Or.inl rfl) ?_
            refine ⟨?_, rfl⟩
            unfold pw_may pw_inp
            simp [h5, h19, h27, h55, h68]
            try rfl
          · refine pw_blk (pc' := 73) [.iload 4] (by decide +kernel) ?_
            show pw_V x m_X8_maySit 2 Z 73 [(4, .int (nI 0)), (3, .int (nI 0)), (0, .ref 26), (1, .int (nI i)), (2, .int (nI s))] [.int (nI 0)] mm
            refine pw_iz_ne (tgt := 116) (off := 43) (by omega) (by decide +kernel) (by decide) (fun h => by omega) (fun _ => ?_)
            refine pw_blk (pc' := 82) [.aload 0, .iload 1, .aload 0, .aload 0, .iload 2, .iconst 1] (by decide +kernel) ?_
            show pw_V x m_X8_maySit 2 Z 82 [(4, .int (nI 0)), (3, .int (nI 0)), (0, .ref 26), (1, .int (nI i)), (2, .int (nI s))] [.int (nI 1), .int (nI s), .ref 26, .ref 26, .int (nI i), .ref 26] mm
            refine pw_cV (vs := [.int (nI s), .int (nI 1)]) (rest := [.ref 26, .int (nI i), .ref 26]) k_X8_beside (cL_mbes1 mm hl hok s (by omega)) l_8_222 rfl rfl rfl rfl (by omega) (Nat.le_of_ble_eq_true rfl) (by decide +kernel) ?_
            rintro _ m1 ⟨rfl, e1⟩
            rw [e1]
            clear e1 m1
            show pw_V x m_X8_maySit 2 Z 85 [(4, .int (nI 0)), (3, .int (nI 0)), (0, .ref 26), (1, .int (nI i)), (2, .int (nI s))] [.int (nI (pw_bh (pw_n A) s)), .ref 26, .int (nI i), .ref 26] mm
            refine pw_cV (vs := [.int (nI (pw_bh (pw_n A) s))]) (rest := [.int (nI i), .ref 26]) k_X8_sitterBy (cL_msby mm hl hok gx hg hgb (pw_bh (pw_n A) s) (by have z1 := pw_bh_lt hs; have z2 := pw_ah_lt hs; omega)) l_8_228 rfl rfl rfl rfl (by omega) (Nat.le_of_ble_eq_true rfl) (by decide +kernel) ?_
            rintro _ m1 ⟨rfl, e1⟩
            rw [e1]
            clear e1 m1
            show pw_V x m_X8_maySit 2 Z 88 [(4, .int (nI 0)), (3, .int (nI 0)), (0, .ref 26), (1, .int (nI i)), (2, .int (nI s))] [.int (pw_o (pw_sby gx (pw_k A) (pw_bh (pw_n A) s))), .int (nI i), .ref 26] mm
            refine pw_cV (vs := [.int (nI i), .int (pw_o (pw_sby gx (pw_k A) (pw_bh (pw_n A) s)))]) (rest := []) k_X8_areEnemies (cL_mare mm hl hok i (pw_sby gx (pw_k A) (pw_bh (pw_n A) s)) (by omega) (fun c hc => pw_sby_6 bk hc)) l_8_225 rfl rfl rfl rfl (by omega) (Nat.le_of_ble_eq_true rfl) (by decide +kernel) ?_
            rintro _ m1 ⟨rfl, e1⟩
            rw [e1]
            clear e1 m1
            show pw_V x m_X8_maySit 2 Z 91 [(4, .int (nI 0)), (3, .int (nI 0)), (0, .ref 26), (1, .int (nI i)), (2, .int (nI s))] [.int (pw_b (pw_en A i (pw_sby gx (pw_k A) (pw_bh (pw_n A) s))))] mm
            refine pw_ib_ne (tgt := 116) (off := 25) (by decide +kernel) (by decide) (fun h91 => ?_) (fun h91 => ?_)
            · refine pw_blk (pc' := 117) [.iconst 0] (by decide +kernel) ?_
              show pw_V x m_X8_maySit 2 Z 117 [(4, .int (nI 0)), (3, .int (nI 0)), (0, .ref 26), (1, .int (nI i)), (2, .int (nI s))] [.int (nI 0)] mm
              rw [← hZ]
              refine pw_rz (by decide +kernel) (Or.inl rfl) ?_
              refine ⟨?_, rfl⟩
              unfold pw_may pw_inp
              simp [h5, h19, h27, h55, h68, h91]
              try rfl
            · refine pw_blk (pc' := 100) [.aload 0, .iload 1, .aload 0, .aload 0, .iload 2, .iconst (-1)] (by decide +kernel) ?_
              show pw_V x m_X8_maySit 2 Z 100 [(4, .int (nI 0)), (3, .int (nI 0)), (0, .ref 26), (1, .int (nI i)), (2, .int (nI s))] [.int (-1), .int (nI s), .ref 26, .ref 26, .int (nI i), .ref 26] mm
              refine pw_cV (vs := [.int (nI s), .int (-1)]) (rest := [.ref 26, .int (nI i), .ref 26]) k_X8_beside (cL_mbesm mm hl hok s (by omega)) l_8_222 rfl rfl rfl rfl (by omega) (Nat.le_of_ble_eq_true rfl) (by decide +kernel) ?_
              rintro _ m1 ⟨rfl, e1⟩
              rw [e1]
              clear e1 m1
              show pw_V x m_X8_maySit 2 Z 103 [(4, .int (nI 0)), (3, .int (nI 0)), (0, .ref 26), (1, .int (nI i)), (2, .int (nI s))] [.int (nI (pw_ah (pw_n A) s)), .ref 26, .int (nI i), .ref 26] mm
              refine pw_cV (vs := [.int (nI (pw_ah (pw_n A) s))]) (rest := [.int (nI i), .ref 26]) k_X8_sitterBy (cL_msby mm hl hok gx hg hgb (pw_ah (pw_n A) s) (by have z1 := pw_bh_lt hs; have z2 := pw_ah_lt hs; omega)) l_8_228 rfl rfl rfl rfl (by omega) (Nat.le_of_ble_eq_true rfl) (by decide +kernel) ?_
              rintro _ m1 ⟨rfl, e1⟩
              rw [e1]
              clear e1 m1
              show pw_V x m_X8_maySit 2 Z 106 [(4, .int (nI 0)), (3, .int (nI 0)), (0, .ref 26), (1, .int (nI i)), (2, .int (nI s))] [.int (pw_o (pw_sby gx (pw_k A) (pw_ah (pw_n A) s))), .int (nI i), .ref 26] mm
              refine pw_cV (vs := [.int (nI i), .int (pw_o (pw_sby gx (pw_k A) (pw_ah (pw_n A) s)))]) (rest := []) k_X8_areEnemies (cL_mare mm hl hok i (pw_sby gx (pw_k A) (pw_ah (pw_n A) s)) (by omega) (fun c hc => pw_sby_6 bk hc)) l_8_225 rfl rfl rfl rfl (by omega) (Nat.le_of_ble_eq_true rfl) (by decide +kernel) ?_
              rintro _ m1 ⟨rfl, e1⟩
              rw [e1]
              clear e1 m1
              show pw_V x m_X8_maySit 2 Z 109 [(4, .int (nI 0)), (3, .int (nI 0)), (0, .ref 26), (1, .int (nI i)), (2, .int (nI s))] [.int (pw_b (pw_en A i (pw_sby gx (pw_k A) (pw_ah (pw_n A) s))))] mm
              refine pw_ib_ne (tgt := 116) (off := 7) (by decide +kernel) (by decide) (fun h109 => ?_) (fun h109 => ?_)
              · refine pw_blk (pc' := 117) [.iconst 0] (by decide +kernel) ?_
                show pw_V x m_X8_maySit 2 Z 117 [(4, .int (nI 0)), (3, .int (nI 0)), (0, .ref 26), (1, .int (nI i)), (2, .int (nI s))] [.int (nI 0)] mm
                rw [← hZ]
                refine pw_rz (by decide +kernel) (Or.inl rfl) ?_
                refine ⟨?_, rfl⟩
                unfold pw_may pw_inp
                simp [h5, h19, h27, h55, h68, h91, h109]
                try rfl
              · refine pw_blk (pc' := 113) [.iconst 1] (by decide +kernel) ?_
                show pw_V x m_X8_maySit 2 Z 113 [(4, .int (nI 0)), (3, .int (nI 0)), (0, .ref 26), (1, .int (nI i)), (2, .int (nI s))] [.int (nI 1)] mm
                refine pw_goto (tgt := 117) (off := 4) (by decide +kernel) (by decide) ?_
                rw [← hZ]
                refine pw_rz (by decide +kernel) (Or.inr rfl) ?_
                refine ⟨?_, rfl⟩
                unfold pw_may pw_inp
                simp [h5, h19, h27, h55, h68, h91, h109]
                try rfl
        · show pw_V x m_X8_maySit 2 Z 55 [(4, .int (nI 0)), (3, .int (nI 0)), (0, .ref 26), (1, .int (nI i)), (2, .int (nI s))] [.int (-1), .int (nI s55)] mm
          have b55 := pw_sby_6 bk h55
          refine pw_ic_ne (tgt := 116) (off := 61) (by decide +kernel) (by decide) (fun _ => ?_) (fun h => absurd h (pw_n1 (by first | omega | exact pw_g_lt)))
          refine pw_blk (pc' := 117) [.iconst 0] (by decide +kernel) ?_
          show pw_V x m_X8_maySit 2 Z 117 [(4, .int (nI 0)), (3, .int (nI 0)), (0, .ref 26), (1, .int (nI i)), (2, .int (nI s))] [.int (nI 0)] mm
          rw [← hZ]
          refine pw_rz (by decide +kernel) (Or.inl rfl) ?_
          refine ⟨?_, rfl⟩
          unfold pw_may pw_inp
          simp [h5, h19, h27, h55]
          try rfl
      · refine pw_blk (pc' := 39) [.aload 0, .getfield 803, .iconst 3, .iload 1, .imul, .iaload, .iconst 1] (by decide +kernel) ?_
        refine ⟨(3 * i), (show (nI 3) * (nI i) = nI (3 * i) from by rw [show (nI 3) * (nI i) = nI (3 * i) from pk_mul _ _]), by first | omega | exact pw_g_lt, ?_⟩
        show pw_V x m_X8_maySit 2 Z 39 [(3, .int (nI 0)), (0, .ref 26), (1, .int (nI i)), (2, .int (nI s))] [.int (nI 1), .int (mm 28 (3 * i))] mm
        rw [show mm 28 (3 * i) = nI (pw_g A 7 i) from mv_kk (B := pw_up mm 26 33 (-1)) hl hok (i := i) (by omega)]
        refine pw_in_eq (tgt := 46) (off := 7) (by first | omega | exact pw_g_lt) (by first | omega | exact pw_g_lt) (by decide +kernel) (by decide) (fun h39 => ?_) (fun h39 => ?_)
        · refine pw_blk (pc' := 51) [.iconst 0, .istore 4, .aload 0, .iload 2] (by decide +kernel) ?_
          show pw_V x m_X8_maySit 2 Z 51 [(4, .int (nI 0)), (3, .int (nI 0)), (0, .ref 26), (1, .int (nI i)), (2, .int (nI s))] [.int (nI s), .ref 26] mm
          refine pw_cV (vs := [.int (nI s)]) (rest := []) k_X8_sitterBy (cL_msby mm hl hok gx hg hgb s (by have z1 := pw_bh_lt hs; have z2 := pw_ah_lt hs; omega)) l_8_228 rfl rfl rfl rfl (by omega) (Nat.le_of_ble_eq_true rfl) (by decide +kernel) ?_
          rintro _ m1 ⟨rfl, e1⟩
          rw [e1]
          clear e1 m1
          show pw_V x m_X8_maySit 2 Z 54 [(4, .int (nI 0)), (3, .int (nI 0)), (0, .ref 26), (1, .int (nI i)), (2, .int (nI s))] [.int (pw_o (pw_sby gx (pw_k A) s))] mm
          refine pw_blk (pc' := 55) [.iconst (-1)] (by decide +kernel) ?_
          show pw_V x m_X8_maySit 2 Z 55 [(4, .int (nI 0)), (3, .int (nI 0)), (0, .ref 26), (1, .int (nI i)), (2, .int (nI s))] [.int (-1), .int (pw_o (pw_sby gx (pw_k A) s))] mm
          rcases h55 : pw_sby gx (pw_k A) s with _ | s55
          · show pw_V x m_X8_maySit 2 Z 55 [(4, .int (nI 0)), (3, .int (nI 0)), (0, .ref 26), (1, .int (nI i)), (2, .int (nI s))] [.int (-1), .int (-1)] mm
            refine pw_ic_ne (tgt := 116) (off := 61) (by decide +kernel) (by decide) (fun h => absurd rfl h) (fun _ => ?_)
            refine pw_blk (pc' := 59) [.iload 3] (by decide +kernel) ?_
            show pw_V x m_X8_maySit 2 Z 59 [(4, .int (nI 0)), (3, .int (nI 0)), (0, .ref 26), (1, .int (nI i)), (2, .int (nI s))] [.int (nI 0)] mm
            refine pw_iz_ne (tgt := 71) (off := 12) (by omega) (by decide +kernel) (by decide) (fun h => by omega) (fun _ => ?_)
            refine pw_blk (pc' := 65) [.aload 0, .iload 1, .iload 2] (by decide +kernel) ?_
            show pw_V x m_X8_maySit 2 Z 65 [(4, .int (nI 0)), (3, .int (nI 0)), (0, .ref 26), (1, .int (nI i)), (2, .int (nI s))] [.int (nI s), .int (nI i), .ref 26] mm
            refine pw_cV (vs := [.int (nI i), .int (nI s)]) (rest := []) k_X8_fits (cL_mfits mm hl hok i s (by omega) (by omega)) l_8_189 rfl rfl rfl rfl (by omega) (Nat.le_of_ble_eq_true rfl) (by decide +kernel) ?_
            rintro _ m1 ⟨rfl, e1⟩
            rw [e1]
            clear e1 m1
            show pw_V x m_X8_maySit 2 Z 68 [(4, .int (nI 0)), (3, .int (nI 0)), (0, .ref 26), (1, .int (nI i)), (2, .int (nI s))] [.int (pw_b (pw_fnow A i s))] mm
            refine pw_ib_eq (tgt := 116) (off := 48) (by decide +kernel) (by decide) (fun h68 => ?_) (fun h68 => ?_)
            · refine pw_blk (pc' := 117) [.iconst 0] (by decide +kernel) ?_
              show pw_V x m_X8_maySit 2 Z 117 [(4, .int (nI 0)), (3, .int (nI 0)), (0, .ref 26), (1, .int (nI i)), (2, .int (nI s))] [.int (nI 0)] mm
              rw [← hZ]
              refine pw_rz (by decide +kernel) (Or.inl rfl) ?_
              refine ⟨?_, rfl⟩
              unfold pw_may pw_inp
              simp [h5, h19, h27, h39, h55, h68]
              try rfl
            · refine pw_blk (pc' := 73) [.iload 4] (by decide +kernel) ?_
              show pw_V x m_X8_maySit 2 Z 73 [(4, .int (nI 0)), (3, .int (nI 0)), (0, .ref 26), (1, .int (nI i)), (2, .int (nI s))] [.int (nI 0)] mm
              refine pw_iz_ne (tgt := 116) (off := 43) (by omega) (by decide +kernel) (by decide) (fun h => by omega) (fun _ => ?_)
              refine pw_blk (pc' := 82) [.aload 0, .iload 1, .aload 0, .aload 0, .iload 2, .iconst 1] (by decide +kernel) ?_
              show pw_V x m_X8_maySit 2 Z 82 [(4, .int (nI 0)), (3, .int (nI 0)), (0, .ref 26), (1, .int (nI i)), (2, .int (nI s))] [.int (nI 1), .int (nI s), .ref 26, .ref 26, .int (nI i), .ref 26] mm
              refine pw_cV (vs := [.int (nI s), .int (nI 1)]) (rest := [.ref 26, .int (nI i), .ref 26]) k_X8_beside (cL_mbes1 mm hl hok s (by omega)) l_8_222 rfl rfl rfl rfl (by omega) (Nat.le_of_ble_eq_true rfl) (by decide +kernel) ?_
              rintro _ m1 ⟨rfl, e1⟩
              rw [e1]
              clear e1 m1
              show pw_V x m_X8_maySit 2 Z 85 [(4, .int (nI 0)), (3, .int (nI 0)), (0, .ref 26), (1, .int (nI i)), (2, .int (nI s))] [.int (nI (pw_bh (pw_n A) s)), .ref 26, .int (nI i), .ref 26] mm
              refine pw_cV (vs := [.int (nI (pw_bh (pw_n A) s))]) (rest := [.int (nI i), .ref 26]) k_X8_sitterBy (cL_msby mm hl hok gx hg hgb (pw_bh (pw_n A) s) (by have z1 := pw_bh_lt hs; have z2 := pw_ah_lt hs; omega)) l_8_228 rfl rfl rfl rfl (by omega) (Nat.le_of_ble_eq_true rfl) (by decide +kernel) ?_
              rintro _ m1 ⟨rfl, e1⟩
              rw [e1]
              clear e1 m1
              show pw_V x m_X8_maySit 2 Z 88 [(4, .int (nI 0)), (3, .int (nI 0)), (0, .ref 26), (1, .int (nI i)), (2, .int (nI s))] [.int (pw_o (pw_sby gx (pw_k A) (pw_bh (pw_n A) s))), .int (nI i), .ref 26] mm
              refine pw_cV (vs := [.int (nI i), .int (pw_o (pw_sby gx (pw_k A) (pw_bh (pw_n A) s)))]) (rest := []) k_X8_areEnemies (cL_mare mm hl hok i (pw_sby gx (pw_k A) (pw_bh (pw_n A) s)) (by omega) (fun c hc => pw_sby_6 bk hc)) l_8_225 rfl rfl rfl rfl (by omega) (Nat.le_of_ble_eq_true rfl) (by decide +kernel) ?_
              rintro _ m1 ⟨rfl, e1⟩
              rw [e1]
              clear e1 m1
              show pw_V x m_X8_maySit 2 Z 91 [(4, .int (nI 0)), (3, .int (nI 0)), (0, .ref 26), (1, .int (nI i)), (2, .int (nI s))] [.int (pw_b (pw_en A i (pw_sby gx (pw_k A) (pw_bh (pw_n A) s))))] mm
              refine pw_ib_ne (tgt := 116) (off := 25) (by decide +kernel) (by decide) (fun h91 => ?_) (fun h91 => ?_)
              · refine pw_blk (pc' := 117) [.iconst 0] (by decide +kernel) ?_
                show pw_V x m_X8_maySit 2 Z 117 [(4, .int (nI 0)), (3, .int (nI 0)), (0, .ref 26), (1, .int (nI i)), (2, .int (nI s))] [.int (nI 0)] mm
                rw [← hZ]
                refine pw_rz (by decide +kernel) (Or.inl rfl) ?_
                refine ⟨?_, rfl⟩
                unfold pw_may pw_inp
                simp [h5, h19, h27, h39, h55, h68, h91]
                try rfl
              · refine pw_blk (pc' := 100) [.aload 0, .iload 1, .aload 0, .aload 0, .iload 2, .iconst (-1)] (by decide +kernel) ?_
                show pw_V x m_X8_maySit 2 Z 100 [(4, .int (nI 0)), (3, .int (nI 0)), (0, .ref 26), (1, .int (nI i)), (2, .int (nI s))] [.int (-1), .int (nI s), .ref 26, .ref 26, .int (nI i), .ref 26] mm
                refine pw_cV (vs := [.int (nI s), .int (-1)]) (rest := [.ref 26, .int (nI i), .ref 26]) k_X8_beside (cL_mbesm mm hl hok s (by omega)) l_8_222 rfl rfl rfl rfl (by omega) (Nat.le_of_ble_eq_true rfl) (by decide +kernel) ?_
                rintro _ m1 ⟨rfl, e1⟩
                rw [e1]
                clear e1 m1
                show pw_V x m_X8_maySit 2 Z 103 [(4, .int (nI 0)), (3, .int (nI 0)), (0, .ref 26), (1, .int (nI i)), (2, .int (nI s))] [.int (nI (pw_ah (pw_n A) s)), .ref 26, .int (nI i), .ref 26] mm
                refine pw_cV (vs := [.int (nI (pw_ah (pw_n A) s))]) (rest := [.int (nI i), .ref 26]) k_X8_sitterBy (cL_msby mm hl hok gx hg hgb (pw_ah (pw_n A) s) (by have z1 := pw_bh_lt hs; have z2 := pw_ah_lt hs; omega)) l_8_228 rfl rfl rfl rfl (by omega) (Nat.le_of_ble_eq_true rfl) (by decide +kernel) ?_
                rintro _ m1 ⟨rfl, e1⟩
                rw [e1]
                clear e1 m1
                show pw_V x m_X8_maySit 2 Z 106 [(4, .int (nI 0)), (3, .int (nI 0)), (0, .ref 26), (1, .int (nI i)), (2, .int (nI s))] [.int (pw_o (pw_sby gx (pw_k A) (pw_ah (pw_n A) s))), .int (nI i), .ref 26] mm
                refine pw_cV (vs := [.int (nI i), .int (pw_o (pw_sby gx (pw_k A) (pw_ah (pw_n A) s)))]) (rest := []) k_X8_areEnemies (cL_mare mm hl hok i (pw_sby gx (pw_k A) (pw_ah (pw_n A) s)) (by omega) (fun c hc => pw_sby_6 bk hc)) l_8_225 rfl rfl rfl rfl (by omega) (Nat.le_of_ble_eq_true rfl) (by decide +kernel) ?_
                rintro _ m1 ⟨rfl, e1⟩
                rw [e1]
                clear e1 m1
                show pw_V x m_X8_maySit 2 Z 109 [(4, .int (nI 0)), (3, .int (nI 0)), (0, .ref 26), (1, .int (nI i)), (2, .int (nI s))] [.int (pw_b (pw_en A i (pw_sby gx (pw_k A) (pw_ah (pw_n A) s))))] mm
                refine pw_ib_ne (tgt := 116) (off := 7) (by decide +kernel) (by decide) (fun h109 => ?_) (fun h109 => ?_)
                · refine pw_blk (pc' := 117) [.iconst 0] (by decide +kernel) ?_
                  show pw_V x m_X8_maySit 2 Z 117 [(4, .int (nI 0)), (3, .int (nI 0)), (0, .ref 26), (1, .int (nI i)), (2, .int (nI s))] [.int (nI 0)] mm
                  rw [← hZ]
                  refine pw_rz (by decide +kernel) (Or.inl rfl) ?_
                  refine ⟨?_, rfl⟩
                  unfold pw_may pw_inp
                  simp [h5, h19, h27, h39, h55, h68, h91, h109]
                  try rfl
                · refine pw_blk (pc' := 113) [.iconst 1] (by decide +kernel) ?_
                  show pw_V x m_X8_maySit 2 Z 113 [(4, .int (nI 0)), (3, .int (nI 0)), (0, .ref 26), (1, .int (nI i)), (2, .int (nI s))] [.int (nI 1)] mm
                  refine pw_goto (tgt := 117) (off := 4) (by decide +kernel) (by decide) ?_
                  rw [← hZ]
                  refine pw_rz (by decide +kernel) (Or.inr rfl) ?_
                  refine ⟨?_, rfl⟩
                  unfold pw_may pw_inp
                  simp [h5, h19, h27, h39, h55, h68, h91, h109]
                  try rfl
          · show pw_V x m_X8_maySit 2 Z 55 [(4, .int (nI 0)), (3, .int (nI 0)), (0, .ref 26), (1, .int (nI i)), (2, .int (nI s))] [.int (-1), .int (nI s55)] mm
            have b55 := pw_sby_6 bk h55
            refine pw_ic_ne (tgt := 116) (off := 61) (by decide +kernel) (by decide) (fun _ => ?_) (fun h => absurd h (pw_n1 (by first | omega | exact pw_g_lt)))
            refine pw_blk (pc' := 117) [.iconst 0] (by decide +kernel) ?_
            show pw_V x m_X8_maySit 2 Z 117 [(4, .int (nI 0)), (3, .int (nI 0)), (0, .ref 26), (1, .int (nI i)), (2, .int (nI s))] [.int (nI 0)] mm
            rw [← hZ]
            refine pw_rz (by decide +kernel) (Or.inl rfl) ?_
            refine ⟨?_, rfl⟩
            unfold pw_may pw_inp
            simp [h5, h19, h27, h39, h55]
            try rfl
        · refine pw_blk (pc' := 43) [.iconst 1] (by decide +kernel) ?_
          show pw_V x m_X8_maySit 2 Z 43 [(3, .int (nI 0)), (0, .ref 26), (1, .int (nI i)), (2, .int (nI s))] [.int (nI 1)] mm
          refine pw_goto (tgt := 47) (off := 4) (by decide +kernel) (by decide) ?_
          refine pw_blk (pc' := 51) [.istore 4, .aload 0, .iload 2] (by decide +kernel) ?_
          show pw_V x m_X8_maySit 2 Z 51 [(4, .int (nI 1)), (3, .int (nI 0)), (0, .ref 26), (1, .int (nI i)), (2, .int (nI s))] [.int (nI s), .ref 26] mm
          refine pw_cV (vs := [.int (nI s)]) (rest := []) k_X8_sitterBy (cL_msby mm hl hok gx hg hgb s (by have z1 := pw_bh_lt hs; have z2 := pw_ah_lt hs; omega)) l_8_228 rfl rfl rfl rfl (by omega) (Nat.le_of_ble_eq_true rfl) (by decide +kernel) ?_
          rintro _ m1 ⟨rfl, e1⟩
          rw [e1]
          clear e1 m1
          show pw_V x m_X8_maySit 2 Z 54 [(4, .int (nI 1)), (3, .int (nI 0)), (0, .ref 26), (1, .int (nI i)), (2, .int (nI s))] [.int (pw_o (pw_sby gx (pw_k A) s))] mm
          refine pw_blk (pc' := 55) [.iconst (-1)] (by decide +kernel) ?_
          show pw_V x m_X8_maySit 2 Z 55 [(4, .int (nI 1)), (3, .int (nI 0)), (0, .ref 26), (1, .int (nI i)), (2, .int (nI s))] [.int (-1), .int (pw_o (pw_sby gx (pw_k A) s))] mm
          rcases h55 : pw_sby gx (pw_k A) s with _ | s55
          · show pw_V x m_X8_maySit 2 Z 55 [(4, .int (nI 1)), (3, .int (nI 0)), (0, .ref 26), (1, .int (nI i)), (2, .int (nI s))] [.int (-1), .int (-1)] mm
            refine pw_ic_ne (tgt := 116) (off := 61) (by decide +kernel) (by decide) (fun h => absurd rfl h) (fun _ => ?_)
            refine pw_blk (pc' := 59) [.iload 3] (by decide +kernel) ?_
            show pw_V x m_X8_maySit 2 Z 59 [(4, .int (nI 1)), (3, .int (nI 0)), (0, .ref 26), (1, .int (nI i)), (2, .int (nI s))] [.int (nI 0)] mm
            refine pw_iz_ne (tgt := 71) (off := 12) (by omega) (by decide +kernel) (by decide) (fun h => by omega) (fun _ => ?_)
            refine pw_blk (pc' := 65) [.aload 0, .iload 1, .iload 2] (by decide +kernel) ?_
            show pw_V x m_X8_maySit 2 Z 65 [(4, .int (nI 1)), (3, .int (nI 0)), (0, .ref 26), (1, .int (nI i)), (2, .int (nI s))] [.int (nI s), .int (nI i), .ref 26] mm
            refine pw_cV (vs := [.int (nI i), .int (nI s)]) (rest := []) k_X8_fits (cL_mfits mm hl hok i s (by omega) (by omega)) l_8_189 rfl rfl rfl rfl (by omega) (Nat.le_of_ble_eq_true rfl) (by decide +kernel) ?_
            rintro _ m1 ⟨rfl, e1⟩
            rw [e1]
            clear e1 m1
            show pw_V x m_X8_maySit 2 Z 68 [(4, .int (nI 1)), (3, .int (nI 0)), (0, .ref 26), (1, .int (nI i)), (2, .int (nI s))] [.int (pw_b (pw_fnow A i s))] mm
            refine pw_ib_eq (tgt := 116) (off := 48) (by decide +kernel) (by decide) (fun h68 => ?_) (fun h68 => ?_)
            · refine pw_blk (pc' := 117) [.iconst 0] (by decide +kernel) ?_
              show pw_V x m_X8_maySit 2 Z 117 [(4, .int (nI 1)), (3, .int (nI 0)), (0, .ref 26), (1, .int (nI i)), (2, .int (nI s))] [.int (nI 0)] mm
              rw [← hZ]
              refine pw_rz (by decide +kernel) (Or.inl rfl) ?_
              refine ⟨?_, rfl⟩
              unfold pw_may pw_inp
              simp [h5, h19, h27, h39, h55, h68]
              try rfl
            · refine pw_blk (pc' := 73) [.iload 4] (by decide +kernel) ?_
              show pw_V x m_X8_maySit 2 Z 73 [(4, .int (nI 1)), (3, .int (nI 0)), (0, .ref 26), (1, .int (nI i)), (2, .int (nI s))] [.int (nI 1)] mm
              refine pw_iz_ne (tgt := 116) (off := 43) (by omega) (by decide +kernel) (by decide) (fun _ => ?_) (fun h => by omega)
              refine pw_blk (pc' := 117) [.iconst 0] (by decide +kernel) ?_
              show pw_V x m_X8_maySit 2 Z 117 [(4, .int (nI 1)), (3, .int (nI 0)), (0, .ref 26), (1, .int (nI i)), (2, .int (nI s))] [.int (nI 0)] mm
              rw [← hZ]
              refine pw_rz (by decide +kernel) (Or.inl rfl) ?_
              refine ⟨?_, rfl⟩
              unfold pw_may pw_inp
              simp [h5, h19, h27, h39, h55, h68]
              try rfl
          · show pw_V x m_X8_maySit 2 Z 55 [(4, .int (nI 1)), (3, .int (nI 0)), (0, .ref 26), (1, .int (nI i)), (2, .int (nI s))] [.int (-1), .int (nI s55)] mm
            have b55 := pw_sby_6 bk h55
            refine pw_ic_ne (tgt := 116) (off := 61) (by decide +kernel) (by decide) (fun _ => ?_) (fun h => absurd h (pw_n1 (by first | omega | exact pw_g_lt)))
            refine pw_blk (pc' := 117) [.iconst 0] (by decide +kernel) ?_
            show pw_V x m_X8_maySit 2 Z 117 [(4, .int (nI 1)), (3, .int (nI 0)), (0, .ref 26), (1, .int (nI i)), (2, .int (nI s))] [.int (nI 0)] mm
            rw [← hZ]
            refine pw_rz (by decide +kernel) (Or.inl rfl) ?_
            refine ⟨?_, rfl⟩
            unfold pw_may pw_inp
            simp [h5, h19, h27, h39, h55]
            try rfl
  · refine pw_blk (pc' := 9) [.iconst 1] (by decide +kernel) ?_
    show pw_V x m_X8_maySit 2 Z 9 [(0, .ref 26), (1, .int (nI i)), (2, .int (nI s))] [.int (nI 1)] mm
    refine pw_goto (tgt := 13) (off := 4) (by decide +kernel) (by decide) ?_
    refine pw_blk (pc' := 16) [.istore 3, .iload 2, .aload 0] (by decide +kernel) ?_
    show pw_V x m_X8_maySit 2 Z 16 [(3, .int (nI 1)), (0, .ref 26), (1, .int (nI i)), (2, .int (nI s))] [.ref 26, .int (nI s)] mm
    refine pw_cV (vs := []) (rest := [.int (nI s)]) k_X8_perilOn (cL_mperil mm hl hok) l_8_192 rfl rfl rfl rfl (by omega) (Nat.le_of_ble_eq_true rfl) (by decide +kernel) ?_
    rintro _ m1 ⟨rfl, e1⟩
    rw [e1]
    clear e1 m1
    show pw_V x m_X8_maySit 2 Z 19 [(3, .int (nI 1)), (0, .ref 26), (1, .int (nI i)), (2, .int (nI s))] [.int (pw_o (pw_pon A)), .int (nI s)] mm
    refine pw_no_ne (tgt := 46) (off := 27) (by decide +kernel) (by decide) (by first | omega | exact pw_g_lt) (fun a ha => Nat.lt_trans (pw_mpon hok ha) (by omega)) (fun h19 => ?_) (fun h19 => ?_)
    · refine pw_blk (pc' := 51) [.iconst 0, .istore 4, .aload 0, .iload 2] (by decide +kernel) ?_
      show pw_V x m_X8_maySit 2 Z 51 [(4, .int (nI 0)), (3, .int (nI 1)), (0, .ref 26), (1, .int (nI i)), (2, .int (nI s))] [.int (nI s), .ref 26] mm
      refine pw_cV (vs := [.int (nI s)]) (rest := []) k_X8_sitterBy (cL_msby mm hl hok gx hg hgb s (by have z1 := pw_bh_lt hs; have z2 := pw_ah_lt hs; omega)) l_8_228 rfl rfl rfl rfl (by omega) (Nat.le_of_ble_eq_true rfl) (by decide +kernel) ?_
      rintro _ m1 ⟨rfl, e1⟩
      rw [e1]
      clear e1 m1
      show pw_V x m_X8_maySit 2 Z 54 [(4, .int (nI 0)), (3, .int (nI 1)), (0, .ref 26), (1, .int (nI i)), (2, .int (nI s))] [.int (pw_o (pw_sby gx (pw_k A) s))] mm
      refine pw_blk (pc' := 55) [.iconst (-1)] (by decide +kernel) ?_
      show pw_V x m_X8_maySit 2 Z 55 [(4, .int (nI 0)), (3, .int (nI 1)), (0, .ref 26), (1, .int (nI i)), (2, .int (nI s))] [.int (-1), .int (pw_o (pw_sby gx (pw_k A) s))] mm
      rcases h55 : pw_sby gx (pw_k A) s with _ | s55
      · show pw_V x m_X8_maySit 2 Z 55 [(4, .int (nI 0)), (3, .int (nI 1)), (0, .ref 26), (1, .int (nI i)), (2, .int (nI s))] [.int (-1), .int (-1)] mm
        refine pw_ic_ne (tgt := 116) (off := 61) (by decide +kernel) (by decide) (fun h => absurd rfl h) (fun _ => ?_)
        refine pw_blk (pc' := 59) [.iload 3] (by decide +kernel) ?_
        show pw_V x m_X8_maySit 2 Z 59 [(4, .int (nI 0)), (3, .int (nI 1)), (0, .ref 26), (1, .int (nI i)), (2, .int (nI s))] [.int (nI 1)] mm
        refine pw_iz_ne (tgt := 71) (off := 12) (by omega) (by decide +kernel) (by decide) (fun _ => ?_) (fun h => by omega)
        refine pw_blk (pc' := 73) [.iload 4] (by decide +kernel) ?_
        show pw_V x m_X8_maySit 2 Z 73 [(4, .int (nI 0)), (3, .int (nI 1)), (0, .ref 26), (1, .int (nI i)), (2, .int (nI s))] [.int (nI 0)] mm
        refine pw_iz_ne (tgt := 116) (off := 43) (by omega) (by decide +kernel) (by decide) (fun h => by omega) (fun _ => ?_)
        refine pw_blk (pc' := 82) [.aload 0, .iload 1, .aload 0, .aload 0, .iload 2, .iconst 1] (by decide +kernel) ?_
        show pw_V x m_X8_maySit 2 Z 82 [(4, .int (nI 0)), (3, .int (nI 1)), (0, .ref 26), (1, .int (nI i)), (2, .int (nI s))] [.int (nI 1), .int (nI s), .ref 26, .ref 26, .int (nI i), .ref 26] mm
        refine pw_cV (vs := [.int (nI s), .int (nI 1)]) (rest := [.ref 26, .int (nI i), .ref 26]) k_X8_beside (cL_mbes1 mm hl hok s (by omega)) l_8_222 rfl rfl rfl rfl (by omega) (Nat.le_of_ble_eq_true rfl) (by decide +kernel) ?_
        rintro _ m1 ⟨rfl, e1⟩
        rw [e1]
        clear e1 m1
        show pw_V x m_X8_maySit 2 Z 85 [(4, .int (nI 0)), (3, .int (nI 1)), (0, .ref 26), (1, .int (nI i)), (2, .int (nI s))] [.int (nI (pw_bh (pw_n A) s)), .ref 26, .int (nI i), .ref 26] mm
        refine pw_cV (vs := [.int (nI (pw_bh (pw_n A) s))]) (rest := [.int (nI i), .ref 26]) k_X8_sitterBy (cL_msby mm hl hok gx hg hgb (pw_bh (pw_n A) s) (by have z1 := pw_bh_lt hs; have z2 := pw_ah_lt hs; omega)) l_8_228 rfl rfl rfl rfl (by omega) (Nat.le_of_ble_eq_true rfl) (by decide +kernel) ?_
        rintro _ m1 ⟨rfl, e1⟩
        rw [e1]
        clear e1 m1
        show pw_V x m_X8_maySit 2 Z 88 [(4, .int (nI 0)), (3, .int (nI 1)), (0, .ref 26), (1, .int (nI i)), (2, .int (nI s))] [.int (pw_o (pw_sby gx (pw_k A) (pw_bh (pw_n A) s))), .int (nI i), .ref 26] mm
        refine pw_cV (vs := [.int (nI i), .int (pw_o (pw_sby gx (pw_k A) (pw_bh (pw_n A) s)))]) (rest := []) k_X8_areEnemies (cL_mare mm hl hok i (pw_sby gx (pw_k A) (pw_bh (pw_n A) s)) (by omega) (fun c hc => pw_sby_6 bk hc)) l_8_225 rfl rfl rfl rfl (by omega) (Nat.le_of_ble_eq_true rfl) (by decide +kernel) ?_
        rintro _ m1 ⟨rfl, e1⟩
        rw [e1]
        clear e1 m1
        show pw_V x m_X8_maySit 2 Z 91 [(4, .int (nI 0)), (3, .int (nI 1)), (0, .ref 26), (1, .int (nI i)), (2, .int (nI s))] [.int (pw_b (pw_en A i (pw_sby gx (pw_k A) (pw_bh (pw_n A) s))))] mm
        refine pw_ib_ne (tgt := 116) (off := 25) (by decide +kernel) (by decide) (fun h91 => ?_) (fun h91 => ?_)
        · refine pw_blk (pc' := 117) [.iconst 0] (by decide +kernel) ?_
          show pw_V x m_X8_maySit 2 Z 117 [(4, .int (nI 0)), (3, .int (nI 1)), (0, .ref 26), (1, .int (nI i)), (2, .int (nI s))] [.int (nI 0)] mm
          rw [← hZ]
          refine pw_rz (by decide +kernel) (Or.inl rfl) ?_
          refine ⟨?_, rfl⟩
          unfold pw_may pw_inp
          simp [h5, h19, h55, h91]
          try rfl
        · refine pw_blk (pc' := 100) [.aload 0, .iload 1, .aload 0, .aload 0, .iload 2, .iconst (-1)] (by decide +kernel) ?_
          show pw_V x m_X8_maySit 2 Z 100 [(4, .int (nI 0)), (3, .int (nI 1)), (0, .ref 26), (1, .int (nI i)), (2, .int (nI s))] [.int (-1), .int (nI s), .ref 26, .ref 26, .int (nI i), .ref 26] mm
          refine pw_cV (vs := [.int (nI s), .int (-1)]) (rest := [.ref 26, .int (nI i), .ref 26]) k_X8_beside (cL_mbesm mm hl hok s (by omega)) l_8_222 rfl rfl rfl rfl (by omega) (Nat.le_of_ble_eq_true rfl) (by decide +kernel) ?_
          rintro _ m1 ⟨rfl, e1⟩
          rw [e1]
          clear e1 m1
          show pw_V x m_X8_maySit 2 Z 103 [(4, .int (nI 0)), (3, .int (nI 1)), (0, .ref 26), (1, .int (nI i)), (2, .int (nI s))] [.int (nI (pw_ah (pw_n A) s)), .ref 26, .int (nI i), .ref 26] mm
          refine pw_cV (vs := [.int (nI (pw_ah (pw_n A) s))]) (rest := [.int (nI i), .ref 26]) k_X8_sitterBy (cL_msby mm hl hok gx hg hgb (pw_ah (pw_n A) s) (by have z1 := pw_bh_lt hs; have z2 := pw_ah_lt hs; omega)) l_8_228 rfl rfl rfl rfl (by omega) (Nat.le_of_ble_eq_true rfl) (by decide +kernel) ?_
          rintro _ m1 ⟨rfl, e1⟩
          rw [e1]
          clear e1 m1
          show pw_V x m_X8_maySit 2 Z 106 [(4, .int (nI 0)), (3, .int (nI 1)), (0, .ref 26), (1, .int (nI i)), (2, .int (nI s))] [.int (pw_o (pw_sby gx (pw_k A) (pw_ah (pw_n A) s))), .int (nI i), .ref 26] mm
          refine pw_cV (vs := [.int (nI i), .int (pw_o (pw_sby gx (pw_k A) (pw_ah (pw_n A) s)))]) (rest := []) k_X8_areEnemies (cL_mare mm hl hok i (pw_sby gx (pw_k A) (pw_ah (pw_n A) s)) (by omega) (fun c hc => pw_sby_6 bk hc)) l_8_225 rfl rfl rfl rfl (by omega) (Nat.le_of_ble_eq_true rfl) (by decide +kernel) ?_
          rintro _ m1 ⟨rfl, e1⟩
          rw [e1]
          clear e1 m1
          show pw_V x m_X8_maySit 2 Z 109 [(4, .int (nI 0)), (3, .int (nI 1)), (0, .ref 26), (1, .int (nI i)), (2, .int (nI s))] [.int (pw_b (pw_en A i (pw_sby gx (pw_k A) (pw_ah (pw_n A) s))))] mm
          refine pw_ib_ne (tgt := 116) (off := 7) (by decide +kernel) (by decide) (fun h109 => ?_) (fun h109 => ?_)
          · refine pw_blk (pc' := 117) [.iconst 0] (by decide +kernel) ?_
            show pw_V x m_X8_maySit 2 Z 117 [(4, .int (nI 0)), (3, .int (nI 1)), (0, .ref 26), (1, .int (nI i)), (2, .int (nI s))] [.int (nI 0)] mm
            rw [← hZ]
            refine pw_rz (by decide +kernel) (Or.inl rfl) ?_
            refine ⟨?_, rfl⟩
            unfold pw_may pw_inp
            simp [h5, h19, h55, h91, h109]
            try rfl
          · refine pw_blk (pc' := 113) [.iconst 1] (by decide +kernel) ?_
            show pw_V x m_X8_maySit 2 Z 113 [(4, .int (nI 0)), (3, .int (nI 1)), (0, .ref 26), (1, .int (nI i)), (2, .int (nI s))] [.int (nI 1)] mm
            refine pw_goto (tgt := 117) (off := 4) (by decide +kernel) (by decide) ?_
            rw [← hZ]
            refine pw_rz (by decide +kernel) (Or.inr rfl) ?_
            refine ⟨?_, rfl⟩
            unfold pw_may pw_inp
            simp [h5, h19, h55, h91, h109]
            try rfl
      · show pw_V x m_X8_maySit 2 Z 55 [(4, .int (nI 0)), (3, .int (nI 1)), (0, .ref 26), (1, .int (nI i)), (2, .int (nI s))] [.int (-1), .int (nI s55)] mm
        have b55 := pw_sby_6 bk h55
        refine pw_ic_ne (tgt := 116) (off := 61) (by decide +kernel) (by decide) (fun _ => ?_) (fun h => absurd h (pw_n1 (by first | omega | exact pw_g_lt)))
        refine pw_blk (pc' := 117) [.iconst 0] (by decide +kernel) ?_
        show pw_V x m_X8_maySit 2 Z 117 [(4, .int (nI 0)), (3, .int (nI 1)), (0, .ref 26), (1, .int (nI i)), (2, .int (nI s))] [.int (nI 0)] mm
        rw [← hZ]
        refine pw_rz (by decide +kernel) (Or.inl rfl) ?_
        refine ⟨?_, rfl⟩
        unfold pw_may pw_inp
        simp [h5, h19, h55]
        try rfl
    · refine pw_blk (pc' := 27) [.iload 1, .aload 0, .getfield 807] (by decide +kernel) ?_
      show pw_V x m_X8_maySit 2 Z 27 [(3, .int (nI 1)), (0, .ref 26), (1, .int (nI i)), (2, .int (nI s))] [.int (mm 26 7), .int (nI i)] mm
      rw [show mm 26 7 = pw_o (pw_mt A) from mv_mt (B := pw_up mm 26 33 (-1)) hl hok]
      refine pw_no_eq (tgt := 46) (off := 19) (by decide +kernel) (by decide) (by first | omega | exact pw_g_lt) (fun a ha => Nat.lt_trans (pw_b410 hok ha) (by omega)) (fun h27 => ?_) (fun h27 => ?_)
      · refine pw_blk (pc' := 51) [.iconst 0, .istore 4, .aload 0, .iload 2] (by decide +kernel) ?_
        show pw_V x m_X8_maySit 2 Z 51 [(4, .int (nI 0)), (3, .int (nI 1)), (0, .ref 26), (1, .int (nI i)), (2, .int (nI s))] [.int (nI s), .ref 26] mm
        refine pw_cV (vs := [.int (nI s)]) (rest := []) k_X8_sitterBy (cL_msby mm hl hok gx hg hgb s (by have z1 := pw_bh_lt hs; have z2 := pw_ah_lt hs; omega)) l_8_228 rfl rfl rfl rfl (by omega) (Nat.le_of_ble_eq_true rfl) (by decide +kernel) ?_
        rintro _ m1 ⟨rfl, e1⟩
        rw [e1]
        clear e1 m1
        show pw_V x m_X8_maySit 2 Z 54 [(4, .int (nI 0)), (3, .int (nI 1)), (0, .ref 26), (1, .int (nI i)), (2, .int (nI s))] [.int (pw_o (pw_sby gx (pw_k A) s))] mm
        refine pw_blk (pc' := 55) [.iconst (-1)] (by decide +kernel) ?_
        show pw_V x m_X8_maySit 2 Z 55 [(4, .int (nI 0)), (3, .int (nI 1)), (0, .ref 26), (1, .int (nI i)), (2, .int (nI s))] [.int (-1), .int (pw_o (pw_sby gx (pw_k A) s))] mm
        rcases h55 : pw_sby gx (pw_k A) s with _ | s55
        · show pw_V x m_X8_maySit 2 Z 55 [(4, .int (nI 0)), (3, .int (nI 1)), (0, .ref 26), (1, .int (nI i)), (2, .int (nI s))] [.int (-1), .int (-1)] mm
          refine pw_ic_ne (tgt := 116) (off := 61) (by decide +kernel) (by decide) (fun h => absurd rfl h) (fun _ => ?_)
          refine pw_blk (pc' := 59) [.iload 3] (by decide +kernel) ?_
          show pw_V x m_X8_maySit 2 Z 59 [(4, .int (nI 0)), (3, .int (nI 1)), (0, .ref 26), (1, .int (nI i)), (2, .int (nI s))] [.int (nI 1)] mm
          refine pw_iz_ne (tgt := 71) (off := 12) (by omega) (by decide +kernel) (by decide) (fun _ => ?_) (fun h => by omega)
          refine pw_blk (pc' := 73) [.iload 4] (by decide +kernel) ?_
          show pw_V x m_X8_maySit 2 Z 73 [(4, .int (nI 0)), (3, .int (nI 1)), (0, .ref 26), (1, .int (nI i)), (2, .int (nI s))] [.int (nI 0)] mm
          refine pw_iz_ne (tgt := 116) (off := 43) (by omega) (by decide +kernel) (by decide) (fun h => by omega) (fun _ => ?_)
          refine pw_blk (pc' := 82) [.aload 0, .iload 1, .aload 0, .aload 0, .iload 2, .iconst 1] (by decide +kernel) ?_
          show pw_V x m_X8_maySit 2 Z 82 [(4, .int (nI 0)), (3, .int (nI 1)), (0, .ref 26), (1, .int (nI i)), (2, .int (nI s))] [.int (nI 1), .int (nI s), .ref 26, .ref 26, .int (nI i), .ref 26] mm
          refine pw_cV (vs := [.int (nI s), .int (nI 1)]) (rest := [.ref 26, .int (nI i), .ref 26]) k_X8_beside (cL_mbes1 mm hl hok s (by omega)) l_8_222 rfl rfl rfl rfl (by omega) (Nat.le_of_ble_eq_true rfl) (by decide +kernel) ?_
          rintro _ m1 ⟨rfl, e1⟩
          rw [e1]
          clear e1 m1
          show pw_V x m_X8_maySit 2 Z 85 [(4, .int (nI 0)), (3, .int (nI 1)), (0, .ref 26), (1, .int (nI i)), (2, .int (nI s))] [.int (nI (pw_bh (pw_n A) s)), .ref 26, .int (nI i), .ref 26] mm
          refine pw_cV (vs := [.int (nI (pw_bh (pw_n A) s))]) (rest := [.int (nI i), .ref 26]) k_X8_sitterBy (cL_msby mm hl hok gx hg hgb (pw_bh (pw_n A) s) (by have z1 := pw_bh_lt hs; have z2 := pw_ah_lt hs; omega)) l_8_228 rfl rfl rfl rfl (by omega) (Nat.le_of_ble_eq_true rfl) (by decide +kernel) ?_
          rintro _ m1 ⟨rfl, e1⟩
          rw [e1]
          clear e1 m1
          show pw_V x m_X8_maySit 2 Z 88 [(4, .int (nI 0)), (3, .int (nI 1)), (0, .ref 26), (1, .int (nI i)), (2, .int (nI s))] [.int (pw_o (pw_sby gx (pw_k A) (pw_bh (pw_n A) s))), .int (nI i), .ref 26] mm
          refine pw_cV (vs := [.int (nI i), .int (pw_o (pw_sby gx (pw_k A) (pw_bh (pw_n A) s)))]) (rest := []) k_X8_areEnemies (cL_mare mm hl hok i (pw_sby gx (pw_k A) (pw_bh (pw_n A) s)) (by omega) (fun c hc => pw_sby_6 bk hc)) l_8_225 rfl rfl rfl rfl (by omega) (Nat.le_of_ble_eq_true rfl) (by decide +kernel) ?_
          rintro _ m1 ⟨rfl, e1⟩
          rw [e1]
          clear e1 m1
          show pw_V x m_X8_maySit 2 Z 91 [(4, .int (nI 0)), (3, .int (nI 1)), (0, .ref 26), (1, .int (nI i)), (2, .int (nI s))] [.int (pw_b (pw_en A i (pw_sby gx (pw_k A) (pw_bh (pw_n A) s))))] mm
          refine pw_ib_ne (tgt := 116) (off := 25) (by decide +kernel) (by decide) (fun h91 => ?_) (fun h91 => ?_)
          · refine pw_blk (pc' := 117) [.iconst 0] (by decide +kernel) ?_
            show pw_V x m_X8_maySit 2 Z 117 [(4, .int (nI 0)), (3, .int (nI 1)), (0, .ref 26), (1, .int (nI i)), (2, .int (nI s))] [.int (nI 0)] mm
            rw [← hZ]
            refine pw_rz (by decide +kernel) (Or.inl rfl) ?_
            refine ⟨?_, rfl⟩
            unfold pw_may pw_inp
            simp [h5, h19, h27, h55, h91]
            try rfl
          · refine pw_blk (pc' := 100) [.aload 0, .iload 1, .aload 0, .aload 0, .iload 2, .iconst (-1)] (by decide +kernel) ?_
            show pw_V x m_X8_maySit 2 Z 100 [(4, .int (nI 0)), (3, .int (nI 1)), (0, .ref 26), (1, .int (nI i)), (2, .int (nI s))] [.int (-1), .int (nI s), .ref 26, .ref 26, .int (nI i), .ref 26] mm
            refine pw_cV (vs := [.int (nI s), .int (-1)]) (rest := [.ref 26, .int (nI i), .ref 26]) k_X8_beside (cL_mbesm mm hl hok s (by omega)) l_8_222 rfl rfl rfl rfl (by omega) (Nat.le_of_ble_eq_true rfl) (by decide +kernel) ?_
            rintro _ m1 ⟨rfl, e1⟩
            rw [e1]
            clear e1 m1
            show pw_V x m_X8_maySit 2 Z 103 [(4, .int (nI 0)), (3, .int (nI 1)), (0, .ref 26), (1, .int (nI i)), (2, .int (nI s))] [.int (nI (pw_ah (pw_n A) s)), .ref 26, .int (nI i), .ref 26] mm
            refine pw_cV (vs := [.int (nI (pw_ah (pw_n A) s))]) (rest := [.int (nI i), .ref 26]) k_X8_sitterBy (cL_msby mm hl hok gx hg hgb (pw_ah (pw_n A) s) (by have z1 := pw_bh_lt hs; have z2 := pw_ah_lt hs; omega)) l_8_228 rfl rfl rfl rfl (by omega) (Nat.le_of_ble_eq_true rfl) (by decide +kernel) ?_
            rintro _ m1 ⟨rfl, e1⟩
            rw [e1]
            clear e1 m1
            show pw_V x m_X8_maySit 2 Z 106 [(4, .int (nI 0)), (3, .int (nI 1)), (0, .ref 26), (1, .int (nI i)), (2, .int (nI s))] [.int (pw_o (pw_sby gx (pw_k A) (pw_ah (pw_n A) s))), .int (nI i), .ref 26] mm
            refine pw_cV (vs := [.int (nI i), .int (pw_o (pw_sby gx (pw_k A) (pw_ah (pw_n A) s)))]) (rest := []) k_X8_areEnemies (cL_mare mm hl hok i (pw_sby gx (pw_k A) (pw_ah (pw_n A) s)) (by omega) (fun c hc => pw_sby_6 bk hc)) l_8_225 rfl rfl rfl rfl (by omega) (Nat.le_of_ble_eq_true rfl) (by decide +kernel) ?_
            rintro _ m1 ⟨rfl, e1⟩
            rw [e1]
            clear e1 m1
            show pw_V x m_X8_maySit 2 Z 109 [(4, .int (nI 0)), (3, .int (nI 1)), (0, .ref 26), (1, .int (nI i)), (2, .int (nI s))] [.int (pw_b (pw_en A i (pw_sby gx (pw_k A) (pw_ah (pw_n A) s))))] mm
            refine pw_ib_ne (tgt := 116) (off := 7) (by decide +kernel) (by decide) (fun h109 => ?_) (fun h109 => ?_)
            · refine pw_blk (pc' := 117) [.iconst 0] (by decide +kernel) ?_
              show pw_V x m_X8_maySit 2 Z 117 [(4, .int (nI 0)), (3, .int (nI 1)), (0, .ref 26), (1, .int (nI i)), (2, .int (nI s))] [.int (nI 0)] mm
              rw [← hZ]
              refine pw_rz (by decide +kernel) (Or.inl rfl) ?_
              refine ⟨?_, rfl⟩
              unfold pw_may pw_inp
              simp [h5, h19, h27, h55, h91, h109]
              try rfl
            · refine pw_blk (pc' := 113) [.iconst 1] (by decide +kernel) ?_
              show pw_V x m_X8_maySit 2 Z 113 [(4, .int (nI 0)), (3, .int (nI 1)), (0, .ref 26), (1, .int (nI i)), (2, .int (nI s))] [.int (nI 1)] mm
              refine pw_goto (tgt := 117) (off := 4) (by decide +kernel) (by decide) ?_
              rw [← hZ]
              refine pw_rz (by decide +kernel) (Or.inr rfl) ?_
              refine ⟨?_, rfl⟩
              unfold pw_may pw_inp
              simp [h5, h19, h27, h55, h91, h109]
              try rfl
        · show pw_V x m_X8_maySit 2 Z 55 [(4, .int (nI 0)), (3, .int (nI 1)), (0, .ref 26), (1, .int (nI i)), (2, .int (nI s))] [.int (-1), .int (nI s55)] mm
          have b55 := pw_sby_6 bk h55
          refine pw_ic_ne (tgt := 116) (off := 61) (by decide +kernel) (by decide) (fun _ => ?_) (fun h => absurd h (pw_n1 (by first | omega | exact pw_g_lt)))
          refine pw_blk (pc' := 117) [.iconst 0] (by decide +kernel) ?_
          show pw_V x m_X8_maySit 2 Z 117 [(4, .int (nI 0)), (3, .int (nI 1)), (0, .ref 26), (1, .int (nI i)), (2, .int (nI s))] [.int (nI 0)] mm
          rw [← hZ]
          refine pw_rz (by decide +kernel) (Or.inl rfl) ?_
          refine ⟨?_, rfl⟩
          unfold pw_may pw_inp
          simp [h5, h19, h27, h55]
          try rfl
      · refine pw_blk (pc' := 39) [.aload 0, .getfield 803, .iconst 3, .iload 1, .imul, .iaload, .iconst 1] (by decide +kernel) ?_
        refine ⟨(3 * i), (show (nI 3) * (nI i) = nI (3 * i) from by rw [show (nI 3) * (nI i) = nI (3 * i) from pk_mul _ _]), by first | omega | exact pw_g_lt, ?_⟩
        show pw_V x m_X8_maySit 2 Z 39 [(3, .int (nI 1)), (0, .ref 26), (1, .int (nI i)), (2, .int (nI s))] [.int (nI 1), .int (mm 28 (3 * i))] mm
        rw [show mm 28 (3 * i) = nI (pw_g A 7 i) from mv_kk (B := pw_up mm 26 33 (-1)) hl hok (i := i) (by omega)]
        refine pw_in_eq (tgt := 46) (off := 7) (by first | omega | exact pw_g_lt) (by first | omega | exact pw_g_lt) (by decide +kernel) (by decide) (fun h39 => ?_) (fun h39 => ?_)
        · refine pw_blk (pc' := 51) [.iconst 0, .istore 4, .aload 0, .iload 2] (by decide +kernel) ?_
          show pw_V x m_X8_maySit 2 Z 51 [(4, .int (nI 0)), (3, .int (nI 1)), (0, .ref 26), (1, .int (nI i)), (2, .int (nI s))] [.int (nI s), .ref 26] mm
          refine pw_cV (vs := [.int (nI s)]) (rest := []) k_X8_sitterBy (cL_msby mm hl hok gx hg hgb s (by have z1 := pw_bh_lt hs; have z2 := pw_ah_lt hs; omega)) l_8_228 rfl rfl rfl rfl (by omega) (Nat.le_of_ble_eq_true rfl) (by decide +kernel) ?_
          rintro _ m1 ⟨rfl, e1⟩
          rw [e1]
          clear e1 m1
          show pw_V x m_X8_maySit 2 Z 54 [(4, .int (nI 0)), (3, .int (nI 1)), (0, .ref 26), (1, .int (nI i)), (2, .int (nI s))] [.int (pw_o (pw_sby gx (pw_k A) s))] mm
          refine pw_blk (pc' := 55) [.iconst (-1)] (by decide +kernel) ?_
          show pw_V x m_X8_maySit 2 Z 55 [(4, .int (nI 0)), (3, .int (nI 1)), (0, .ref 26), (1, .int (nI i)), (2, .int (nI s))] [.int (-1), .int (pw_o (pw_sby gx (pw_k A) s))] mm
          rcases h55 : pw_sby gx (pw_k A) s with _ | s55
          · show pw_V x m_X8_maySit 2 Z 55 [(4, .int (nI 0)), (3, .int (nI 1)), (0, .ref 26), (1, .int (nI i)), (2, .int (nI s))] [.int (-1), .int (-1)] mm
            refine pw_ic_ne (tgt := 116) (off := 61) (by decide +kernel) (by decide) (fun h => absurd rfl h) (fun _ => ?_)
            refine pw_blk (pc' := 59) [.iload 3] (by decide +kernel) ?_
            show pw_V x m_X8_maySit 2 Z 59 [(4, .int (nI 0)), (3, .int (nI 1)), (0, .ref 26), (1, .int (nI i)), (2, .int (nI s))] [.int (nI 1)] mm
            refine pw_iz_ne (tgt := 71) (off := 12) (by omega) (by decide +kernel) (by decide) (fun _ => ?_) (fun h => by omega)
            refine pw_blk (pc' := 73) [.iload 4] (by decide +kernel) ?_
            show pw_V x m_X8_maySit 2 Z 73 [(4, .int (nI 0)), (3, .int (nI 1)), (0, .ref 26), (1, .int (nI i)), (2, .int (nI s))] [.int (nI 0)] mm
            refine pw_iz_ne (tgt := 116) (off := 43) (by omega) (by decide +kernel) (by decide) (fun h => by omega) (fun _ => ?_)
            refine pw_blk (pc' := 82) [.aload 0, .iload 1, .aload 0, .aload 0, .iload 2, .iconst 1] (by decide +kernel) ?_
            show pw_V x m_X8_maySit 2 Z 82 [(4, .int (nI 0)), (3, .int (nI 1)), (0, .ref 26), (1, .int (nI i)), (2, .int (nI s))] [.int (nI 1), .int (nI s), .ref 26, .ref 26, .int (nI i), .ref 26] mm
            refine pw_cV (vs := [.int (nI s), .int (nI 1)]) (rest := [.ref 26, .int (nI i), .ref 26]) k_X8_beside (cL_mbes1 mm hl hok s (by omega)) l_8_222 rfl rfl rfl rfl (by omega) (Nat.le_of_ble_eq_true rfl) (by decide +kernel) ?_
            rintro _ m1 ⟨rfl, e1⟩
            rw [e1]
            clear e1 m1
            show pw_V x m_X8_maySit 2 Z 85 [(4, .int (nI 0)), (3, .int (nI 1)), (0, .ref 26), (1, .int (nI i)), (2, .int (nI s))] [.int (nI (pw_bh (pw_n A) s)), .ref 26, .int (nI i), .ref 26] mm
            refine pw_cV (vs := [.int (nI (pw_bh (pw_n A) s))]) (rest := [.int (nI i), .ref 26]) k_X8_sitterBy (cL_msby mm hl hok gx hg hgb (pw_bh (pw_n A) s) (by have z1 := pw_bh_lt hs; have z2 := pw_ah_lt hs; omega)) l_8_228 rfl rfl rfl rfl (by omega) (Nat.le_of_ble_eq_true rfl) (by decide +kernel) ?_
            rintro _ m1 ⟨rfl, e1⟩
            rw [e1]
            clear e1 m1
            show pw_V x m_X8_maySit 2 Z 88 [(4, .int (nI 0)), (3, .int (nI 1)), (0, .ref 26), (1, .int (nI i)), (2, .int (nI s))] [.int (pw_o (pw_sby gx (pw_k A) (pw_bh (pw_n A) s))), .int (nI i), .ref 26] mm
            refine pw_cV (vs := [.int (nI i), .int (pw_o (pw_sby gx (pw_k A) (pw_bh (pw_n A) s)))]) (rest := []) k_X8_areEnemies (cL_mare mm hl hok i (pw_sby gx (pw_k A) (pw_bh (pw_n A) s)) (by omega) (fun c hc => pw_sby_6 bk hc)) l_8_225 rfl rfl rfl rfl (by omega) (Nat.le_of_ble_eq_true rfl) (by decide +kernel) ?_
            rintro _ m1 ⟨rfl, e1⟩
            rw [e1]
            clear e1 m1
            show pw_V x m_X8_maySit 2 Z 91 [(4, .int (nI 0)), (3, .int (nI 1)), (0, .ref 26), (1, .int (nI i)), (2, .int (nI s))] [.int (pw_b (pw_en A i (pw_sby gx (pw_k A) (pw_bh (pw_n A) s))))] mm
            refine pw_ib_ne (tgt := 116) (off := 25) (by decide +kernel) (by decide) (fun h91 => ?_) (fun h91 => ?_)
            · refine pw_blk (pc' := 117) [.iconst 0] (by decide +kernel) ?_
              show pw_V x m_X8_maySit 2 Z 117 [(4, .int (nI 0)), (3, .int (nI 1)), (0, .ref 26), (1, .int (nI i)), (2, .int (nI s))] [.int (nI 0)] mm
              rw [← hZ]
              refine pw_rz (by decide +kernel) (Or.inl rfl) ?_
              refine ⟨?_, rfl⟩
              unfold pw_may pw_inp
              simp [h5, h19, h27, h39, h55, h91]
              try rfl
            · refine pw_blk (pc' := 100) [.aload 0, .iload 1, .aload 0, .aload 0, .iload 2, .iconst (-1)] (by decide +kernel) ?_
              show pw_V x m_X8_maySit 2 Z 100 [(4, .int (nI 0)), (3, .int (nI 1)), (0, .ref 26), (1, .int (nI i)), (2, .int (nI s))] [.int (-1), .int (nI s), .ref 26, .ref 26, .int (nI i), .ref 26] mm
              refine pw_cV (vs := [.int (nI s), .int (-1)]) (rest := [.ref 26, .int (nI i), .ref 26]) k_X8_beside (cL_mbesm mm hl hok s (by omega)) l_8_222 rfl rfl rfl rfl (by omega) (Nat.le_of_ble_eq_true rfl) (by decide +kernel) ?_
              rintro _ m1 ⟨rfl, e1⟩
              rw [e1]
              clear e1 m1
              show pw_V x m_X8_maySit 2 Z 103 [(4, .int (nI 0)), (3, .int (nI 1)), (0, .ref 26), (1, .int (nI i)), (2, .int (nI s))] [.int (nI (pw_ah (pw_n A) s)), .ref 26, .int (nI i), .ref 26] mm
              refine pw_cV (vs := [.int (nI (pw_ah (pw_n A) s))]) (rest := [.int (nI i), .ref 26]) k_X8_sitterBy (cL_msby mm hl hok gx hg hgb (pw_ah (pw_n A) s) (by have z1 := pw_bh_lt hs; have z2 := pw_ah_lt hs; omega)) l_8_228 rfl rfl rfl rfl (by omega) (Nat.le_of_ble_eq_true rfl) (by decide +kernel) ?_
              rintro _ m1 ⟨rfl, e1⟩
              rw [e1]
              clear e1 m1
              show pw_V x m_X8_maySit 2 Z 106 [(4, .int (nI 0)), (3, .int (nI 1)), (0, .ref 26), (1, .int (nI i)), (2, .int (nI s))] [.int (pw_o (pw_sby gx (pw_k A) (pw_ah (pw_n A) s))), .int (nI i), .ref 26] mm
              refine pw_cV (vs := [.int (nI i), .int (pw_o (pw_sby gx (pw_k A) (pw_ah (pw_n A) s)))]) (rest := []) k_X8_areEnemies (cL_mare mm hl hok i (pw_sby gx (pw_k A) (pw_ah (pw_n A) s)) (by omega) (fun c hc => pw_sby_6 bk hc)) l_8_225 rfl rfl rfl rfl (by omega) (Nat.le_of_ble_eq_true rfl) (by decide +kernel) ?_
              rintro _ m1 ⟨rfl, e1⟩
              rw [e1]
              clear e1 m1
              show pw_V x m_X8_maySit 2 Z 109 [(4, .int (nI 0)), (3, .int (nI 1)), (0, .ref 26), (1, .int (nI i)), (2, .int (nI s))] [.int (pw_b (pw_en A i (pw_sby gx (pw_k A) (pw_ah (pw_n A) s))))] mm
              refine pw_ib_ne (tgt := 116) (off := 7) (by decide +kernel) (by decide) (fun h109 => ?_) (fun h109 => ?_)
              · refine pw_blk (pc' := 117) [.iconst 0] (by decide +kernel) ?_
                show pw_V x m_X8_maySit 2 Z 117 [(4, .int (nI 0)), (3, .int (nI 1)), (0, .ref 26), (1, .int (nI i)), (2, .int (nI s))] [.int (nI 0)] mm
                rw [← hZ]
                refine pw_rz (by decide +kernel) (Or.inl rfl) ?_
                refine ⟨?_, rfl⟩
                unfold pw_may pw_inp
                simp [h5, h19, h27, h39, h55, h91, h109]
                try rfl
              · refine pw_blk (pc' := 113) [.iconst 1] (by decide +kernel) ?_
                show pw_V x m_X8_maySit 2 Z 113 [(4, .int (nI 0)), (3, .int (nI 1)), (0, .ref 26), (1, .int (nI i)), (2, .int (nI s))] [.int (nI 1)] mm
                refine pw_goto (tgt := 117) (off := 4) (by decide +kernel) (by decide) ?_
                rw [← hZ]
                refine pw_rz (by decide +kernel) (Or.inr rfl) ?_
                refine ⟨?_, rfl⟩
                unfold pw_may pw_inp
                simp [h5, h19, h27, h39, h55, h91, h109]
                try rfl
          · show pw_V x m_X8_maySit 2 Z 55 [(4, .int (nI 0)), (3, .int (nI 1)), (0, .ref 26), (1, .int (nI i)), (2, .int (nI s))] [.int (-1), .int (nI s55)] mm
            have b55 := pw_sby_6 bk h55
            refine pw_ic_ne (tgt := 116) (off := 61) (by decide +kernel) (by decide) (fun _ => ?_) (fun h => absurd h (pw_n1 (by first | omega | exact pw_g_lt)))
            refine pw_blk (pc' := 117) [.iconst 0] (by decide +kernel) ?_
            show pw_V x m_X8_maySit 2 Z 117 [(4, .int (nI 0)), (3, .int (nI 1)), (0, .ref 26), (1, .int (nI i)), (2, .int (nI s))] [.int (nI 0)] mm
            rw [← hZ]
            refine pw_rz (by decide +kernel) (Or.inl rfl) ?_
            refine ⟨?_, rfl⟩
            unfold pw_may pw_inp
            simp [h5, h19, h27, h39, h55]
            try rfl
        · refine pw_blk (pc' := 43) [.iconst 1] (by decide +kernel) ?_
          show pw_V x m_X8_maySit 2 Z 43 [(3, .int (nI 1)), (0, .ref 26), (1, .int (nI i)), (2, .int (nI s))] [.int (nI 1)] mm
          refine pw_goto (tgt := 47) (off := 4) (by decide +kernel) (by decide) ?_
          refine pw_blk (pc' := 51) [.istore 4, .aload 0, .iload 2] (by decide +kernel) ?_
          show pw_V x m_X8_maySit 2 Z 51 [(4, .int (nI 1)), (3, .int (nI 1)), (0, .ref 26), (1, .int (nI i)), (2, .int (nI s))] [.int (nI s), .ref 26] mm
          refine pw_cV (vs := [.int (nI s)]) (rest := []) k_X8_sitterBy (cL_msby mm hl hok gx hg hgb s (by have z1 := pw_bh_lt hs; have z2 := pw_ah_lt hs; omega)) l_8_228 rfl rfl rfl rfl (by omega) (Nat.le_of_ble_eq_true rfl) (by decide +kernel) ?_
          rintro _ m1 ⟨rfl, e1⟩
          rw [e1]
          clear e1 m1
          show pw_V x m_X8_maySit 2 Z 54 [(4, .int (nI 1)), (3, .int (nI 1)), (0, .ref 26), (1, .int (nI i)), (2, .int (nI s))] [.int (pw_o (pw_sby gx (pw_k A) s))] mm
          refine pw_blk (pc' := 55) [.iconst (-1)] (by decide +kernel) ?_
          show pw_V x m_X8_maySit 2 Z 55 [(4, .int (nI 1)), (3, .int (nI 1)), (0, .ref 26), (1, .int (nI i)), (2, .int (nI s))] [.int (-1), .int (pw_o (pw_sby gx (pw_k A) s))] mm
          rcases h55 : pw_sby gx (pw_k A) s with _ | s55
          · show pw_V x m_X8_maySit 2 Z 55 [(4, .int (nI 1)), (3, .int (nI 1)), (0, .ref 26), (1, .int (nI i)), (2, .int (nI s))] [.int (-1), .int (-1)] mm
            refine pw_ic_ne (tgt := 116) (off := 61) (by decide +kernel) (by decide) (fun h => absurd rfl h) (fun _ => ?_)
            refine pw_blk (pc' := 59) [.iload 3] (by decide +kernel) ?_
            show pw_V x m_X8_maySit 2 Z 59 [(4, .int (nI 1)), (3, .int (nI 1)), (0, .ref 26), (1, .int (nI i)), (2, .int (nI s))] [.int (nI 1)] mm
            refine pw_iz_ne (tgt := 71) (off := 12) (by omega) (by decide +kernel) (by decide) (fun _ => ?_) (fun h => by omega)
            refine pw_blk (pc' := 73) [.iload 4] (by decide +kernel) ?_
            show pw_V x m_X8_maySit 2 Z 73 [(4, .int (nI 1)), (3, .int (nI 1)), (0, .ref 26), (1, .int (nI i)), (2, .int (nI s))] [.int (nI 1)] mm
            refine pw_iz_ne (tgt := 116) (off := 43) (by omega) (by decide +kernel) (by decide) (fun _ => ?_) (fun h => by omega)
            refine pw_blk (pc' := 117) [.iconst 0] (by decide +kernel) ?_
            show pw_V x m_X8_maySit 2 Z 117 [(4, .int (nI 1)), (3, .int (nI 1)), (0, .ref 26), (1, .int (nI i)), (2, .int (nI s))] [.int (nI 0)] mm
            rw [← hZ]
            refine pw_rz (by decide +kernel) (Or.inl rfl) ?_
            refine ⟨?_, rfl⟩
            unfold pw_may pw_inp
            simp [h5, h19, h27, h39, h55]
            try rfl
          · show pw_V x m_X8_maySit 2 Z 55 [(4, .int (nI 1)), (3, .int (nI 1)), (0, .ref 26), (1, .int (nI i)), (2, .int (nI s))] [.int (-1), .int (nI s55)] mm
            have b55 := pw_sby_6 bk h55
            refine pw_ic_ne (tgt := 116) (off := 61) (by decide +kernel) (by decide) (fun _ => ?_) (fun h => absurd h (pw_n1 (by first | omega | exact pw_g_lt)))
            refine pw_blk (pc' := 117) [.iconst 0] (by decide +kernel) ?_
            show pw_V x m_X8_maySit 2 Z 117 [(4, .int (nI 1)), (3, .int (nI 1)), (0, .ref 26), (1, .int (nI i)), (2, .int (nI s))] [.int (nI 0)] mm
            rw [← hZ]
            refine pw_rz (by decide +kernel) (Or.inl rfl) ?_
            refine ⟨?_, rfl⟩
            unfold pw_may pw_inp
            simp [h5, h19, h27, h39, h55]
            try rfl

set_option maxHeartbeats 4000000 in
set_option maxRecDepth 100000 in
theorem cL_mnxF {A : pw_m} (mm : pw_m) (hl : MV A (pw_up mm 26 33 (-1))) (hok : pw_ok A) (iv : Int32) (k0 : Nat) (hk0 : iv + nI 1 = nI k0) (hk1 : k0 ≤ pw_k A) : pw_Ct 1 yX8_nextThere m_X8_nextThere [.ref 26, .int iv, .int (nI 1)] mm (fun r m' => r = some (.int (nI (pw_nf (pw_g A 42 1) (pw_k A) k0))) ∧ m' = mm) := by
  refine pw_ct (by decide +kernel) rfl (Nat.le_of_ble_eq_true rfl) (fun x => ?_)
  generalize hZ : pw_Z x _ = Z
  have bn := pw_bn hok
  have bk := pw_bk hok
  show pw_V x m_X8_nextThere 1 Z 0 [(0, .ref 26), (1, .int iv), (2, .int (nI 1))] [] mm
  refine pw_blk (pc' := 4) [.iload 1, .iload 2, .iadd, .istore 3] (by decide +kernel) ?_
  show pw_V x m_X8_nextThere 1 Z 4 [(3, .int (iv + (nI 1))), (0, .ref 26), (1, .int iv), (2, .int (nI 1))] [] mm
  rw [show iv + (nI 1) = nI k0 from hk0]
  refine pw_lvp [1, 2, 3, 0] rfl ?_
  suffices lo : ∀ ix : Nat, ix ≤ pw_k A → pw_nf (pw_g A 42 1) (pw_k A) k0 = pw_nf (pw_g A 42 1) (pw_k A) ix → pw_V x m_X8_nextThere 1 Z 4 [(0, .ref 26), (1, .int iv), (2, .int (nI 1)), (3, .int (nI ix))] [] mm from lo k0 hk1 rfl
  refine pw_dn (pw_k A) (fun ix hix ih hnf => ?_)
  refine pw_blk (pc' := 12) [.iload 3, .iconst 0, .aload 0, .getfield 802, .iconst 1, .isub] (by decide +kernel) ?_
  show pw_V x m_X8_nextThere 1 Z 12 [(0, .ref 26), (1, .int iv), (2, .int (nI 1)), (3, .int (nI ix))] [.int ((mm 26 2) - (nI 1)), .int (nI 0), .int (nI ix)] mm
  rw [show mm 26 2 = nI (pw_k A) from mv_k (B := pw_up mm 26 33 (-1)) hl hok]
  refine pw_cS (vs := [.int (nI ix), .int (nI 0), .int ((nI (pw_k A)) - (nI 1))]) (rest := []) k_X8_in (c_in1 (nI ix) (pw_k A) mm (by omega)) l_8_78 rfl (by omega) (Nat.le_of_ble_eq_true rfl) (by decide +kernel) ?_
  rintro _ m1 ⟨rfl, e1⟩
  rw [e1]
  clear e1 m1
  show pw_V x m_X8_nextThere 1 Z 15 [(0, .ref 26), (1, .int iv), (2, .int (nI 1)), (3, .int (nI ix))] [.int (pw_b (pw_inr (nI ix) (pw_k A)))] mm
  rw [pw_inr_nI (by omega) (by omega)]
  refine pw_ib_eq (tgt := 38) (off := 23) (by decide +kernel) (by decide) (fun h15 => ?_) (fun h15 => ?_)
  · refine pw_blk (pc' := 39) [.iload 3] (by decide +kernel) ?_
    show pw_V x m_X8_nextThere 1 Z 39 [(0, .ref 26), (1, .int iv), (2, .int (nI 1)), (3, .int (nI ix))] [.int (nI ix)] mm
    rw [← hZ]
    refine pw_ri (by decide +kernel) ?_
    refine ⟨?_, rfl⟩
    have hlt := of_decide_eq_false h15
    rw [hnf, pw_nf_e hlt]
  · have hlt : ix < pw_k A := of_decide_eq_true h15
    refine pw_blk (pc' := 25) [.aload 0, .getfield 808, .iconst 1, .iaload, .iload 3] (by decide +kernel) ?_
    refine ⟨1, rfl, by first | omega | exact pw_g_lt, ?_⟩
    show pw_V x m_X8_nextThere 1 Z 25 [(0, .ref 26), (1, .int iv), (2, .int (nI 1)), (3, .int (nI ix))] [.int (nI ix), .int (mm 30 1)] mm
    rw [show mm 30 1 = nI (pw_g A 42 1) from mv_t (B := pw_up mm 26 33 (-1)) hl hok]
    refine pw_cS (vs := [.int (nI (pw_g A 42 1)), .int (nI ix)]) (rest := []) k_X8_has (c_mhasN (pw_g A 42 1) ix mm (by first | omega | exact pw_g_lt | exact pw_ob_lt31 (by omega)) (by first | omega | exact pw_g_lt)) l_8_86 rfl (by omega) (Nat.le_of_ble_eq_true rfl) (by decide +kernel) ?_
    rintro _ m1 ⟨rfl, e1⟩
    rw [e1]
    clear e1 m1
    show pw_V x m_X8_nextThere 1 Z 28 [(0, .ref 26), (1, .int iv), (2, .int (nI 1)), (3, .int (nI ix))] [.int (pw_b (((pw_g A 42 1)).testBit ix))] mm
    refine pw_ib_ne (tgt := 38) (off := 10) (by decide +kernel) (by decide) (fun h28 => ?_) (fun h28 => ?_)
    · refine pw_blk (pc' := 39) [.iload 3] (by decide +kernel) ?_
      show pw_V x m_X8_nextThere 1 Z 39 [(0, .ref 26), (1, .int iv), (2, .int (nI 1)), (3, .int (nI ix))] [.int (nI ix)] mm
      rw [← hZ]
      refine pw_ri (by decide +kernel) ?_
      refine ⟨?_, rfl⟩
      rw [hnf, pw_nf_t hlt h28]
    · refine pw_blk (pc' := 35) [.iload 3, .iload 2, .iadd, .istore 3] (by decide +kernel) ?_
      show pw_V x m_X8_nextThere 1 Z 35 [(3, .int ((nI ix) + (nI 1))), (0, .ref 26), (1, .int iv), (2, .int (nI 1))] [] mm
      rw [show (nI ix) + (nI 1) = nI (ix + 1) from nI_add _ _]
      refine pw_goto (tgt := 4) (off := -31) (by decide +kernel) (by decide) ?_
      refine pw_lvp [1, 2, 3, 0] rfl ?_
      exact ih (by omega) (by rw [hnf]; exact pw_nf_s hlt h28)

set_option maxHeartbeats 4000000 in
set_option maxRecDepth 100000 in
theorem cL_mnxB {A : pw_m} (mm : pw_m) (hl : MV A (pw_up mm 26 33 (-1))) (hok : pw_ok A) (i : Nat) (hi : i ≤ pw_k A) : pw_Ct 1 yX8_nextThere m_X8_nextThere [.ref 26, .int (nI i), .int (-1)] mm (fun r m' => r = some (.int (pw_o (pw_lf (fun j => (pw_g A 42 1).testBit j) i))) ∧ m' = mm) := by
  refine pw_ct (by decide +kernel) rfl (Nat.le_of_ble_eq_true rfl) (fun x => ?_)
  generalize hZ : pw_Z x _ = Z
  have bn := pw_bn hok
  have bk := pw_bk hok
  show pw_V x m_X8_nextThere 1 Z 0 [(0, .ref 26), (1, .int (nI i)), (2, .int (-1))] [] mm
  refine pw_blk (pc' := 4) [.iload 1, .iload 2, .iadd, .istore 3] (by decide +kernel) ?_
  show pw_V x m_X8_nextThere 1 Z 4 [(3, .int ((nI i) + (-1))), (0, .ref 26), (1, .int (nI i)), (2, .int (-1))] [] mm
  refine pw_lvp [1, 2, 3, 0] rfl ?_
  suffices lo : ∀ ix : Nat, ix ≤ pw_k A → pw_lf (fun j => (pw_g A 42 1).testBit j) i = pw_lf (fun j => (pw_g A 42 1).testBit j) ix → pw_V x m_X8_nextThere 1 Z 4 [(0, .ref 26), (1, .int (nI i)), (2, .int (-1)), (3, .int (nI ix + (-1)))] [] mm from lo i (by omega) rfl
  intro ix
  induction ix with
  | zero =>
    intro hi0 hlf
    rw [show nI 0 + (-1) = -1 from by decide]
    refine pw_blk (pc' := 12) [.iload 3, .iconst 0, .aload 0, .getfield 802, .iconst 1, .isub] (by decide +kernel) ?_
    show pw_V x m_X8_nextThere 1 Z 12 [(0, .ref 26), (1, .int (nI i)), (2, .int (-1)), (3, .int (-1))] [.int ((mm 26 2) - (nI 1)), .int (nI 0), .int (-1)] mm
    rw [show mm 26 2 = nI (pw_k A) from mv_k (B := pw_up mm 26 33 (-1)) hl hok]
    refine pw_cS (vs := [.int (-1), .int (nI 0), .int ((nI (pw_k A)) - (nI 1))]) (rest := []) k_X8_in (c_in1 (-1) (pw_k A) mm (by omega)) l_8_78 rfl (by omega) (Nat.le_of_ble_eq_true rfl) (by decide +kernel) ?_
    rintro _ m1 ⟨rfl, e1⟩
    rw [e1]
    clear e1 m1
    show pw_V x m_X8_nextThere 1 Z 15 [(0, .ref 26), (1, .int (nI i)), (2, .int (-1)), (3, .int (-1))] [.int (pw_b (pw_inr (-1) (pw_k A)))] mm
    refine pw_ib_eq (tgt := 38) (off := 23) (by decide +kernel) (by decide) (fun h15 => ?_) (fun h15 => ?_)
    · refine pw_blk (pc' := 39) [.iload 3] (by decide +kernel) ?_
      show pw_V x m_X8_nextThere 1 Z 39 [(0, .ref 26), (1, .int (nI i)), (2, .int (-1)), (3, .int (-1))] [.int (-1)] mm
      rw [← hZ]
      refine pw_ri (by decide +kernel) ?_
      refine ⟨?_, rfl⟩
      rw [hlf]
      rfl
    · rw [pw_inr_f1 (by decide)] at h15; cases h15
  | succ iy ih =>
    intro hi0 hlf
    rw [show nI (iy + 1) + (-1) = nI iy from pw_nIm1 (by omega) (by omega)]
    refine pw_blk (pc' := 12) [.iload 3, .iconst 0, .aload 0, .getfield 802, .iconst 1, .isub] (by decide +kernel) ?_
    show pw_V x m_X8_nextThere 1 Z 12 [(0, .ref 26), (1, .int (nI i)), (2, .int (-1)), (3, .int (nI iy))] [.int ((mm 26 2) - (nI 1)), .int (nI 0), .int (nI iy)] mm
    rw [show mm 26 2 = nI (pw_k A) from mv_k (B := pw_up mm 26 33 (-1)) hl hok]
    refine pw_cS (vs := [.int (nI iy), .int (nI 0), .int ((nI (pw_k A)) - (nI 1))]) (rest := []) k_X8_in (c_in1 (nI iy) (pw_k A) mm (by omega)) l_8_78 rfl (by omega) (Nat.le_of_ble_eq_true rfl) (by decide +kernel) ?_
    rintro _ m1 ⟨rfl, e1⟩
    rw [e1]
    clear e1 m1
    show pw_V x m_X8_nextThere 1 Z 15 [(0, .ref 26), (1, .int (nI i)), (2, .int (-1)), (3, .int (nI iy))] [.int (pw_b (pw_inr (nI iy) (pw_k A)))] mm
    refine pw_ib_eq (tgt := 38) (off := 23) (by decide +kernel) (by decide) (fun h15 => ?_) (fun h15 => ?_)
    · rw [pw_inr_nI (by omega) (by omega), decide_eq_true (by omega)] at h15; cases h15
    · refine pw_blk (pc' := 25) [.aload 0, .getfield 808, .iconst 1, .iaload, .iload 3] (by decide +kernel) ?_
      refine ⟨1, rfl, by first | omega | exact pw_g_lt, ?_⟩
      show pw_V x m_X8_nextThere 1 Z 25 [(0, .ref 26), (1, .int (nI i)), (2, .int (-1)), (3, .int (nI iy))] [.int (nI iy), .int (mm 30 1)] mm
      rw [show mm 30 1 = nI (pw_g A 42 1) from mv_t (B := pw_up mm 26 33 (-1)) hl hok]
      refine pw_cS (vs := [.int (nI (pw_g A 42 1)), .int (nI iy)]) (rest := []) k_X8_has (c_mhasN (pw_g A 42 1) iy mm (by first | omega | exact pw_g_lt | exact pw_ob_lt31 (by omega)) (by first | omega | exact pw_g_lt)) l_8_86 rfl (by omega) (Nat.le_of_ble_eq_true rfl) (by decide +kernel) ?_
      rintro _ m1 ⟨rfl, e1⟩
      rw [e1]
      clear e1 m1
      show pw_V x m_X8_nextThere 1 Z 28 [(0, .ref 26), (1, .int (nI i)), (2, .int (-1)), (3, .int (nI iy))] [.int (pw_b (((pw_g A 42 1)).testBit iy))] mm
      refine pw_ib_ne (tgt := 38) (off := 10) (by decide +kernel) (by decide) (fun h28 => ?_) (fun h28 => ?_)
      · refine pw_blk (pc' := 39) [.iload 3] (by decide +kernel) ?_
        show pw_V x m_X8_nextThere 1 Z 39 [(0, .ref 26), (1, .int (nI i)), (2, .int (-1)), (3, .int (nI iy))] [.int (nI iy)] mm
        rw [← hZ]
        refine pw_ri (by decide +kernel) ?_
        refine ⟨?_, rfl⟩
        rw [hlf, pw_lf, if_pos h28]
        rfl
      · refine pw_blk (pc' := 35) [.iload 3, .iload 2, .iadd, .istore 3] (by decide +kernel) ?_
        show pw_V x m_X8_nextThere 1 Z 35 [(3, .int ((nI iy) + (-1))), (0, .ref 26), (1, .int (nI i)), (2, .int (-1))] [] mm
        refine pw_goto (tgt := 4) (off := -31) (by decide +kernel) (by decide) ?_
        refine pw_lvp [1, 2, 3, 0] rfl ?_
        exact ih (by omega) (by rw [hlf, pw_lf, if_neg (by rw [h28]; decide)])
