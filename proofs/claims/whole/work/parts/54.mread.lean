set_option maxHeartbeats 4000000 in
set_option maxRecDepth 100000 in
theorem c_mwrongs {A : pw_m} (mm : pw_m) (hv : MV A mm) (hok : pw_ok A) : pw_Ct 3 yX8_wrongs m_X8_wrongs [.ref 26] mm (fun r m' => r = some (.int (nI (pw_wrs A))) ∧ m' = mm) := by
  refine pw_ct (by decide +kernel) rfl (Nat.le_of_ble_eq_true rfl) (fun x => ?_)
  generalize hZ : pw_Z x _ = Z
  have bn := pw_bn hok
  have bk := pw_bk hok
  show pw_V x m_X8_wrongs 3 Z 0 [(0, .ref 26)] [] mm
  refine pw_blk (pc' := 4) [.iconst 0, .istore 1, .iconst 0, .istore 2] (by decide +kernel) ?_
  show pw_V x m_X8_wrongs 3 Z 4 [(2, .int (nI 0)), (1, .int (nI 0)), (0, .ref 26)] [] mm
  refine pw_lvp [2, 1, 0] rfl ?_
  rw [show nI 0 = nI (pw_ob (pw_wr A) 0) from rfl]
  suffices lo : ∀ ix : Nat, ix ≤ pw_k A → pw_V x m_X8_wrongs 3 Z 4 [(0, .ref 26), (1, .int (nI (pw_ob (pw_wr A) ix))), (2, .int (nI ix))] [] mm from lo 0 (by omega)
  refine pw_dn (pw_k A) (fun ix hix ih => ?_)
  refine pw_blk (pc' := 9) [.iload 2, .aload 0, .getfield 802] (by decide +kernel) ?_
  show pw_V x m_X8_wrongs 3 Z 9 [(0, .ref 26), (1, .int (nI (pw_ob (pw_wr A) ix))), (2, .int (nI ix))] [.int (mm 26 2), .int (nI ix)] mm
  rw [show mm 26 2 = nI (pw_k A) from mv_k hv hok]
  refine pw_in_ge (tgt := 58) (off := 49) (by first | omega | exact pw_g_lt) (by first | omega | exact pw_g_lt) (by decide +kernel) (by decide) (fun h9 => ?_) (fun h9 => ?_)
  · refine pw_blk (pc' := 59) [.iload 1] (by decide +kernel) ?_
    show pw_V x m_X8_wrongs 3 Z 59 [(0, .ref 26), (1, .int (nI (pw_ob (pw_wr A) ix))), (2, .int (nI ix))] [.int (nI (pw_ob (pw_wr A) ix))] mm
    rw [← hZ]
    refine pw_ri (by decide +kernel) ?_
    refine ⟨?_, rfl⟩
    rw [show ix = pw_k A by omega]
    rfl
  · refine pw_blk (pc' := 23) [.iload 1, .aload 0, .getfield 808, .iconst (14), .iload 2, .iadd, .iaload, .iconst (-1)] (by decide +kernel) ?_
    refine ⟨(14 + ix), (show (nI 14) + (nI ix) = nI (14 + ix) from by rw [show (nI 14) + (nI ix) = nI (14 + ix) from nI_add _ _]), by first | omega | exact pw_g_lt, ?_⟩
    show pw_V x m_X8_wrongs 3 Z 23 [(0, .ref 26), (1, .int (nI (pw_ob (pw_wr A) ix))), (2, .int (nI ix))] [.int (-1), .int (mm 30 (14 + ix)), .int (nI (pw_ob (pw_wr A) ix))] mm
    rw [show mm 30 (14 + ix) = pw_o (pw_pl A ix) from mv_pl hv hok (i := ix) (by omega)]
    rcases h23 : pw_pl A ix with _ | s23
    · show pw_V x m_X8_wrongs 3 Z 23 [(0, .ref 26), (1, .int (nI (pw_ob (pw_wr A) ix))), (2, .int (nI ix))] [.int (-1), .int (-1), .int (nI (pw_ob (pw_wr A) ix))] mm
      refine pw_ic_eq (tgt := 49) (off := 26) (by decide +kernel) (by decide) (fun _ => ?_) (fun h => absurd rfl h)
      refine pw_blk (pc' := 55) [.iconst 0, .ior, .istore 1, .iinc 2 1] (by decide +kernel) ?_
      show pw_V x m_X8_wrongs 3 Z 55 [(2, .int ((nI ix) + (nI 1))), (1, .int ((nI (pw_ob (pw_wr A) ix)) ||| (nI 0))), (0, .ref 26)] [] mm
      rw [show (nI ix) + (nI 1) = nI (ix + 1) from nI_add _ _]
      rw [show (nI (pw_ob (pw_wr A) ix)) ||| (nI 0) = nI ((pw_ob (pw_wr A) ix) ||| 0) from fa_or _ _]
      refine pw_goto (tgt := 4) (off := -51) (by decide +kernel) (by decide) ?_
      rw [show nI ((pw_ob (pw_wr A) ix) ||| 0) = nI (pw_ob (pw_wr A) (ix + 1)) from by simp [pw_ob, pw_wr, h9, h23]]
      refine pw_lvp [2, 1, 0] rfl ?_
      exact ih (by omega)
    · show pw_V x m_X8_wrongs 3 Z 23 [(0, .ref 26), (1, .int (nI (pw_ob (pw_wr A) ix))), (2, .int (nI ix))] [.int (-1), .int (nI s23), .int (nI (pw_ob (pw_wr A) ix))] mm
      have b23 := pw_mplb hok (i := ix) (by omega) h23
      refine pw_ic_eq (tgt := 49) (off := 26) (by decide +kernel) (by decide) (fun h => absurd h (pw_n1 (by first | omega | exact pw_g_lt))) (fun _ => ?_)
      refine pw_blk (pc' := 37) [.aload 0, .iload 2, .aload 0, .getfield 808, .iconst (14), .iload 2, .iadd, .iaload] (by decide +kernel) ?_
      refine ⟨(14 + ix), (show (nI 14) + (nI ix) = nI (14 + ix) from by rw [show (nI 14) + (nI ix) = nI (14 + ix) from nI_add _ _]), by first | omega | exact pw_g_lt, ?_⟩
      show pw_V x m_X8_wrongs 3 Z 37 [(0, .ref 26), (1, .int (nI (pw_ob (pw_wr A) ix))), (2, .int (nI ix))] [.int (mm 30 (14 + ix)), .int (nI ix), .ref 26, .int (nI (pw_ob (pw_wr A) ix))] mm
      rw [show mm 30 (14 + ix) = pw_o (pw_pl A ix) from mv_pl hv hok (i := ix) (by omega)]
      rw [show pw_o (pw_pl A ix) = nI s23 from by rw [h23]; rfl]
      refine pw_cV (vs := [.int (nI ix), .int (nI s23)]) (rest := [.int (nI (pw_ob (pw_wr A) ix))]) k_X8_isWrong (c_misWrong mm hv hok ix s23 (by omega) (by omega)) l_8_216 rfl rfl rfl rfl (by omega) (Nat.le_of_ble_eq_true rfl) (by decide +kernel) ?_
      rintro _ m1 ⟨rfl, e1⟩
      rw [e1]
      clear e1 m1
      show pw_V x m_X8_wrongs 3 Z 40 [(0, .ref 26), (1, .int (nI (pw_ob (pw_wr A) ix))), (2, .int (nI ix))] [.int (pw_b ((!pw_fnow A ix s23 || pw_inp A ix s23))), .int (nI (pw_ob (pw_wr A) ix))] mm
      refine pw_ib_eq (tgt := 49) (off := 9) (by decide +kernel) (by decide) (fun h40 => ?_) (fun h40 => ?_)
      · refine pw_blk (pc' := 55) [.iconst 0, .ior, .istore 1, .iinc 2 1] (by decide +kernel) ?_
        show pw_V x m_X8_wrongs 3 Z 55 [(2, .int ((nI ix) + (nI 1))), (1, .int ((nI (pw_ob (pw_wr A) ix)) ||| (nI 0))), (0, .ref 26)] [] mm
        rw [show (nI ix) + (nI 1) = nI (ix + 1) from nI_add _ _]
        rw [show (nI (pw_ob (pw_wr A) ix)) ||| (nI 0) = nI ((pw_ob (pw_wr A) ix) ||| 0) from fa_or _ _]
        refine pw_goto (tgt := 4) (off := -51) (by decide +kernel) (by decide) ?_
        rw [show nI ((pw_ob (pw_wr A) ix) ||| 0) = nI (pw_ob (pw_wr A) (ix + 1)) from by simp [pw_ob, pw_wr, h9, h23, h40]]
        refine pw_lvp [2, 1, 0] rfl ?_
        exact ih (by omega)
      · refine pw_blk (pc' := 46) [.iconst 1, .iload 2, .ishl] (by decide +kernel) ?_
        show pw_V x m_X8_wrongs 3 Z 46 [(0, .ref 26), (1, .int (nI (pw_ob (pw_wr A) ix))), (2, .int (nI ix))] [.int ((nI 1) <<< ((nI ix) &&& 31)), .int (nI (pw_ob (pw_wr A) ix))] mm
        rw [show (nI 1) <<< ((nI ix) &&& 31) = nI (2 ^ ix) from pw_shl1 (by first | omega | exact pw_g_lt)]
        refine pw_goto (tgt := 50) (off := 4) (by decide +kernel) (by decide) ?_
        refine pw_blk (pc' := 55) [.ior, .istore 1, .iinc 2 1] (by decide +kernel) ?_
        show pw_V x m_X8_wrongs 3 Z 55 [(2, .int ((nI ix) + (nI 1))), (1, .int ((nI (pw_ob (pw_wr A) ix)) ||| (nI (2 ^ ix)))), (0, .ref 26)] [] mm
        rw [show (nI ix) + (nI 1) = nI (ix + 1) from nI_add _ _]
        rw [show (nI (pw_ob (pw_wr A) ix)) ||| (nI (2 ^ ix)) = nI ((pw_ob (pw_wr A) ix) ||| (2 ^ ix)) from fa_or _ _]
        refine pw_goto (tgt := 4) (off := -51) (by decide +kernel) (by decide) ?_
        rw [show nI ((pw_ob (pw_wr A) ix) ||| (2 ^ ix)) = nI (pw_ob (pw_wr A) (ix + 1)) from by simp [pw_ob, pw_wr, h9, h23, h40]]
        refine pw_lvp [2, 1, 0] rfl ?_
        exact ih (by omega)

set_option maxHeartbeats 4000000 in
set_option maxRecDepth 100000 in
theorem c_mseat {A : pw_m} (mm : pw_m) (hv : MV A mm) (hok : pw_ok A) (s what : Int32) : pw_Ct 2 yX8_seat m_X8_seat [.ref 26, .int s, .int what] mm (fun r m' => r = some (.int (F_seat A s what)) ∧ m' = mm) := by
  refine pw_ct (by decide +kernel) rfl (Nat.le_of_ble_eq_true rfl) (fun x => ?_)
  generalize hZ : pw_Z x _ = Z
  have bn := pw_bn hok
  have bk := pw_bk hok
  show pw_V x m_X8_seat 2 Z 0 [(0, .ref 26), (1, .int s), (2, .int what)] [] mm
  refine pw_blk (pc' := 2) [.aload 0, .iload 1] (by decide +kernel) ?_
  show pw_V x m_X8_seat 2 Z 2 [(0, .ref 26), (1, .int s), (2, .int what)] [.int s, .ref 26] mm
  refine pw_cV (vs := [.int s]) (rest := []) k_X8_isSeat (c_misSeat mm hv hok s) l_8_195 rfl rfl rfl rfl (by omega) (Nat.le_of_ble_eq_true rfl) (by decide +kernel) ?_
  rintro _ m1 ⟨rfl, e1⟩
  rw [e1]
  clear e1 m1
  show pw_V x m_X8_seat 2 Z 5 [(0, .ref 26), (1, .int s), (2, .int what)] [.int (pw_b (pw_inr s (pw_n A)))] mm
  refine pw_ib_ne (tgt := 11) (off := 6) (by decide +kernel) (by decide) (fun h5 => ?_) (fun h5 => ?_)
  · obtain ⟨j5, b5, e5⟩ := pw_inr_t (by omega) h5
    subst e5
    refine pw_blk (pc' := 12) [.iload 2] (by decide +kernel) ?_
    show pw_V x m_X8_seat 2 Z 12 [(0, .ref 26), (1, .int (nI j5)), (2, .int what)] [.int what] mm
    refine pw_tsw (tgt := 75) (dflt := 63) (lo := 0) (hi := 3) (offs := #[32, 32, 43, 49]) (len := 32) (by decide +kernel) (by decide) (fun h12 => ?_) (fun j hj h12 => ?_)
    · have e12_0 : ¬ what = nI 0 := fun q => by rw [q] at h12; revert h12; decide
      have e12_1 : ¬ what = nI 1 := fun q => by rw [q] at h12; revert h12; decide
      have e12_2 : ¬ what = nI 2 := fun q => by rw [q] at h12; revert h12; decide
      have e12_3 : ¬ what = nI 3 := fun q => by rw [q] at h12; revert h12; decide
      refine pw_blk (pc' := 77) [.iconst (-3)] (by decide +kernel) ?_
      show pw_V x m_X8_seat 2 Z 77 [(0, .ref 26), (1, .int (nI j5)), (2, .int what)] [.int (-3)] mm
      rw [← hZ]
      refine pw_ri (by decide +kernel) ?_
      refine ⟨?_, rfl⟩
      simp [F_seat, pw_b_t, pw_b_f, nz10, nz20, nz21, nz30, nz31, nz32, nz40, nz41, nz42, nz43, nz50, nz51, nz52, nz53, nz54, nz60, nz61, nz62, nz63, nz64, nz65, pw_inr_nI (show j5 < 2 ^ 31 by omega) (show pw_n A < 2 ^ 31 by omega), pw_c_nI (show j5 < 2 ^ 31 by omega), b5, pw_q5 hok (show j5 < 8 by omega), pw_q6 hok (show j5 < 8 by omega), h5, e12_0, e12_1, e12_2, e12_3]
      try (first | rfl )
    · match j, hj, h12 with
      | 0, hj, h12 =>
        refine ⟨32, 44, rfl, by decide, ?_⟩
        have e12 : what = nI 0 := Int32.toInt_inj.mp (by rw [h12]; rfl)
        subst e12
        refine pw_blk (pc' := 54) [.aload 0, .getfield 801, .iconst 2, .iload 1, .imul, .iload 2, .iadd, .iaload] (by decide +kernel) ?_
        refine ⟨((2 * j5) + 0), (show ((nI 2) * (nI j5)) + (nI 0) = nI ((2 * j5) + 0) from by rw [show (nI 2) * (nI j5) = nI (2 * j5) from pk_mul _ _, show (nI (2 * j5)) + (nI 0) = nI ((2 * j5) + 0) from nI_add _ _]), by first | omega | exact pw_g_lt, ?_⟩
        show pw_V x m_X8_seat 2 Z 54 [(0, .ref 26), (1, .int (nI j5)), (2, .int (nI 0))] [.int (mm 27 ((2 * j5) + 0))] mm
        rw [show mm 27 ((2 * j5) + 0) = nI (pw_g A 5 j5) from mv_nk hv hok (s := j5) (by omega)]
        rw [← hZ]
        refine pw_ri (by decide +kernel) ?_
        refine ⟨?_, rfl⟩
        simp [F_seat, pw_b_t, pw_b_f, nz10, nz20, nz21, nz30, nz31, nz32, nz40, nz41, nz42, nz43, nz50, nz51, nz52, nz53, nz54, nz60, nz61, nz62, nz63, nz64, nz65, pw_inr_nI (show j5 < 2 ^ 31 by omega) (show pw_n A < 2 ^ 31 by omega), pw_c_nI (show j5 < 2 ^ 31 by omega), b5, pw_q5 hok (show j5 < 8 by omega), pw_q6 hok (show j5 < 8 by omega), h5]
        try (first | rfl )
      | 1, hj, h12 =>
        refine ⟨32, 44, rfl, by decide, ?_⟩
        have e12 : what = nI 1 := Int32.toInt_inj.mp (by rw [h12]; rfl)
        subst e12
        refine pw_blk (pc' := 54) [.aload 0, .getfield 801, .iconst 2, .iload 1, .imul, .iload 2, .iadd, .iaload] (by decide +kernel) ?_
        refine ⟨((2 * j5) + 1), (show ((nI 2) * (nI j5)) + (nI 1) = nI ((2 * j5) + 1) from by rw [show (nI 2) * (nI j5) = nI (2 * j5) from pk_mul _ _, show (nI (2 * j5)) + (nI 1) = nI ((2 * j5) + 1) from nI_add _ _]), by first | omega | exact pw_g_lt, ?_⟩
        show pw_V x m_X8_seat 2 Z 54 [(0, .ref 26), (1, .int (nI j5)), (2, .int (nI 1))] [.int (mm 27 ((2 * j5) + 1))] mm
        rw [show mm 27 ((2 * j5) + 1) = nI (pw_g A 6 j5) from mv_nn hv hok (s := j5) (by omega)]
        rw [← hZ]
        refine pw_ri (by decide +kernel) ?_
        refine ⟨?_, rfl⟩
        simp [F_seat, pw_b_t, pw_b_f, nz10, nz20, nz21, nz30, nz31, nz32, nz40, nz41, nz42, nz43, nz50, nz51, nz52, nz53, nz54, nz60, nz61, nz62, nz63, nz64, nz65, pw_inr_nI (show j5 < 2 ^ 31 by omega) (show pw_n A < 2 ^ 31 by omega), pw_c_nI (show j5 < 2 ^ 31 by omega), b5, pw_q5 hok (show j5 < 8 by omega), pw_q6 hok (show j5 < 8 by omega), h5]
        try (first | rfl )
      | 2, hj, h12 =>
        refine ⟨43, 55, rfl, by decide, ?_⟩
        have e12 : what = nI 2 := Int32.toInt_inj.mp (by rw [h12]; rfl)
        subst e12
        refine pw_blk (pc' := 57) [.aload 0, .iload 1] (by decide +kernel) ?_
        show pw_V x m_X8_seat 2 Z 57 [(0, .ref 26), (1, .int (nI j5)), (2, .int (nI 2))] [.int (nI j5), .ref 26] mm
        refine pw_cV (vs := [.int (nI j5)]) (rest := []) k_X8_sitter (c_msitter mm hv hok j5 (by omega)) l_8_198 rfl rfl rfl rfl (by omega) (Nat.le_of_ble_eq_true rfl) (by decide +kernel) ?_
        rintro _ m1 ⟨rfl, e1⟩
        rw [e1]
        clear e1 m1
        show pw_V x m_X8_seat 2 Z 60 [(0, .ref 26), (1, .int (nI j5)), (2, .int (nI 2))] [.int (pw_o (pw_si A j5))] mm
        rw [← hZ]
        refine pw_ri (by decide +kernel) ?_
        refine ⟨?_, rfl⟩
        simp [F_seat, pw_b_t, pw_b_f, nz10, nz20, nz21, nz30, nz31, nz32, nz40, nz41, nz42, nz43, nz50, nz51, nz52, nz53, nz54, nz60, nz61, nz62, nz63, nz64, nz65, pw_inr_nI (show j5 < 2 ^ 31 by omega) (show pw_n A < 2 ^ 31 by omega), pw_c_nI (show j5 < 2 ^ 31 by omega), b5, pw_q5 hok (show j5 < 8 by omega), pw_q6 hok (show j5 < 8 by omega), h5]
        try (first | rfl )
      | 3, hj, h12 =>
        refine ⟨49, 61, rfl, by decide, ?_⟩
        have e12 : what = nI 3 := Int32.toInt_inj.mp (by rw [h12]; rfl)
        subst e12
        refine pw_blk (pc' := 63) [.iload 1, .aload 0] (by decide +kernel) ?_
        show pw_V x m_X8_seat 2 Z 63 [(0, .ref 26), (1, .int (nI j5)), (2, .int (nI 3))] [.ref 26, .int (nI j5)] mm
        refine pw_cV (vs := []) (rest := [.int (nI j5)]) k_X8_perilOn (c_mperil mm hv hok) l_8_192 rfl rfl rfl rfl (by omega) (Nat.le_of_ble_eq_true rfl) (by decide +kernel) ?_
        rintro _ m1 ⟨rfl, e1⟩
        rw [e1]
        clear e1 m1
        show pw_V x m_X8_seat 2 Z 66 [(0, .ref 26), (1, .int (nI j5)), (2, .int (nI 3))] [.int (pw_o (pw_pon A)), .int (nI j5)] mm
        refine pw_no_ne (tgt := 73) (off := 7) (by decide +kernel) (by decide) (by first | omega | exact pw_g_lt) (fun a ha => Nat.lt_trans (pw_mpon hok ha) (by omega)) (fun h66 => ?_) (fun h66 => ?_)
        · refine pw_blk (pc' := 74) [.iconst 0] (by decide +kernel) ?_
          show pw_V x m_X8_seat 2 Z 74 [(0, .ref 26), (1, .int (nI j5)), (2, .int (nI 3))] [.int (nI 0)] mm
          rw [← hZ]
          refine pw_ri (by decide +kernel) ?_
          refine ⟨?_, rfl⟩
          simp [F_seat, pw_b_t, pw_b_f, nz10, nz20, nz21, nz30, nz31, nz32, nz40, nz41, nz42, nz43, nz50, nz51, nz52, nz53, nz54, nz60, nz61, nz62, nz63, nz64, nz65, pw_inr_nI (show j5 < 2 ^ 31 by omega) (show pw_n A < 2 ^ 31 by omega), pw_c_nI (show j5 < 2 ^ 31 by omega), b5, pw_q5 hok (show j5 < 8 by omega), pw_q6 hok (show j5 < 8 by omega), h5, h66]
          try (first | rfl )
        · refine pw_blk (pc' := 70) [.iconst 1] (by decide +kernel) ?_
          show pw_V x m_X8_seat 2 Z 70 [(0, .ref 26), (1, .int (nI j5)), (2, .int (nI 3))] [.int (nI 1)] mm
          refine pw_goto (tgt := 74) (off := 4) (by decide +kernel) (by decide) ?_
          rw [← hZ]
          refine pw_ri (by decide +kernel) ?_
          refine ⟨?_, rfl⟩
          simp [F_seat, pw_b_t, pw_b_f, nz10, nz20, nz21, nz30, nz31, nz32, nz40, nz41, nz42, nz43, nz50, nz51, nz52, nz53, nz54, nz60, nz61, nz62, nz63, nz64, nz65, pw_inr_nI (show j5 < 2 ^ 31 by omega) (show pw_n A < 2 ^ 31 by omega), pw_c_nI (show j5 < 2 ^ 31 by omega), b5, pw_q5 hok (show j5 < 8 by omega), pw_q6 hok (show j5 < 8 by omega), h5, h66]
          try (first | rfl )
      | j + 4, hj, h12 => exact absurd hj (by omega)
  · refine pw_blk (pc' := 10) [.iconst (-2)] (by decide +kernel) ?_
    show pw_V x m_X8_seat 2 Z 10 [(0, .ref 26), (1, .int s), (2, .int what)] [.int (-2)] mm
    rw [← hZ]
    refine pw_ri (by decide +kernel) ?_
    refine ⟨?_, rfl⟩
    simp [F_seat, pw_b_t, pw_b_f, nz10, nz20, nz21, nz30, nz31, nz32, nz40, nz41, nz42, nz43, nz50, nz51, nz52, nz53, nz54, nz60, nz61, nz62, nz63, nz64, nz65, h5]
    try (first | rfl )

set_option maxHeartbeats 4000000 in
set_option maxRecDepth 100000 in
theorem c_mknight {A : pw_m} (mm : pw_m) (hv : MV A mm) (hok : pw_ok A) (s what : Int32) : pw_Ct 2 yX8_knight m_X8_knight [.ref 26, .int s, .int what] mm (fun r m' => r = some (.int (F_knight A s what)) ∧ m' = mm) := by
  refine pw_ct (by decide +kernel) rfl (Nat.le_of_ble_eq_true rfl) (fun x => ?_)
  generalize hZ : pw_Z x _ = Z
  have bn := pw_bn hok
  have bk := pw_bk hok
  show pw_V x m_X8_knight 2 Z 0 [(0, .ref 26), (1, .int s), (2, .int what)] [] mm
  refine pw_blk (pc' := 2) [.aload 0, .iload 1] (by decide +kernel) ?_
  show pw_V x m_X8_knight 2 Z 2 [(0, .ref 26), (1, .int s), (2, .int what)] [.int s, .ref 26] mm
  refine pw_cV (vs := [.int s]) (rest := []) k_X8_isKnight (c_misKnight mm hv hok s) l_8_82 rfl rfl rfl rfl (by omega) (Nat.le_of_ble_eq_true rfl) (by decide +kernel) ?_
  rintro _ m1 ⟨rfl, e1⟩
  rw [e1]
  clear e1 m1
  show pw_V x m_X8_knight 2 Z 5 [(0, .ref 26), (1, .int s), (2, .int what)] [.int (pw_b (pw_inr s (pw_k A)))] mm
  refine pw_ib_ne (tgt := 11) (off := 6) (by decide +kernel) (by decide) (fun h5 => ?_) (fun h5 => ?_)
  · obtain ⟨j5, b5, e5⟩ := pw_inr_t (by omega) h5
    subst e5
    refine pw_blk (pc' := 12) [.iload 2] (by decide +kernel) ?_
    show pw_V x m_X8_knight 2 Z 12 [(0, .ref 26), (1, .int (nI j5)), (2, .int what)] [.int what] mm
    refine pw_tsw (tgt := 131) (dflt := 119) (lo := 0) (hi := 6) (offs := #[44, 53, 62, 73, 80, 99, 109]) (len := 44) (by decide +kernel) (by decide) (fun h12 => ?_) (fun j hj h12 => ?_)
    · have e12_0 : ¬ what = nI 0 := fun q => by rw [q] at h12; revert h12; decide
      have e12_1 : ¬ what = nI 1 := fun q => by rw [q] at h12; revert h12; decide
      have e12_2 : ¬ what = nI 2 := fun q => by rw [q] at h12; revert h12; decide
      have e12_3 : ¬ what = nI 3 := fun q => by rw [q] at h12; revert h12; decide
      have e12_4 : ¬ what = nI 4 := fun q => by rw [q] at h12; revert h12; decide
      have e12_5 : ¬ what = nI 5 := fun q => by rw [q] at h12; revert h12; decide
      have e12_6 : ¬ what = nI 6 := fun q => by rw [q] at h12; revert h12; decide
      refine pw_blk (pc' := 133) [.iconst (-3)] (by decide +kernel) ?_
      show pw_V x m_X8_knight 2 Z 133 [(0, .ref 26), (1, .int (nI j5)), (2, .int what)] [.int (-3)] mm
      rw [← hZ]
      refine pw_ri (by decide +kernel) ?_
      refine ⟨?_, rfl⟩
      simp [F_knight, pw_b_t, pw_b_f, nz10, nz20, nz21, nz30, nz31, nz32, nz40, nz41, nz42, nz43, nz50, nz51, nz52, nz53, nz54, nz60, nz61, nz62, nz63, nz64, nz65, pw_inr_nI (show j5 < 2 ^ 31 by omega) (show pw_k A < 2 ^ 31 by omega), pw_c_nI (show j5 < 2 ^ 31 by omega), b5, pw_q7 hok (show j5 < 6 by omega), pw_q9 hok (show j5 < 6 by omega), pw_q10 hok (show j5 < 6 by omega), pw_q43 hok (show j5 < 6 by omega), pw_q44 hok (show j5 < 6 by omega), h5, e12_0, e12_1, e12_2, e12_3, e12_4, e12_5, e12_6]
      try (first | rfl | exact (pw_q45 hok (show j5 < 6 by omega)).symm)
    · match j, hj, h12 with
      | 0, hj, h12 =>
        refine ⟨44, 56, rfl, by decide, ?_⟩
        have e12 : what = nI 0 := Int32.toInt_inj.mp (by rw [h12]; rfl)
        subst e12
        refine pw_blk (pc' := 64) [.aload 0, .getfield 803, .iconst 3, .iload 1, .imul, .iaload] (by decide +kernel) ?_
        refine ⟨(3 * j5), (show (nI 3) * (nI j5) = nI (3 * j5) from by rw [show (nI 3) * (nI j5) = nI (3 * j5) from pk_mul _ _]), by first | omega | exact pw_g_lt, ?_⟩
        show pw_V x m_X8_knight 2 Z 64 [(0, .ref 26), (1, .int (nI j5)), (2, .int (nI 0))] [.int (mm 28 (3 * j5))] mm
        rw [show mm 28 (3 * j5) = nI (pw_g A 7 j5) from mv_kk hv hok (i := j5) (by omega)]
        rw [← hZ]
        refine pw_ri (by decide +kernel) ?_
        refine ⟨?_, rfl⟩
        simp [F_knight, pw_b_t, pw_b_f, nz10, nz20, nz21, nz30, nz31, nz32, nz40, nz41, nz42, nz43, nz50, nz51, nz52, nz53, nz54, nz60, nz61, nz62, nz63, nz64, nz65, pw_inr_nI (show j5 < 2 ^ 31 by omega) (show pw_k A < 2 ^ 31 by omega), pw_c_nI (show j5 < 2 ^ 31 by omega), b5, pw_q7 hok (show j5 < 6 by omega), pw_q9 hok (show j5 < 6 by omega), pw_q10 hok (show j5 < 6 by omega), pw_q43 hok (show j5 < 6 by omega), pw_q44 hok (show j5 < 6 by omega), h5]
        try (first | rfl | exact (pw_q45 hok (show j5 < 6 by omega)).symm)
      | 1, hj, h12 =>
        refine ⟨53, 65, rfl, by decide, ?_⟩
        have e12 : what = nI 1 := Int32.toInt_inj.mp (by rw [h12]; rfl)
        subst e12
        refine pw_blk (pc' := 73) [.aload 0, .getfield 808, .iconst 2, .iload 1, .iadd, .iaload] (by decide +kernel) ?_
        refine ⟨(2 + j5), (show (nI 2) + (nI j5) = nI (2 + j5) from by rw [show (nI 2) + (nI j5) = nI (2 + j5) from nI_add _ _]), by first | omega | exact pw_g_lt, ?_⟩
        show pw_V x m_X8_knight 2 Z 73 [(0, .ref 26), (1, .int (nI j5)), (2, .int (nI 1))] [.int (mm 30 (2 + j5))] mm
        rw [show mm 30 (2 + j5) = nI (pw_g A 43 j5) from mv_rn hv hok (i := j5) (by omega)]
        rw [← hZ]
        refine pw_ri (by decide +kernel) ?_
        refine ⟨?_, rfl⟩
        simp [F_knight, pw_b_t, pw_b_f, nz10, nz20, nz21, nz30, nz31, nz32, nz40, nz41, nz42, nz43, nz50, nz51, nz52, nz53, nz54, nz60, nz61, nz62, nz63, nz64, nz65, pw_inr_nI (show j5 < 2 ^ 31 by omega) (show pw_k A < 2 ^ 31 by omega), pw_c_nI (show j5 < 2 ^ 31 by omega), b5, pw_q7 hok (show j5 < 6 by omega), pw_q9 hok (show j5 < 6 by omega), pw_q10 hok (show j5 < 6 by omega), pw_q43 hok (show j5 < 6 by omega), pw_q44 hok (show j5 < 6 by omega), h5]
        try (first | rfl | exact (pw_q45 hok (show j5 < 6 by omega)).symm)
      | 2, hj, h12 =>
        refine ⟨62, 74, rfl, by decide, ?_⟩
        have e12 : what = nI 2 := Int32.toInt_inj.mp (by rw [h12]; rfl)
        subst e12
        refine pw_blk (pc' := 84) [.aload 0, .getfield 803, .iconst 3, .iload 1, .imul, .iconst 2, .iadd, .iaload] (by decide +kernel) ?_
        refine ⟨((3 * j5) + 2), (show ((nI 3) * (nI j5)) + (nI 2) = nI ((3 * j5) + 2) from by rw [show (nI 3) * (nI j5) = nI (3 * j5) from pk_mul _ _, show (nI (3 * j5)) + (nI 2) = nI ((3 * j5) + 2) from nI_add _ _]), by first | omega | exact pw_g_lt, ?_⟩
        show pw_V x m_X8_knight 2 Z 84 [(0, .ref 26), (1, .int (nI j5)), (2, .int (nI 2))] [.int (mm 28 ((3 * j5) + 2))] mm
        rw [show mm 28 ((3 * j5) + 2) = nI (pw_g A 9 j5) from mv_kh hv hok (i := j5) (by omega)]
        rw [← hZ]
        refine pw_ri (by decide +kernel) ?_
        refine ⟨?_, rfl⟩
        simp [F_knight, pw_b_t, pw_b_f, nz10, nz20, nz21, nz30, nz31, nz32, nz40, nz41, nz42, nz43, nz50, nz51, nz52, nz53, nz54, nz60, nz61, nz62, nz63, nz64, nz65, pw_inr_nI (show j5 < 2 ^ 31 by omega) (show pw_k A < 2 ^ 31 by omega), pw_c_nI (show j5 < 2 ^ 31 by omega), b5, pw_q7 hok (show j5 < 6 by omega), pw_q9 hok (show j5 < 6 by omega), pw_q10 hok (show j5 < 6 by omega), pw_q43 hok (show j5 < 6 by omega), pw_q44 hok (show j5 < 6 by omega), h5]
        try (first | rfl | exact (pw_q45 hok (show j5 < 6 by omega)).symm)
      | 3, hj, h12 =>
        refine ⟨73, 85, rfl, by decide, ?_⟩
        have e12 : what = nI 3 := Int32.toInt_inj.mp (by rw [h12]; rfl)
        subst e12
        refine pw_blk (pc' := 91) [.aload 0, .getfield 804, .iload 1, .iaload] (by decide +kernel) ?_
        refine ⟨j5, rfl, by first | omega | exact pw_g_lt, ?_⟩
        show pw_V x m_X8_knight 2 Z 91 [(0, .ref 26), (1, .int (nI j5)), (2, .int (nI 3))] [.int (mm 29 j5)] mm
        rw [show mm 29 j5 = nI (pw_g A 10 j5) from mv_en hv hok (i := j5) (by omega)]
        rw [← hZ]
        refine pw_ri (by decide +kernel) ?_
        refine ⟨?_, rfl⟩
        simp [F_knight, pw_b_t, pw_b_f, nz10, nz20, nz21, nz30, nz31, nz32, nz40, nz41, nz42, nz43, nz50, nz51, nz52, nz53, nz54, nz60, nz61, nz62, nz63, nz64, nz65, pw_inr_nI (show j5 < 2 ^ 31 by omega) (show pw_k A < 2 ^ 31 by omega), pw_c_nI (show j5 < 2 ^ 31 by omega), b5, pw_q7 hok (show j5 < 6 by omega), pw_q9 hok (show j5 < 6 by omega), pw_q10 hok (show j5 < 6 by omega), pw_q43 hok (show j5 < 6 by omega), pw_q44 hok (show j5 < 6 by omega), h5]
        try (first | rfl | exact (pw_q45 hok (show j5 < 6 by omega)).symm)
      | 4, hj, h12 =>
        refine ⟨80, 92, rfl, by decide, ?_⟩
        have e12 : what = nI 4 := Int32.toInt_inj.mp (by rw [h12]; rfl)
        subst e12
        refine pw_blk (pc' := 99) [.aload 0, .getfield 808, .iconst 1, .iaload, .iload 1] (by decide +kernel) ?_
        refine ⟨1, rfl, by first | omega | exact pw_g_lt, ?_⟩
        show pw_V x m_X8_knight 2 Z 99 [(0, .ref 26), (1, .int (nI j5)), (2, .int (nI 4))] [.int (nI j5), .int (mm 30 1)] mm
        rw [show mm 30 1 = nI (pw_g A 42 1) from mv_t hv hok]
        refine pw_cS (vs := [.int (nI (pw_g A 42 1)), .int (nI j5)]) (rest := []) k_X8_has (c_mhasN (pw_g A 42 1) j5 mm (by first | omega | exact pw_g_lt) (by first | omega | exact pw_g_lt)) l_8_86 rfl (by omega) (Nat.le_of_ble_eq_true rfl) (by decide +kernel) ?_
        rintro _ m1 ⟨rfl, e1⟩
        rw [e1]
        clear e1 m1
        show pw_V x m_X8_knight 2 Z 102 [(0, .ref 26), (1, .int (nI j5)), (2, .int (nI 4))] [.int (pw_b (((pw_g A 42 1)).testBit j5))] mm
        refine pw_ib_eq (tgt := 109) (off := 7) (by decide +kernel) (by decide) (fun h102 => ?_) (fun h102 => ?_)
        · refine pw_blk (pc' := 110) [.iconst 0] (by decide +kernel) ?_
          show pw_V x m_X8_knight 2 Z 110 [(0, .ref 26), (1, .int (nI j5)), (2, .int (nI 4))] [.int (nI 0)] mm
          rw [← hZ]
          refine pw_ri (by decide +kernel) ?_
          refine ⟨?_, rfl⟩
          simp [F_knight, pw_b_t, pw_b_f, nz10, nz20, nz21, nz30, nz31, nz32, nz40, nz41, nz42, nz43, nz50, nz51, nz52, nz53, nz54, nz60, nz61, nz62, nz63, nz64, nz65, pw_inr_nI (show j5 < 2 ^ 31 by omega) (show pw_k A < 2 ^ 31 by omega), pw_c_nI (show j5 < 2 ^ 31 by omega), b5, pw_q7 hok (show j5 < 6 by omega), pw_q9 hok (show j5 < 6 by omega), pw_q10 hok (show j5 < 6 by omega), pw_q43 hok (show j5 < 6 by omega), pw_q44 hok (show j5 < 6 by omega), h5, h102]
          try (first | rfl | exact (pw_q45 hok (show j5 < 6 by omega)).symm)
        · refine pw_blk (pc' := 106) [.iconst 1] (by decide +kernel) ?_
          show pw_V x m_X8_knight 2 Z 106 [(0, .ref 26), (1, .int (nI j5)), (2, .int (nI 4))] [.int (nI 1)] mm
          refine pw_goto (tgt := 110) (off := 4) (by decide +kernel) (by decide) ?_
          rw [← hZ]
          refine pw_ri (by decide +kernel) ?_
          refine ⟨?_, rfl⟩
          simp [F_knight, pw_b_t, pw_b_f, nz10, nz20, nz21, nz30, nz31, nz32, nz40, nz41, nz42, nz43, nz50, nz51, nz52, nz53, nz54, nz60, nz61, nz62, nz63, nz64, nz65, pw_inr_nI (show j5 < 2 ^ 31 by omega) (show pw_k A < 2 ^ 31 by omega), pw_c_nI (show j5 < 2 ^ 31 by omega), b5, pw_q7 hok (show j5 < 6 by omega), pw_q9 hok (show j5 < 6 by omega), pw_q10 hok (show j5 < 6 by omega), pw_q43 hok (show j5 < 6 by omega), pw_q44 hok (show j5 < 6 by omega), h5, h102]
          try (first | rfl | exact (pw_q45 hok (show j5 < 6 by omega)).symm)
      | 5, hj, h12 =>
        refine ⟨99, 111, rfl, by decide, ?_⟩
        have e12 : what = nI 5 := Int32.toInt_inj.mp (by rw [h12]; rfl)
        subst e12
        refine pw_blk (pc' := 120) [.aload 0, .getfield 808, .iconst (8), .iload 1, .iadd, .iaload] (by decide +kernel) ?_
        refine ⟨(8 + j5), (show (nI 8) + (nI j5) = nI (8 + j5) from by rw [show (nI 8) + (nI j5) = nI (8 + j5) from nI_add _ _]), by first | omega | exact pw_g_lt, ?_⟩
        show pw_V x m_X8_knight 2 Z 120 [(0, .ref 26), (1, .int (nI j5)), (2, .int (nI 5))] [.int (mm 30 (8 + j5))] mm
        rw [show mm 30 (8 + j5) = nI (pw_g A 44 j5) from mv_nw hv hok (i := j5) (by omega)]
        rw [← hZ]
        refine pw_ri (by decide +kernel) ?_
        refine ⟨?_, rfl⟩
        simp [F_knight, pw_b_t, pw_b_f, nz10, nz20, nz21, nz30, nz31, nz32, nz40, nz41, nz42, nz43, nz50, nz51, nz52, nz53, nz54, nz60, nz61, nz62, nz63, nz64, nz65, pw_inr_nI (show j5 < 2 ^ 31 by omega) (show pw_k A < 2 ^ 31 by omega), pw_c_nI (show j5 < 2 ^ 31 by omega), b5, pw_q7 hok (show j5 < 6 by omega), pw_q9 hok (show j5 < 6 by omega), pw_q10 hok (show j5 < 6 by omega), pw_q43 hok (show j5 < 6 by omega), pw_q44 hok (show j5 < 6 by omega), h5]
        try (first | rfl | exact (pw_q45 hok (show j5 < 6 by omega)).symm)
      | 6, hj, h12 =>
        refine ⟨109, 121, rfl, by decide, ?_⟩
        have e12 : what = nI 6 := Int32.toInt_inj.mp (by rw [h12]; rfl)
        subst e12
        refine pw_blk (pc' := 130) [.aload 0, .getfield 808, .iconst (14), .iload 1, .iadd, .iaload] (by decide +kernel) ?_
        refine ⟨(14 + j5), (show (nI 14) + (nI j5) = nI (14 + j5) from by rw [show (nI 14) + (nI j5) = nI (14 + j5) from nI_add _ _]), by first | omega | exact pw_g_lt, ?_⟩
        show pw_V x m_X8_knight 2 Z 130 [(0, .ref 26), (1, .int (nI j5)), (2, .int (nI 6))] [.int (mm 30 (14 + j5))] mm
        rw [show mm 30 (14 + j5) = pw_o (pw_pl A j5) from mv_pl hv hok (i := j5) (by omega)]
        rw [← hZ]
        refine pw_ri (by decide +kernel) ?_
        refine ⟨?_, rfl⟩
        simp [F_knight, pw_b_t, pw_b_f, nz10, nz20, nz21, nz30, nz31, nz32, nz40, nz41, nz42, nz43, nz50, nz51, nz52, nz53, nz54, nz60, nz61, nz62, nz63, nz64, nz65, pw_inr_nI (show j5 < 2 ^ 31 by omega) (show pw_k A < 2 ^ 31 by omega), pw_c_nI (show j5 < 2 ^ 31 by omega), b5, pw_q7 hok (show j5 < 6 by omega), pw_q9 hok (show j5 < 6 by omega), pw_q10 hok (show j5 < 6 by omega), pw_q43 hok (show j5 < 6 by omega), pw_q44 hok (show j5 < 6 by omega), h5]
        try (first | rfl | exact (pw_q45 hok (show j5 < 6 by omega)).symm)
      | j + 7, hj, h12 => exact absurd hj (by omega)
  · refine pw_blk (pc' := 10) [.iconst (-2)] (by decide +kernel) ?_
    show pw_V x m_X8_knight 2 Z 10 [(0, .ref 26), (1, .int s), (2, .int what)] [.int (-2)] mm
    rw [← hZ]
    refine pw_ri (by decide +kernel) ?_
    refine ⟨?_, rfl⟩
    simp [F_knight, pw_b_t, pw_b_f, nz10, nz20, nz21, nz30, nz31, nz32, nz40, nz41, nz42, nz43, nz50, nz51, nz52, nz53, nz54, nz60, nz61, nz62, nz63, nz64, nz65, h5]
    try (first | rfl | exact (pw_q45 hok (show j5 < 6 by omega)).symm)

set_option maxHeartbeats 4000000 in
set_option maxRecDepth 100000 in
theorem c_mas {A : pw_m} (mm : pw_m) (hv : MV A mm) (hok : pw_ok A) (s q : Int32) : pw_Ct 2 yX8_as m_X8_as [.ref 26, .int s, .int q] mm (fun r m' => r = some (.int (F_as A s q)) ∧ m' = mm) := by
  refine pw_ct (by decide +kernel) rfl (Nat.le_of_ble_eq_true rfl) (fun x => ?_)
  generalize hZ : pw_Z x _ = Z
  have bn := pw_bn hok
  have bk := pw_bk hok
  show pw_V x m_X8_as 2 Z 0 [(0, .ref 26), (1, .int s), (2, .int q)] [] mm
  refine pw_blk (pc' := 2) [.aload 0, .iload 1] (by decide +kernel) ?_
  show pw_V x m_X8_as 2 Z 2 [(0, .ref 26), (1, .int s), (2, .int q)] [.int s, .ref 26] mm
  refine pw_cV (vs := [.int s]) (rest := []) k_X8_isKnight (c_misKnight mm hv hok s) l_8_82 rfl rfl rfl rfl (by omega) (Nat.le_of_ble_eq_true rfl) (by decide +kernel) ?_
  rintro _ m1 ⟨rfl, e1⟩
  rw [e1]
  clear e1 m1
  show pw_V x m_X8_as 2 Z 5 [(0, .ref 26), (1, .int s), (2, .int q)] [.int (pw_b (pw_inr s (pw_k A)))] mm
  refine pw_ib_ne (tgt := 11) (off := 6) (by decide +kernel) (by decide) (fun h5 => ?_) (fun h5 => ?_)
  · obtain ⟨j5, b5, e5⟩ := pw_inr_t (by omega) h5
    subst e5
    refine pw_blk (pc' := 14) [.iload 2, .iconst 0, .iconst 3] (by decide +kernel) ?_
    show pw_V x m_X8_as 2 Z 14 [(0, .ref 26), (1, .int (nI j5)), (2, .int q)] [.int (nI 3), .int (nI 0), .int q] mm
    refine pw_cS (vs := [.int q, .int (nI 0), .int (nI 3)]) (rest := []) k_X8_in (c_in0 q 3 mm (by first | omega | exact pw_g_lt)) l_8_78 rfl (by omega) (Nat.le_of_ble_eq_true rfl) (by decide +kernel) ?_
    rintro _ m1 ⟨rfl, e1⟩
    rw [e1]
    clear e1 m1
    show pw_V x m_X8_as 2 Z 17 [(0, .ref 26), (1, .int (nI j5)), (2, .int q)] [.int (pw_b (pw_inr q 4))] mm
    refine pw_ib_ne (tgt := 23) (off := 6) (by decide +kernel) (by decide) (fun h17 => ?_) (fun h17 => ?_)
    · obtain ⟨j17, b17, e17⟩ := pw_inr_t (by omega) h17
      subst e17
      have bf0 := pw_b7 hok (show j5 < 6 by omega)
      refine pw_blk (pc' := 33) [.aload 0, .getfield 803, .iconst 3, .iload 1, .imul, .iaload, .istore 3, .iload 2] (by decide +kernel) ?_
      refine ⟨(3 * j5), (show (nI 3) * (nI j5) = nI (3 * j5) from by rw [show (nI 3) * (nI j5) = nI (3 * j5) from pk_mul _ _]), by first | omega | exact pw_g_lt, ?_⟩
      show pw_V x m_X8_as 2 Z 33 [(3, .int (mm 28 (3 * j5))), (0, .ref 26), (1, .int (nI j5)), (2, .int (nI j17))] [.int (nI j17)] mm
      rw [show mm 28 (3 * j5) = nI (pw_g A 7 j5) from mv_kk hv hok (i := j5) (by omega)]
      refine pw_iz_eq (tgt := 56) (off := 23) (by first | omega | exact pw_g_lt) (by decide +kernel) (by decide) (fun h33 => ?_) (fun h33 => ?_)
      · refine pw_blk (pc' := 62) [.iconst 0, .istore 4, .iconst 0, .istore 5] (by decide +kernel) ?_
        show pw_V x m_X8_as 2 Z 62 [(5, .int (nI 0)), (4, .int (nI 0)), (3, .int (nI (pw_g A 7 j5))), (0, .ref 26), (1, .int (nI j5)), (2, .int (nI j17))] [] mm
        refine pw_lvp [3, 4, 5, 1, 0] rfl ?_
        rw [show nI 0 = nI (pw_ob (fun s => pw_fnow A j5 s) 0) from rfl]
        suffices lo : ∀ ix : Nat, ix ≤ pw_n A → pw_V x m_X8_as 2 Z 62 [(0, .ref 26), (1, .int (nI j5)), (2, .int (nI j17)), (4, .int (nI (pw_ob (fun s => pw_fnow A j5 s) ix))), (5, .int (nI ix))] [] mm from lo 0 (by omega)
        refine pw_dn (pw_n A) (fun ix hix ih => ?_)
        refine pw_blk (pc' := 68) [.iload 5, .aload 0, .getfield 800] (by decide +kernel) ?_
        show pw_V x m_X8_as 2 Z 68 [(0, .ref 26), (1, .int (nI j5)), (2, .int (nI j17)), (4, .int (nI (pw_ob (fun s => pw_fnow A j5 s) ix))), (5, .int (nI ix))] [.int (mm 26 0), .int (nI ix)] mm
        rw [show mm 26 0 = nI (pw_n A) from mv_n hv hok]
        refine pw_in_ge (tgt := 100) (off := 32) (by first | omega | exact pw_g_lt) (by first | omega | exact pw_g_lt) (by decide +kernel) (by decide) (fun h68 => ?_) (fun h68 => ?_)
        · refine pw_blk (pc' := 102) [.iload 4] (by decide +kernel) ?_
          show pw_V x m_X8_as 2 Z 102 [(0, .ref 26), (1, .int (nI j5)), (2, .int (nI j17)), (4, .int (nI (pw_ob (fun s => pw_fnow A j5 s) ix))), (5, .int (nI ix))] [.int (nI (pw_ob (fun s => pw_fnow A j5 s) ix))] mm
          rw [← hZ]
          refine pw_ri (by decide +kernel) ?_
          refine ⟨?_, rfl⟩
          unfold F_as
          rw [if_pos (show pw_inr (nI j5) (pw_k A) = true from by rw [pw_inr_nI (show j5 < 2 ^ 31 by omega) (show pw_k A < 2 ^ 31 by omega)]; exact decide_eq_true b5)]
          rw [if_pos (show pw_inr (nI j17) 4 = true from by rw [pw_inr_nI (show j17 < 2 ^ 31 by omega) (show 4 < 2 ^ 31 by omega)]; exact decide_eq_true b17), pw_c_nI (show j5 < 2 ^ 31 by omega)]
          have bf := pw_b7 hok (show j5 < 6 by omega)
          rw [pw_ofk_k j17 b17 _ bf]
          rw [if_pos (decide_eq_true (by omega))]
          have e : ix = pw_n A := by omega
          subst e
          rfl
        · refine pw_blk (pc' := 77) [.iload 4, .aload 0, .iload 1, .iload 5] (by decide +kernel) ?_
          show pw_V x m_X8_as 2 Z 77 [(0, .ref 26), (1, .int (nI j5)), (2, .int (nI j17)), (4, .int (nI (pw_ob (fun s => pw_fnow A j5 s) ix))), (5, .int (nI ix))] [.int (nI ix), .int (nI j5), .ref 26, .int (nI (pw_ob (fun s => pw_fnow A j5 s) ix))] mm
          refine pw_cV (vs := [.int (nI j5), .int (nI ix)]) (rest := [.int (nI (pw_ob (fun s => pw_fnow A j5 s) ix))]) k_X8_fits (c_mfits mm hv hok j5 ix (by omega) (by omega)) l_8_189 rfl rfl rfl rfl (by omega) (Nat.le_of_ble_eq_true rfl) (by decide +kernel) ?_
          rintro _ m1 ⟨rfl, e1⟩
          rw [e1]
          clear e1 m1
          show pw_V x m_X8_as 2 Z 80 [(0, .ref 26), (1, .int (nI j5)), (2, .int (nI j17)), (4, .int (nI (pw_ob (fun s => pw_fnow A j5 s) ix))), (5, .int (nI ix))] [.int (pw_b (pw_fnow A j5 ix)), .int (nI (pw_ob (fun s => pw_fnow A j5 s) ix))] mm
          refine pw_ib_eq (tgt := 90) (off := 10) (by decide +kernel) (by decide) (fun h80 => ?_) (fun h80 => ?_)
          · refine pw_blk (pc' := 97) [.iconst 0, .ior, .istore 4, .iinc 5 1] (by decide +kernel) ?_
            show pw_V x m_X8_as 2 Z 97 [(5, .int ((nI ix) + (nI 1))), (4, .int ((nI (pw_ob (fun s => pw_fnow A j5 s) ix)) ||| (nI 0))), (0, .ref 26), (1, .int (nI j5)), (2, .int (nI j17))] [] mm
            rw [show (nI ix) + (nI 1) = nI (ix + 1) from nI_add _ _]
            rw [show (nI (pw_ob (fun s => pw_fnow A j5 s) ix)) ||| (nI 0) = nI ((pw_ob (fun s => pw_fnow A j5 s) ix) ||| 0) from fa_or _ _]
            refine pw_goto (tgt := 62) (off := -35) (by decide +kernel) (by decide) ?_
            rw [show nI ((pw_ob (fun s => pw_fnow A j5 s) ix) ||| 0) = nI (pw_ob (fun s => pw_fnow A j5 s) (ix + 1)) from by simp [pw_ob, h5, h17, h33, h68, h80]]
            refine pw_lvp [2, 3, 4, 1, 0] rfl ?_
            exact ih (by omega)
          · refine pw_blk (pc' := 87) [.iconst 1, .iload 5, .ishl] (by decide +kernel) ?_
            show pw_V x m_X8_as 2 Z 87 [(0, .ref 26), (1, .int (nI j5)), (2, .int (nI j17)), (4, .int (nI (pw_ob (fun s => pw_fnow A j5 s) ix))), (5, .int (nI ix))] [.int ((nI 1) <<< ((nI ix) &&& 31)), .int (nI (pw_ob (fun s => pw_fnow A j5 s) ix))] mm
            rw [show (nI 1) <<< ((nI ix) &&& 31) = nI (2 ^ ix) from pw_shl1 (by first | omega | exact pw_g_lt)]
            refine pw_goto (tgt := 91) (off := 4) (by decide +kernel) (by decide) ?_
            refine pw_blk (pc' := 97) [.ior, .istore 4, .iinc 5 1] (by decide +kernel) ?_
            show pw_V x m_X8_as 2 Z 97 [(5, .int ((nI ix) + (nI 1))), (4, .int ((nI (pw_ob (fun s => pw_fnow A j5 s) ix)) ||| (nI (2 ^ ix)))), (0, .ref 26), (1, .int (nI j5)), (2, .int (nI j17))] [] mm
            rw [show (nI ix) + (nI 1) = nI (ix + 1) from nI_add _ _]
            rw [show (nI (pw_ob (fun s => pw_fnow A j5 s) ix)) ||| (nI (2 ^ ix)) = nI ((pw_ob (fun s => pw_fnow A j5 s) ix) ||| (2 ^ ix)) from fa_or _ _]
            refine pw_goto (tgt := 62) (off := -35) (by decide +kernel) (by decide) ?_
            rw [show nI ((pw_ob (fun s => pw_fnow A j5 s) ix) ||| (2 ^ ix)) = nI (pw_ob (fun s => pw_fnow A j5 s) (ix + 1)) from by simp [pw_ob, h5, h17, h33, h68, h80]]
            refine pw_lvp [2, 3, 4, 1, 0] rfl ?_
            exact ih (by omega)
      · refine pw_blk (pc' := 40) [.iload 2, .iload 3, .iconst 1, .iadd] (by decide +kernel) ?_
        show pw_V x m_X8_as 2 Z 40 [(3, .int (nI (pw_g A 7 j5))), (0, .ref 26), (1, .int (nI j5)), (2, .int (nI j17))] [.int ((nI (pw_g A 7 j5)) + (nI 1)), .int (nI j17)] mm
        rw [show (nI (pw_g A 7 j5)) + (nI 1) = nI ((pw_g A 7 j5) + 1) from nI_add _ _]
        refine pw_in_eq (tgt := 56) (off := 16) (by first | omega | exact pw_g_lt) (by first | omega | exact pw_g_lt) (by decide +kernel) (by decide) (fun h40 => ?_) (fun h40 => ?_)
        · refine pw_blk (pc' := 62) [.iconst 0, .istore 4, .iconst 0, .istore 5] (by decide +kernel) ?_
          show pw_V x m_X8_as 2 Z 62 [(5, .int (nI 0)), (4, .int (nI 0)), (3, .int (nI (pw_g A 7 j5))), (0, .ref 26), (1, .int (nI j5)), (2, .int (nI j17))] [] mm
          refine pw_lvp [3, 4, 5, 1, 0] rfl ?_
          rw [show nI 0 = nI (pw_ob (fun s => pw_fnow A j5 s) 0) from rfl]
          suffices lo : ∀ ix : Nat, ix ≤ pw_n A → pw_V x m_X8_as 2 Z 62 [(0, .ref 26), (1, .int (nI j5)), (2, .int (nI j17)), (4, .int (nI (pw_ob (fun s => pw_fnow A j5 s) ix))), (5, .int (nI ix))] [] mm from lo 0 (by omega)
          refine pw_dn (pw_n A) (fun ix hix ih => ?_)
          refine pw_blk (pc' := 68) [.iload 5, .aload 0, .getfield 800] (by decide +kernel) ?_
          show pw_V x m_X8_as 2 Z 68 [(0, .ref 26), (1, .int (nI j5)), (2, .int (nI j17)), (4, .int (nI (pw_ob (fun s => pw_fnow A j5 s) ix))), (5, .int (nI ix))] [.int (mm 26 0), .int (nI ix)] mm
          rw [show mm 26 0 = nI (pw_n A) from mv_n hv hok]
          refine pw_in_ge (tgt := 100) (off := 32) (by first | omega | exact pw_g_lt) (by first | omega | exact pw_g_lt) (by decide +kernel) (by decide) (fun h68 => ?_) (fun h68 => ?_)
          · refine pw_blk (pc' := 102) [.iload 4] (by decide +kernel) ?_
            show pw_V x m_X8_as 2 Z 102 [(0, .ref 26), (1, .int (nI j5)), (2, .int (nI j17)), (4, .int (nI (pw_ob (fun s => pw_fnow A j5 s) ix))), (5, .int (nI ix))] [.int (nI (pw_ob (fun s => pw_fnow A j5 s) ix))] mm
            rw [← hZ]
            refine pw_ri (by decide +kernel) ?_
            refine ⟨?_, rfl⟩
            unfold F_as
            rw [if_pos (show pw_inr (nI j5) (pw_k A) = true from by rw [pw_inr_nI (show j5 < 2 ^ 31 by omega) (show pw_k A < 2 ^ 31 by omega)]; exact decide_eq_true b5)]
            rw [if_pos (show pw_inr (nI j17) 4 = true from by rw [pw_inr_nI (show j17 < 2 ^ 31 by omega) (show 4 < 2 ^ 31 by omega)]; exact decide_eq_true b17), pw_c_nI (show j5 < 2 ^ 31 by omega)]
            have bf := pw_b7 hok (show j5 < 6 by omega)
            rw [pw_ofk_k j17 b17 _ bf]
            rw [if_pos (decide_eq_true (by omega))]
            have e : ix = pw_n A := by omega
            subst e
            rfl
          · refine pw_blk (pc' := 77) [.iload 4, .aload 0, .iload 1, .iload 5] (by decide +kernel) ?_
            show pw_V x m_X8_as 2 Z 77 [(0, .ref 26), (1, .int (nI j5)), (2, .int (nI j17)), (4, .int (nI (pw_ob (fun s => pw_fnow A j5 s) ix))), (5, .int (nI ix))] [.int (nI ix), .int (nI j5), .ref 26, .int (nI (pw_ob (fun s => pw_fnow A j5 s) ix))] mm
            refine pw_cV (vs := [.int (nI j5), .int (nI ix)]) (rest := [.int (nI (pw_ob (fun s => pw_fnow A j5 s) ix))]) k_X8_fits (c_mfits mm hv hok j5 ix (by omega) (by omega)) l_8_189 rfl rfl rfl rfl (by omega) (Nat.le_of_ble_eq_true rfl) (by decide +kernel) ?_
            rintro _ m1 ⟨rfl, e1⟩
            rw [e1]
            clear e1 m1
            show pw_V x m_X8_as 2 Z 80 [(0, .ref 26), (1, .int (nI j5)), (2, .int (nI j17)), (4, .int (nI (pw_ob (fun s => pw_fnow A j5 s) ix))), (5, .int (nI ix))] [.int (pw_b (pw_fnow A j5 ix)), .int (nI (pw_ob (fun s => pw_fnow A j5 s) ix))] mm
            refine pw_ib_eq (tgt := 90) (off := 10) (by decide +kernel) (by decide) (fun h80 => ?_) (fun h80 => ?_)
            · refine pw_blk (pc' := 97) [.iconst 0, .ior, .istore 4, .iinc 5 1] (by decide +kernel) ?_
              show pw_V x m_X8_as 2 Z 97 [(5, .int ((nI ix) + (nI 1))), (4, .int ((nI (pw_ob (fun s => pw_fnow A j5 s) ix)) ||| (nI 0))), (0, .ref 26), (1, .int (nI j5)), (2, .int (nI j17))] [] mm
              rw [show (nI ix) + (nI 1) = nI (ix + 1) from nI_add _ _]
              rw [show (nI (pw_ob (fun s => pw_fnow A j5 s) ix)) ||| (nI 0) = nI ((pw_ob (fun s => pw_fnow A j5 s) ix) ||| 0) from fa_or _ _]
              refine pw_goto (tgt := 62) (off := -35) (by decide +kernel) (by decide) ?_
              rw [show nI ((pw_ob (fun s => pw_fnow A j5 s) ix) ||| 0) = nI (pw_ob (fun s => pw_fnow A j5 s) (ix + 1)) from by simp [pw_ob, h5, h17, h33, h40, h68, h80]]
              refine pw_lvp [2, 3, 4, 1, 0] rfl ?_
              exact ih (by omega)
            · refine pw_blk (pc' := 87) [.iconst 1, .iload 5, .ishl] (by decide +kernel) ?_
              show pw_V x m_X8_as 2 Z 87 [(0, .ref 26), (1, .int (nI j5)), (2, .int (nI j17)), (4, .int (nI (pw_ob (fun s => pw_fnow A j5 s) ix))), (5, .int (nI ix))] [.int ((nI 1) <<< ((nI ix) &&& 31)), .int (nI (pw_ob (fun s => pw_fnow A j5 s) ix))] mm
              rw [show (nI 1) <<< ((nI ix) &&& 31) = nI (2 ^ ix) from pw_shl1 (by first | omega | exact pw_g_lt)]
              refine pw_goto (tgt := 91) (off := 4) (by decide +kernel) (by decide) ?_
              refine pw_blk (pc' := 97) [.ior, .istore 4, .iinc 5 1] (by decide +kernel) ?_
              show pw_V x m_X8_as 2 Z 97 [(5, .int ((nI ix) + (nI 1))), (4, .int ((nI (pw_ob (fun s => pw_fnow A j5 s) ix)) ||| (nI (2 ^ ix)))), (0, .ref 26), (1, .int (nI j5)), (2, .int (nI j17))] [] mm
              rw [show (nI ix) + (nI 1) = nI (ix + 1) from nI_add _ _]
              rw [show (nI (pw_ob (fun s => pw_fnow A j5 s) ix)) ||| (nI (2 ^ ix)) = nI ((pw_ob (fun s => pw_fnow A j5 s) ix) ||| (2 ^ ix)) from fa_or _ _]
              refine pw_goto (tgt := 62) (off := -35) (by decide +kernel) (by decide) ?_
              rw [show nI ((pw_ob (fun s => pw_fnow A j5 s) ix) ||| (2 ^ ix)) = nI (pw_ob (fun s => pw_fnow A j5 s) (ix + 1)) from by simp [pw_ob, h5, h17, h33, h40, h68, h80]]
              refine pw_lvp [2, 3, 4, 1, 0] rfl ?_
              exact ih (by omega)
        · refine pw_blk (pc' := 45) [.iload 2, .iconst 1] (by decide +kernel) ?_
          show pw_V x m_X8_as 2 Z 45 [(3, .int (nI (pw_g A 7 j5))), (0, .ref 26), (1, .int (nI j5)), (2, .int (nI j17))] [.int (nI 1), .int (nI j17)] mm
          refine pw_in_ne (tgt := 53) (off := 8) (by first | omega | exact pw_g_lt) (by first | omega | exact pw_g_lt) (by decide +kernel) (by decide) (fun h45 => ?_) (fun h45 => ?_)
          · refine pw_blk (pc' := 55) [.iconst (-4)] (by decide +kernel) ?_
            show pw_V x m_X8_as 2 Z 55 [(3, .int (nI (pw_g A 7 j5))), (0, .ref 26), (1, .int (nI j5)), (2, .int (nI j17))] [.int (-4)] mm
            rw [← hZ]
            refine pw_ri (by decide +kernel) ?_
            refine ⟨?_, rfl⟩
            unfold F_as
            rw [if_pos (show pw_inr (nI j5) (pw_k A) = true from by rw [pw_inr_nI (show j5 < 2 ^ 31 by omega) (show pw_k A < 2 ^ 31 by omega)]; exact decide_eq_true b5)]
            rw [if_pos (show pw_inr (nI j17) 4 = true from by rw [pw_inr_nI (show j17 < 2 ^ 31 by omega) (show 4 < 2 ^ 31 by omega)]; exact decide_eq_true b17), pw_c_nI (show j5 < 2 ^ 31 by omega)]
            have bf := pw_b7 hok (show j5 < 6 by omega)
            rw [pw_ofk_k j17 b17 _ bf]
            rw [if_neg (fun z => absurd (of_decide_eq_true z) (by omega))]
          · refine pw_blk (pc' := 50) [.iload 3, .iconst 2] (by decide +kernel) ?_
            show pw_V x m_X8_as 2 Z 50 [(3, .int (nI (pw_g A 7 j5))), (0, .ref 26), (1, .int (nI j5)), (2, .int (nI j17))] [.int (nI 2), .int (nI (pw_g A 7 j5))] mm
            refine pw_in_eq (tgt := 56) (off := 6) (by first | omega | exact pw_g_lt) (by first | omega | exact pw_g_lt) (by decide +kernel) (by decide) (fun h50 => ?_) (fun h50 => ?_)
            · refine pw_blk (pc' := 62) [.iconst 0, .istore 4, .iconst 0, .istore 5] (by decide +kernel) ?_
              show pw_V x m_X8_as 2 Z 62 [(5, .int (nI 0)), (4, .int (nI 0)), (3, .int (nI (pw_g A 7 j5))), (0, .ref 26), (1, .int (nI j5)), (2, .int (nI j17))] [] mm
              refine pw_lvp [3, 4, 5, 1, 0] rfl ?_
              rw [show nI 0 = nI (pw_ob (fun s => pw_fnow A j5 s) 0) from rfl]
              suffices lo : ∀ ix : Nat, ix ≤ pw_n A → pw_V x m_X8_as 2 Z 62 [(0, .ref 26), (1, .int (nI j5)), (2, .int (nI j17)), (4, .int (nI (pw_ob (fun s => pw_fnow A j5 s) ix))), (5, .int (nI ix))] [] mm from lo 0 (by omega)
              refine pw_dn (pw_n A) (fun ix hix ih => ?_)
              refine pw_blk (pc' := 68) [.iload 5, .aload 0, .getfield 800] (by decide +kernel) ?_
              show pw_V x m_X8_as 2 Z 68 [(0, .ref 26), (1, .int (nI j5)), (2, .int (nI j17)), (4, .int (nI (pw_ob (fun s => pw_fnow A j5 s) ix))), (5, .int (nI ix))] [.int (mm 26 0), .int (nI ix)] mm
              rw [show mm 26 0 = nI (pw_n A) from mv_n hv hok]
              refine pw_in_ge (tgt := 100) (off := 32) (by first | omega | exact pw_g_lt) (by first | omega | exact pw_g_lt) (by decide +kernel) (by decide) (fun h68 => ?_) (fun h68 => ?_)
              · refine pw_blk (pc' := 102) [.iload 4] (by decide +kernel) ?_
                show pw_V x m_X8_as 2 Z 102 [(0, .ref 26), (1, .int (nI j5)), (2, .int (nI j17)), (4, .int (nI (pw_ob (fun s => pw_fnow A j5 s) ix))), (5, .int (nI ix))] [.int (nI (pw_ob (fun s => pw_fnow A j5 s) ix))] mm
                rw [← hZ]
                refine pw_ri (by decide +kernel) ?_
                refine ⟨?_, rfl⟩
                unfold F_as
                rw [if_pos (show pw_inr (nI j5) (pw_k A) = true from by rw [pw_inr_nI (show j5 < 2 ^ 31 by omega) (show pw_k A < 2 ^ 31 by omega)]; exact decide_eq_true b5)]
                rw [if_pos (show pw_inr (nI j17) 4 = true from by rw [pw_inr_nI (show j17 < 2 ^ 31 by omega) (show 4 < 2 ^ 31 by omega)]; exact decide_eq_true b17), pw_c_nI (show j5 < 2 ^ 31 by omega)]
                have bf := pw_b7 hok (show j5 < 6 by omega)
                rw [pw_ofk_k j17 b17 _ bf]
                rw [if_pos (decide_eq_true (by omega))]
                have e : ix = pw_n A := by omega
                subst e
                rfl
              · refine pw_blk (pc' := 77) [.iload 4, .aload 0, .iload 1, .iload 5] (by decide +kernel) ?_
                show pw_V x m_X8_as 2 Z 77 [(0, .ref 26), (1, .int (nI j5)), (2, .int (nI j17)), (4, .int (nI (pw_ob (fun s => pw_fnow A j5 s) ix))), (5, .int (nI ix))] [.int (nI ix), .int (nI j5), .ref 26, .int (nI (pw_ob (fun s => pw_fnow A j5 s) ix))] mm
                refine pw_cV (vs := [.int (nI j5), .int (nI ix)]) (rest := [.int (nI (pw_ob (fun s => pw_fnow A j5 s) ix))]) k_X8_fits (c_mfits mm hv hok j5 ix (by omega) (by omega)) l_8_189 rfl rfl rfl rfl (by omega) (Nat.le_of_ble_eq_true rfl) (by decide +kernel) ?_
                rintro _ m1 ⟨rfl, e1⟩
                rw [e1]
                clear e1 m1
                show pw_V x m_X8_as 2 Z 80 [(0, .ref 26), (1, .int (nI j5)), (2, .int (nI j17)), (4, .int (nI (pw_ob (fun s => pw_fnow A j5 s) ix))), (5, .int (nI ix))] [.int (pw_b (pw_fnow A j5 ix)), .int (nI (pw_ob (fun s => pw_fnow A j5 s) ix))] mm
                refine pw_ib_eq (tgt := 90) (off := 10) (by decide +kernel) (by decide) (fun h80 => ?_) (fun h80 => ?_)
                · refine pw_blk (pc' := 97) [.iconst 0, .ior, .istore 4, .iinc 5 1] (by decide +kernel) ?_
                  show pw_V x m_X8_as 2 Z 97 [(5, .int ((nI ix) + (nI 1))), (4, .int ((nI (pw_ob (fun s => pw_fnow A j5 s) ix)) ||| (nI 0))), (0, .ref 26), (1, .int (nI j5)), (2, .int (nI j17))] [] mm
                  rw [show (nI ix) + (nI 1) = nI (ix + 1) from nI_add _ _]
                  rw [show (nI (pw_ob (fun s => pw_fnow A j5 s) ix)) ||| (nI 0) = nI ((pw_ob (fun s => pw_fnow A j5 s) ix) ||| 0) from fa_or _ _]
                  refine pw_goto (tgt := 62) (off := -35) (by decide +kernel) (by decide) ?_
                  rw [show nI ((pw_ob (fun s => pw_fnow A j5 s) ix) ||| 0) = nI (pw_ob (fun s => pw_fnow A j5 s) (ix + 1)) from by simp [pw_ob, h5, h17, h33, h40, h45, h50, h68, h80]]
                  refine pw_lvp [2, 3, 4, 1, 0] rfl ?_
                  exact ih (by omega)
                · refine pw_blk (pc' := 87) [.iconst 1, .iload 5, .ishl] (by decide +kernel) ?_
                  show pw_V x m_X8_as 2 Z 87 [(0, .ref 26), (1, .int (nI j5)), (2, .int (nI j17)), (4, .int (nI (pw_ob (fun s => pw_fnow A j5 s) ix))), (5, .int (nI ix))] [.int ((nI 1) <<< ((nI ix) &&& 31)), .int (nI (pw_ob (fun s => pw_fnow A j5 s) ix))] mm
                  rw [show (nI 1) <<< ((nI ix) &&& 31) = nI (2 ^ ix) from pw_shl1 (by first | omega | exact pw_g_lt)]
                  refine pw_goto (tgt := 91) (off := 4) (by decide +kernel) (by decide) ?_
                  refine pw_blk (pc' := 97) [.ior, .istore 4, .iinc 5 1] (by decide +kernel) ?_
                  show pw_V x m_X8_as 2 Z 97 [(5, .int ((nI ix) + (nI 1))), (4, .int ((nI (pw_ob (fun s => pw_fnow A j5 s) ix)) ||| (nI (2 ^ ix)))), (0, .ref 26), (1, .int (nI j5)), (2, .int (nI j17))] [] mm
                  rw [show (nI ix) + (nI 1) = nI (ix + 1) from nI_add _ _]
                  rw [show (nI (pw_ob (fun s => pw_fnow A j5 s) ix)) ||| (nI (2 ^ ix)) = nI ((pw_ob (fun s => pw_fnow A j5 s) ix) ||| (2 ^ ix)) from fa_or _ _]
                  refine pw_goto (tgt := 62) (off := -35) (by decide +kernel) (by decide) ?_
                  rw [show nI ((pw_ob (fun s => pw_fnow A j5 s) ix) ||| (2 ^ ix)) = nI (pw_ob (fun s => pw_fnow A j5 s) (ix + 1)) from by simp [pw_ob, h5, h17, h33, h40, h45, h50, h68, h80]]
                  refine pw_lvp [2, 3, 4, 1, 0] rfl ?_
                  exact ih (by omega)
            · refine pw_blk (pc' := 55) [.iconst (-4)] (by decide +kernel) ?_
              show pw_V x m_X8_as 2 Z 55 [(3, .int (nI (pw_g A 7 j5))), (0, .ref 26), (1, .int (nI j5)), (2, .int (nI j17))] [.int (-4)] mm
              rw [← hZ]
              refine pw_ri (by decide +kernel) ?_
              refine ⟨?_, rfl⟩
              unfold F_as
              rw [if_pos (show pw_inr (nI j5) (pw_k A) = true from by rw [pw_inr_nI (show j5 < 2 ^ 31 by omega) (show pw_k A < 2 ^ 31 by omega)]; exact decide_eq_true b5)]
              rw [if_pos (show pw_inr (nI j17) 4 = true from by rw [pw_inr_nI (show j17 < 2 ^ 31 by omega) (show 4 < 2 ^ 31 by omega)]; exact decide_eq_true b17), pw_c_nI (show j5 < 2 ^ 31 by omega)]
              have bf := pw_b7 hok (show j5 < 6 by omega)
              rw [pw_ofk_k j17 b17 _ bf]
              rw [if_neg (fun z => absurd (of_decide_eq_true z) (by omega))]
    · refine pw_blk (pc' := 22) [.iconst (-3)] (by decide +kernel) ?_
      show pw_V x m_X8_as 2 Z 22 [(0, .ref 26), (1, .int (nI j5)), (2, .int q)] [.int (-3)] mm
      rw [← hZ]
      refine pw_ri (by decide +kernel) ?_
      refine ⟨?_, rfl⟩
      unfold F_as
      rw [if_pos (show pw_inr (nI j5) (pw_k A) = true from by rw [pw_inr_nI (show j5 < 2 ^ 31 by omega) (show pw_k A < 2 ^ 31 by omega)]; exact decide_eq_true b5)]
      rw [if_neg (by rw [h17]; decide)]
  · refine pw_blk (pc' := 10) [.iconst (-2)] (by decide +kernel) ?_
    show pw_V x m_X8_as 2 Z 10 [(0, .ref 26), (1, .int s), (2, .int q)] [.int (-2)] mm
    rw [← hZ]
    refine pw_ri (by decide +kernel) ?_
    refine ⟨?_, rfl⟩
    unfold F_as
    rw [if_neg (by rw [h5]; decide)]

set_option maxHeartbeats 4000000 in
set_option maxRecDepth 100000 in
theorem c_mseatAs {A : pw_m} (mm : pw_m) (hv : MV A mm) (hok : pw_ok A) (s q : Int32) : pw_Ct 3 yX8_seatAs m_X8_seatAs [.ref 26, .int s, .int q] mm (fun r m' => r = some (.int (F_seatAs A s q)) ∧ m' = mm) := by
  refine pw_ct (by decide +kernel) rfl (Nat.le_of_ble_eq_true rfl) (fun x => ?_)
  generalize hZ : pw_Z x _ = Z
  have bn := pw_bn hok
  have bk := pw_bk hok
  show pw_V x m_X8_seatAs 3 Z 0 [(0, .ref 26), (1, .int s), (2, .int q)] [] mm
  refine pw_blk (pc' := 2) [.aload 0, .iload 1] (by decide +kernel) ?_
  show pw_V x m_X8_seatAs 3 Z 2 [(0, .ref 26), (1, .int s), (2, .int q)] [.int s, .ref 26] mm
  refine pw_cV (vs := [.int s]) (rest := []) k_X8_isSeat (c_misSeat mm hv hok s) l_8_195 rfl rfl rfl rfl (by omega) (Nat.le_of_ble_eq_true rfl) (by decide +kernel) ?_
  rintro _ m1 ⟨rfl, e1⟩
  rw [e1]
  clear e1 m1
  show pw_V x m_X8_seatAs 3 Z 5 [(0, .ref 26), (1, .int s), (2, .int q)] [.int (pw_b (pw_inr s (pw_n A)))] mm
  refine pw_ib_ne (tgt := 11) (off := 6) (by decide +kernel) (by decide) (fun h5 => ?_) (fun h5 => ?_)
  · obtain ⟨j5, b5, e5⟩ := pw_inr_t (by omega) h5
    subst e5
    refine pw_blk (pc' := 14) [.iload 2, .iconst 0, .iconst 5] (by decide +kernel) ?_
    show pw_V x m_X8_seatAs 3 Z 14 [(0, .ref 26), (1, .int (nI j5)), (2, .int q)] [.int (nI 5), .int (nI 0), .int q] mm
    refine pw_cS (vs := [.int q, .int (nI 0), .int (nI 5)]) (rest := []) k_X8_in (c_in0 q 5 mm (by first | omega | exact pw_g_lt)) l_8_78 rfl (by omega) (Nat.le_of_ble_eq_true rfl) (by decide +kernel) ?_
    rintro _ m1 ⟨rfl, e1⟩
    rw [e1]
    clear e1 m1
    show pw_V x m_X8_seatAs 3 Z 17 [(0, .ref 26), (1, .int (nI j5)), (2, .int q)] [.int (pw_b (pw_inr q 6))] mm
    refine pw_ib_ne (tgt := 23) (off := 6) (by decide +kernel) (by decide) (fun h17 => ?_) (fun h17 => ?_)
    · obtain ⟨j17, b17, e17⟩ := pw_inr_t (by omega) h17
      subst e17
      have bf0 := pw_b5 hok (show j5 < 8 by omega)
      refine pw_blk (pc' := 33) [.aload 0, .getfield 801, .iconst 2, .iload 1, .imul, .iaload, .istore 3, .iload 2] (by decide +kernel) ?_
      refine ⟨(2 * j5), (show (nI 2) * (nI j5) = nI (2 * j5) from by rw [show (nI 2) * (nI j5) = nI (2 * j5) from pk_mul _ _]), by first | omega | exact pw_g_lt, ?_⟩
      show pw_V x m_X8_seatAs 3 Z 33 [(3, .int (mm 27 (2 * j5))), (0, .ref 26), (1, .int (nI j5)), (2, .int (nI j17))] [.int (nI j17)] mm
      rw [show mm 27 (2 * j5) = nI (pw_g A 5 j5) from mv_nk hv hok (s := j5) (by omega)]
      refine pw_iz_eq (tgt := 60) (off := 27) (by first | omega | exact pw_g_lt) (by decide +kernel) (by decide) (fun h33 => ?_) (fun h33 => ?_)
      · refine pw_blk (pc' := 66) [.iconst 0, .istore 4, .iconst 0, .istore 5] (by decide +kernel) ?_
        show pw_V x m_X8_seatAs 3 Z 66 [(5, .int (nI 0)), (4, .int (nI 0)), (3, .int (nI (pw_g A 5 j5))), (0, .ref 26), (1, .int (nI j5)), (2, .int (nI j17))] [] mm
        refine pw_lvp [3, 4, 5, 1, 0] rfl ?_
        rw [show nI 0 = nI (pw_ob (fun k => (pw_g A 42 1).testBit k && pw_fnow A k j5) 0) from rfl]
        suffices lo : ∀ ix : Nat, ix ≤ pw_k A → pw_V x m_X8_seatAs 3 Z 66 [(0, .ref 26), (1, .int (nI j5)), (2, .int (nI j17)), (4, .int (nI (pw_ob (fun k => (pw_g A 42 1).testBit k && pw_fnow A k j5) ix))), (5, .int (nI ix))] [] mm from lo 0 (by omega)
        refine pw_dn (pw_k A) (fun ix hix ih => ?_)
        refine pw_blk (pc' := 72) [.iload 5, .aload 0, .getfield 802] (by decide +kernel) ?_
        show pw_V x m_X8_seatAs 3 Z 72 [(0, .ref 26), (1, .int (nI j5)), (2, .int (nI j17)), (4, .int (nI (pw_ob (fun k => (pw_g A 42 1).testBit k && pw_fnow A k j5) ix))), (5, .int (nI ix))] [.int (mm 26 2), .int (nI ix)] mm
        rw [show mm 26 2 = nI (pw_k A) from mv_k hv hok]
        refine pw_in_ge (tgt := 113) (off := 41) (by first | omega | exact pw_g_lt) (by first | omega | exact pw_g_lt) (by decide +kernel) (by decide) (fun h72 => ?_) (fun h72 => ?_)
        · refine pw_blk (pc' := 115) [.iload 4] (by decide +kernel) ?_
          show pw_V x m_X8_seatAs 3 Z 115 [(0, .ref 26), (1, .int (nI j5)), (2, .int (nI j17)), (4, .int (nI (pw_ob (fun k => (pw_g A 42 1).testBit k && pw_fnow A k j5) ix))), (5, .int (nI ix))] [.int (nI (pw_ob (fun k => (pw_g A 42 1).testBit k && pw_fnow A k j5) ix))] mm
          rw [← hZ]
          refine pw_ri (by decide +kernel) ?_
          refine ⟨?_, rfl⟩
          unfold F_seatAs
          rw [if_pos (show pw_inr (nI j5) (pw_n A) = true from by rw [pw_inr_nI (show j5 < 2 ^ 31 by omega) (show pw_n A < 2 ^ 31 by omega)]; exact decide_eq_true b5)]
          rw [if_pos (show pw_inr (nI j17) 6 = true from by rw [pw_inr_nI (show j17 < 2 ^ 31 by omega) (show 6 < 2 ^ 31 by omega)]; exact decide_eq_true b17), pw_c_nI (show j5 < 2 ^ 31 by omega)]
          have bf := pw_b5 hok (show j5 < 8 by omega)
          rw [pw_ofk_n j17 b17 _ bf]
          rw [if_pos (decide_eq_true (by omega))]
          have e : ix = pw_k A := by omega
          subst e
          rfl
        · refine pw_blk (pc' := 80) [.iload 4, .aload 0, .iload 5] (by decide +kernel) ?_
          show pw_V x m_X8_seatAs 3 Z 80 [(0, .ref 26), (1, .int (nI j5)), (2, .int (nI j17)), (4, .int (nI (pw_ob (fun k => (pw_g A 42 1).testBit k && pw_fnow A k j5) ix))), (5, .int (nI ix))] [.int (nI ix), .ref 26, .int (nI (pw_ob (fun k => (pw_g A 42 1).testBit k && pw_fnow A k j5) ix))] mm
          refine pw_cV (vs := [.int (nI ix)]) (rest := [.int (nI (pw_ob (fun k => (pw_g A 42 1).testBit k && pw_fnow A k j5) ix))]) k_X8_isThere (c_mThere mm hv hok ix (by omega)) l_8_201 rfl rfl rfl rfl (by omega) (Nat.le_of_ble_eq_true rfl) (by decide +kernel) ?_
          rintro _ m1 ⟨rfl, e1⟩
          rw [e1]
          clear e1 m1
          show pw_V x m_X8_seatAs 3 Z 83 [(0, .ref 26), (1, .int (nI j5)), (2, .int (nI j17)), (4, .int (nI (pw_ob (fun k => (pw_g A 42 1).testBit k && pw_fnow A k j5) ix))), (5, .int (nI ix))] [.int (pw_b ((pw_g A 42 1).testBit ix)), .int (nI (pw_ob (fun k => (pw_g A 42 1).testBit k && pw_fnow A k j5) ix))] mm
          refine pw_ib_eq (tgt := 103) (off := 20) (by decide +kernel) (by decide) (fun h83 => ?_) (fun h83 => ?_)
          · refine pw_blk (pc' := 110) [.iconst 0, .ior, .istore 4, .iinc 5 1] (by decide +kernel) ?_
            show pw_V x m_X8_seatAs 3 Z 110 [(5, .int ((nI ix) + (nI 1))), (4, .int ((nI (pw_ob (fun k => (pw_g A 42 1).testBit k && pw_fnow A k j5) ix)) ||| (nI 0))), (0, .ref 26), (1, .int (nI j5)), (2, .int (nI j17))] [] mm
            rw [show (nI ix) + (nI 1) = nI (ix + 1) from nI_add _ _]
            rw [show (nI (pw_ob (fun k => (pw_g A 42 1).testBit k && pw_fnow A k j5) ix)) ||| (nI 0) = nI ((pw_ob (fun k => (pw_g A 42 1).testBit k && pw_fnow A k j5) ix) ||| 0) from fa_or _ _]
            refine pw_goto (tgt := 66) (off := -44) (by decide +kernel) (by decide) ?_
            rw [show nI ((pw_ob (fun k => (pw_g A 42 1).testBit k && pw_fnow A k j5) ix) ||| 0) = nI (pw_ob (fun k => (pw_g A 42 1).testBit k && pw_fnow A k j5) (ix + 1)) from by simp [pw_ob, h5, h17, h33, h72, h83]]
            refine pw_lvp [2, 3, 4, 1, 0] rfl ?_
            exact ih (by omega)
          · refine pw_blk (pc' := 90) [.aload 0, .iload 5, .iload 1] (by decide +kernel) ?_
            show pw_V x m_X8_seatAs 3 Z 90 [(0, .ref 26), (1, .int (nI j5)), (2, .int (nI j17)), (4, .int (nI (pw_ob (fun k => (pw_g A 42 1).testBit k && pw_fnow A k j5) ix))), (5, .int (nI ix))] [.int (nI j5), .int (nI ix), .ref 26, .int (nI (pw_ob (fun k => (pw_g A 42 1).testBit k && pw_fnow A k j5) ix))] mm
            refine pw_cV (vs := [.int (nI ix), .int (nI j5)]) (rest := [.int (nI (pw_ob (fun k => (pw_g A 42 1).testBit k && pw_fnow A k j5) ix))]) k_X8_fits (c_mfits mm hv hok ix j5 (by omega) (by omega)) l_8_189 rfl rfl rfl rfl (by omega) (Nat.le_of_ble_eq_true rfl) (by decide +kernel) ?_
            rintro _ m1 ⟨rfl, e1⟩
            rw [e1]
            clear e1 m1
            show pw_V x m_X8_seatAs 3 Z 93 [(0, .ref 26), (1, .int (nI j5)), (2, .int (nI j17)), (4, .int (nI (pw_ob (fun k => (pw_g A 42 1).testBit k && pw_fnow A k j5) ix))), (5, .int (nI ix))] [.int (pw_b (pw_fnow A ix j5)), .int (nI (pw_ob (fun k => (pw_g A 42 1).testBit k && pw_fnow A k j5) ix))] mm
            refine pw_ib_eq (tgt := 103) (off := 10) (by decide +kernel) (by decide) (fun h93 => ?_) (fun h93 => ?_)
            · refine pw_blk (pc' := 110) [.iconst 0, .ior, .istore 4, .iinc 5 1] (by decide +kernel) ?_
              show pw_V x m_X8_seatAs 3 Z 110 [(5, .int ((nI ix) + (nI 1))), (4, .int ((nI (pw_ob (fun k => (pw_g A 42 1).testBit k && pw_fnow A k j5) ix)) ||| (nI 0))), (0, .ref 26), (1, .int (nI j5)), (2, .int (nI j17))] [] mm
              rw [show (nI ix) + (nI 1) = nI (ix + 1) from nI_add _ _]
              rw [show (nI (pw_ob (fun k => (pw_g A 42 1).testBit k && pw_fnow A k j5) ix)) ||| (nI 0) = nI ((pw_ob (fun k => (pw_g A 42 1).testBit k && pw_fnow A k j5) ix) ||| 0) from fa_or _ _]
              refine pw_goto (tgt := 66) (off := -44) (by decide +kernel) (by decide) ?_
              rw [show nI ((pw_ob (fun k => (pw_g A 42 1).testBit k && pw_fnow A k j5) ix) ||| 0) = nI (pw_ob (fun k => (pw_g A 42 1).testBit k && pw_fnow A k j5) (ix + 1)) from by simp [pw_ob, h5, h17, h33, h72, h83, h93]]
              refine pw_lvp [2, 3, 4, 1, 0] rfl ?_
              exact ih (by omega)
            · refine pw_blk (pc' := 100) [.iconst 1, .iload 5, .ishl] (by decide +kernel) ?_
              show pw_V x m_X8_seatAs 3 Z 100 [(0, .ref 26), (1, .int (nI j5)), (2, .int (nI j17)), (4, .int (nI (pw_ob (fun k => (pw_g A 42 1).testBit k && pw_fnow A k j5) ix))), (5, .int (nI ix))] [.int ((nI 1) <<< ((nI ix) &&& 31)), .int (nI (pw_ob (fun k => (pw_g A 42 1).testBit k && pw_fnow A k j5) ix))] mm
              rw [show (nI 1) <<< ((nI ix) &&& 31) = nI (2 ^ ix) from pw_shl1 (by first | omega | exact pw_g_lt)]
              refine pw_goto (tgt := 104) (off := 4) (by decide +kernel) (by decide) ?_
              refine pw_blk (pc' := 110) [.ior, .istore 4, .iinc 5 1] (by decide +kernel) ?_
              show pw_V x m_X8_seatAs 3 Z 110 [(5, .int ((nI ix) + (nI 1))), (4, .int ((nI (pw_ob (fun k => (pw_g A 42 1).testBit k && pw_fnow A k j5) ix)) ||| (nI (2 ^ ix)))), (0, .ref 26), (1, .int (nI j5)), (2, .int (nI j17))] [] mm
              rw [show (nI ix) + (nI 1) = nI (ix + 1) from nI_add _ _]
              rw [show (nI (pw_ob (fun k => (pw_g A 42 1).testBit k && pw_fnow A k j5) ix)) ||| (nI (2 ^ ix)) = nI ((pw_ob (fun k => (pw_g A 42 1).testBit k && pw_fnow A k j5) ix) ||| (2 ^ ix)) from fa_or _ _]
              refine pw_goto (tgt := 66) (off := -44) (by decide +kernel) (by decide) ?_
              rw [show nI ((pw_ob (fun k => (pw_g A 42 1).testBit k && pw_fnow A k j5) ix) ||| (2 ^ ix)) = nI (pw_ob (fun k => (pw_g A 42 1).testBit k && pw_fnow A k j5) (ix + 1)) from by simp [pw_ob, h5, h17, h33, h72, h83, h93]]
              refine pw_lvp [2, 3, 4, 1, 0] rfl ?_
              exact ih (by omega)
      · refine pw_blk (pc' := 40) [.iload 2, .iload 3, .iconst 1, .iadd] (by decide +kernel) ?_
        show pw_V x m_X8_seatAs 3 Z 40 [(3, .int (nI (pw_g A 5 j5))), (0, .ref 26), (1, .int (nI j5)), (2, .int (nI j17))] [.int ((nI (pw_g A 5 j5)) + (nI 1)), .int (nI j17)] mm
        rw [show (nI (pw_g A 5 j5)) + (nI 1) = nI ((pw_g A 5 j5) + 1) from nI_add _ _]
        refine pw_in_eq (tgt := 60) (off := 20) (by first | omega | exact pw_g_lt) (by first | omega | exact pw_g_lt) (by decide +kernel) (by decide) (fun h40 => ?_) (fun h40 => ?_)
        · refine pw_blk (pc' := 66) [.iconst 0, .istore 4, .iconst 0, .istore 5] (by decide +kernel) ?_
          show pw_V x m_X8_seatAs 3 Z 66 [(5, .int (nI 0)), (4, .int (nI 0)), (3, .int (nI (pw_g A 5 j5))), (0, .ref 26), (1, .int (nI j5)), (2, .int (nI j17))] [] mm
          refine pw_lvp [3, 4, 5, 1, 0] rfl ?_
          rw [show nI 0 = nI (pw_ob (fun k => (pw_g A 42 1).testBit k && pw_fnow A k j5) 0) from rfl]
          suffices lo : ∀ ix : Nat, ix ≤ pw_k A → pw_V x m_X8_seatAs 3 Z 66 [(0, .ref 26), (1, .int (nI j5)), (2, .int (nI j17)), (4, .int (nI (pw_ob (fun k => (pw_g A 42 1).testBit k && pw_fnow A k j5) ix))), (5, .int (nI ix))] [] mm from lo 0 (by omega)
          refine pw_dn (pw_k A) (fun ix hix ih => ?_)
          refine pw_blk (pc' := 72) [.iload 5, .aload 0, .getfield 802] (by decide +kernel) ?_
          show pw_V x m_X8_seatAs 3 Z 72 [(0, .ref 26), (1, .int (nI j5)), (2, .int (nI j17)), (4, .int (nI (pw_ob (fun k => (pw_g A 42 1).testBit k && pw_fnow A k j5) ix))), (5, .int (nI ix))] [.int (mm 26 2), .int (nI ix)] mm
          rw [show mm 26 2 = nI (pw_k A) from mv_k hv hok]
          refine pw_in_ge (tgt := 113) (off := 41) (by first | omega | exact pw_g_lt) (by first | omega | exact pw_g_lt) (by decide +kernel) (by decide) (fun h72 => ?_) (fun h72 => ?_)
          · refine pw_blk (pc' := 115) [.iload 4] (by decide +kernel) ?_
            show pw_V x m_X8_seatAs 3 Z 115 [(0, .ref 26), (1, .int (nI j5)), (2, .int (nI j17)), (4, .int (nI (pw_ob (fun k => (pw_g A 42 1).testBit k && pw_fnow A k j5) ix))), (5, .int (nI ix))] [.int (nI (pw_ob (fun k => (pw_g A 42 1).testBit k && pw_fnow A k j5) ix))] mm
            rw [← hZ]
            refine pw_ri (by decide +kernel) ?_
            refine ⟨?_, rfl⟩
            unfold F_seatAs
            rw [if_pos (show pw_inr (nI j5) (pw_n A) = true from by rw [pw_inr_nI (show j5 < 2 ^ 31 by omega) (show pw_n A < 2 ^ 31 by omega)]; exact decide_eq_true b5)]
            rw [if_pos (show pw_inr (nI j17) 6 = true from by rw [pw_inr_nI (show j17 < 2 ^ 31 by omega) (show 6 < 2 ^ 31 by omega)]; exact decide_eq_true b17), pw_c_nI (show j5 < 2 ^ 31 by omega)]
            have bf := pw_b5 hok (show j5 < 8 by omega)
            rw [pw_ofk_n j17 b17 _ bf]
            rw [if_pos (decide_eq_true (by omega))]
            have e : ix = pw_k A := by omega
            subst e
            rfl
          · refine pw_blk (pc' := 80) [.iload 4, .aload 0, .iload 5] (by decide +kernel) ?_
            show pw_V x m_X8_seatAs 3 Z 80 [(0, .ref 26), (1, .int (nI j5)), (2, .int (nI j17)), (4, .int (nI (pw_ob (fun k => (pw_g A 42 1).testBit k && pw_fnow A k j5) ix))), (5, .int (nI ix))] [.int (nI ix), .ref 26, .int (nI (pw_ob (fun k => (pw_g A 42 1).testBit k && pw_fnow A k j5) ix))] mm
            refine pw_cV (vs := [.int (nI ix)]) (rest := [.int (nI (pw_ob (fun k => (pw_g A 42 1).testBit k && pw_fnow A k j5) ix))]) k_X8_isThere (c_mThere mm hv hok ix (by omega)) l_8_201 rfl rfl rfl rfl (by omega) (Nat.le_of_ble_eq_true rfl) (by decide +kernel) ?_
            rintro _ m1 ⟨rfl, e1⟩
            rw [e1]
            clear e1 m1
            show pw_V x m_X8_seatAs 3 Z 83 [(0, .ref 26), (1, .int (nI j5)), (2, .int (nI j17)), (4, .int (nI (pw_ob (fun k => (pw_g A 42 1).testBit k && pw_fnow A k j5) ix))), (5, .int (nI ix))] [.int (pw_b ((pw_g A 42 1).testBit ix)), .int (nI (pw_ob (fun k => (pw_g A 42 1).testBit k && pw_fnow A k j5) ix))] mm
            refine pw_ib_eq (tgt := 103) (off := 20) (by decide +kernel) (by decide) (fun h83 => ?_) (fun h83 => ?_)
            · refine pw_blk (pc' := 110) [.iconst 0, .ior, .istore 4, .iinc 5 1] (by decide +kernel) ?_
              show pw_V x m_X8_seatAs 3 Z 110 [(5, .int ((nI ix) + (nI 1))), (4, .int ((nI (pw_ob (fun k => (pw_g A 42 1).testBit k && pw_fnow A k j5) ix)) ||| (nI 0))), (0, .ref 26), (1, .int (nI j5)), (2, .int (nI j17))] [] mm
              rw [show (nI ix) + (nI 1) = nI (ix + 1) from nI_add _ _]
              rw [show (nI (pw_ob (fun k => (pw_g A 42 1).testBit k && pw_fnow A k j5) ix)) ||| (nI 0) = nI ((pw_ob (fun k => (pw_g A 42 1).testBit k && pw_fnow A k j5) ix) ||| 0) from fa_or _ _]
              refine pw_goto (tgt := 66) (off := -44) (by decide +kernel) (by decide) ?_
              rw [show nI ((pw_ob (fun k => (pw_g A 42 1).testBit k && pw_fnow A k j5) ix) ||| 0) = nI (pw_ob (fun k => (pw_g A 42 1).testBit k && pw_fnow A k j5) (ix + 1)) from by simp [pw_ob, h5, h17, h33, h40, h72, h83]]
              refine pw_lvp [2, 3, 4, 1, 0] rfl ?_
              exact ih (by omega)
            · refine pw_blk (pc' := 90) [.aload 0, .iload 5, .iload 1] (by decide +kernel) ?_
              show pw_V x m_X8_seatAs 3 Z 90 [(0, .ref 26), (1, .int (nI j5)), (2, .int (nI j17)), (4, .int (nI (pw_ob (fun k => (pw_g A 42 1).testBit k && pw_fnow A k j5) ix))), (5, .int (nI ix))] [.int (nI j5), .int (nI ix), .ref 26, .int (nI (pw_ob (fun k => (pw_g A 42 1).testBit k && pw_fnow A k j5) ix))] mm
              refine pw_cV (vs := [.int (nI ix), .int (nI j5)]) (rest := [.int (nI (pw_ob (fun k => (pw_g A 42 1).testBit k && pw_fnow A k j5) ix))]) k_X8_fits (c_mfits mm hv hok ix j5 (by omega) (by omega)) l_8_189 rfl rfl rfl rfl (by omega) (Nat.le_of_ble_eq_true rfl) (by decide +kernel) ?_
              rintro _ m1 ⟨rfl, e1⟩
              rw [e1]
              clear e1 m1
              show pw_V x m_X8_seatAs 3 Z 93 [(0, .ref 26), (1, .int (nI j5)), (2, .int (nI j17)), (4, .int (nI (pw_ob (fun k => (pw_g A 42 1).testBit k && pw_fnow A k j5) ix))), (5, .int (nI ix))] [.int (pw_b (pw_fnow A ix j5)), .int (nI (pw_ob (fun k => (pw_g A 42 1).testBit k && pw_fnow A k j5) ix))] mm
              refine pw_ib_eq (tgt := 103) (off := 10) (by decide +kernel) (by decide) (fun h93 => ?_) (fun h93 => ?_)
              · refine pw_blk (pc' := 110) [.iconst 0, .ior, .istore 4, .iinc 5 1] (by decide +kernel) ?_
                show pw_V x m_X8_seatAs 3 Z 110 [(5, .int ((nI ix) + (nI 1))), (4, .int ((nI (pw_ob (fun k => (pw_g A 42 1).testBit k && pw_fnow A k j5) ix)) ||| (nI 0))), (0, .ref 26), (1, .int (nI j5)), (2, .int (nI j17))] [] mm
                rw [show (nI ix) + (nI 1) = nI (ix + 1) from nI_add _ _]
                rw [show (nI (pw_ob (fun k => (pw_g A 42 1).testBit k && pw_fnow A k j5) ix)) ||| (nI 0) = nI ((pw_ob (fun k => (pw_g A 42 1).testBit k && pw_fnow A k j5) ix) ||| 0) from fa_or _ _]
                refine pw_goto (tgt := 66) (off := -44) (by decide +kernel) (by decide) ?_
                rw [show nI ((pw_ob (fun k => (pw_g A 42 1).testBit k && pw_fnow A k j5) ix) ||| 0) = nI (pw_ob (fun k => (pw_g A 42 1).testBit k && pw_fnow A k j5) (ix + 1)) from by simp [pw_ob, h5, h17, h33, h40, h72, h83, h93]]
                refine pw_lvp [2, 3, 4, 1, 0] rfl ?_
                exact ih (by omega)
              · refine pw_blk (pc' := 100) [.iconst 1, .iload 5, .ishl] (by decide +kernel) ?_
                show pw_V x m_X8_seatAs 3 Z 100 [(0, .ref 26), (1, .int (nI j5)), (2, .int (nI j17)), (4, .int (nI (pw_ob (fun k => (pw_g A 42 1).testBit k && pw_fnow A k j5) ix))), (5, .int (nI ix))] [.int ((nI 1) <<< ((nI ix) &&& 31)), .int (nI (pw_ob (fun k => (pw_g A 42 1).testBit k && pw_fnow A k j5) ix))] mm
                rw [show (nI 1) <<< ((nI ix) &&& 31) = nI (2 ^ ix) from pw_shl1 (by first | omega | exact pw_g_lt)]
                refine pw_goto (tgt := 104) (off := 4) (by decide +kernel) (by decide) ?_
                refine pw_blk (pc' := 110) [.ior, .istore 4, .iinc 5 1] (by decide +kernel) ?_
                show pw_V x m_X8_seatAs 3 Z 110 [(5, .int ((nI ix) + (nI 1))), (4, .int ((nI (pw_ob (fun k => (pw_g A 42 1).testBit k && pw_fnow A k j5) ix)) ||| (nI (2 ^ ix)))), (0, .ref 26), (1, .int (nI j5)), (2, .int (nI j17))] [] mm
                rw [show (nI ix) + (nI 1) = nI (ix + 1) from nI_add _ _]
                rw [show (nI (pw_ob (fun k => (pw_g A 42 1).testBit k && pw_fnow A k j5) ix)) ||| (nI (2 ^ ix)) = nI ((pw_ob (fun k => (pw_g A 42 1).testBit k && pw_fnow A k j5) ix) ||| (2 ^ ix)) from fa_or _ _]
                refine pw_goto (tgt := 66) (off := -44) (by decide +kernel) (by decide) ?_
                rw [show nI ((pw_ob (fun k => (pw_g A 42 1).testBit k && pw_fnow A k j5) ix) ||| (2 ^ ix)) = nI (pw_ob (fun k => (pw_g A 42 1).testBit k && pw_fnow A k j5) (ix + 1)) from by simp [pw_ob, h5, h17, h33, h40, h72, h83, h93]]
                refine pw_lvp [2, 3, 4, 1, 0] rfl ?_
                exact ih (by omega)
        · refine pw_blk (pc' := 45) [.iload 2, .iconst 1] (by decide +kernel) ?_
          show pw_V x m_X8_seatAs 3 Z 45 [(3, .int (nI (pw_g A 5 j5))), (0, .ref 26), (1, .int (nI j5)), (2, .int (nI j17))] [.int (nI 1), .int (nI j17)] mm
          refine pw_in_ne (tgt := 57) (off := 12) (by first | omega | exact pw_g_lt) (by first | omega | exact pw_g_lt) (by decide +kernel) (by decide) (fun h45 => ?_) (fun h45 => ?_)
          · refine pw_blk (pc' := 59) [.iconst (-4)] (by decide +kernel) ?_
            show pw_V x m_X8_seatAs 3 Z 59 [(3, .int (nI (pw_g A 5 j5))), (0, .ref 26), (1, .int (nI j5)), (2, .int (nI j17))] [.int (-4)] mm
            rw [← hZ]
            refine pw_ri (by decide +kernel) ?_
            refine ⟨?_, rfl⟩
            unfold F_seatAs
            rw [if_pos (show pw_inr (nI j5) (pw_n A) = true from by rw [pw_inr_nI (show j5 < 2 ^ 31 by omega) (show pw_n A < 2 ^ 31 by omega)]; exact decide_eq_true b5)]
            rw [if_pos (show pw_inr (nI j17) 6 = true from by rw [pw_inr_nI (show j17 < 2 ^ 31 by omega) (show 6 < 2 ^ 31 by omega)]; exact decide_eq_true b17), pw_c_nI (show j5 < 2 ^ 31 by omega)]
            have bf := pw_b5 hok (show j5 < 8 by omega)
            rw [pw_ofk_n j17 b17 _ bf]
            rw [if_neg (fun z => absurd (of_decide_eq_true z) (by omega))]
          · refine pw_blk (pc' := 51) [.iload 3, .iconst 1, .iconst 2] (by decide +kernel) ?_
            show pw_V x m_X8_seatAs 3 Z 51 [(3, .int (nI (pw_g A 5 j5))), (0, .ref 26), (1, .int (nI j5)), (2, .int (nI j17))] [.int (nI 2), .int (nI 1), .int (nI (pw_g A 5 j5))] mm
            refine pw_cS (vs := [.int (nI (pw_g A 5 j5)), .int (nI 1), .int (nI 2)]) (rest := []) k_X8_in (c_mIn (nI (pw_g A 5 j5)) (nI 1) (nI 2) mm) l_8_78 rfl (by omega) (Nat.le_of_ble_eq_true rfl) (by decide +kernel) ?_
            rintro _ m1 ⟨rfl, e1⟩
            rw [e1]
            clear e1 m1
            show pw_V x m_X8_seatAs 3 Z 54 [(3, .int (nI (pw_g A 5 j5))), (0, .ref 26), (1, .int (nI j5)), (2, .int (nI j17))] [.int (pw_b (pw_in (nI (pw_g A 5 j5)) (nI 1) (nI 2)))] mm
            refine pw_ib_ne (tgt := 60) (off := 6) (by decide +kernel) (by decide) (fun h54 => ?_) (fun h54 => ?_)
            · refine pw_blk (pc' := 66) [.iconst 0, .istore 4, .iconst 0, .istore 5] (by decide +kernel) ?_
              show pw_V x m_X8_seatAs 3 Z 66 [(5, .int (nI 0)), (4, .int (nI 0)), (3, .int (nI (pw_g A 5 j5))), (0, .ref 26), (1, .int (nI j5)), (2, .int (nI j17))] [] mm
              refine pw_lvp [3, 4, 5, 1, 0] rfl ?_
              rw [show nI 0 = nI (pw_ob (fun k => (pw_g A 42 1).testBit k && pw_fnow A k j5) 0) from rfl]
              suffices lo : ∀ ix : Nat, ix ≤ pw_k A → pw_V x m_X8_seatAs 3 Z 66 [(0, .ref 26), (1, .int (nI j5)), (2, .int (nI j17)), (4, .int (nI (pw_ob (fun k => (pw_g A 42 1).testBit k && pw_fnow A k j5) ix))), (5, .int (nI ix))] [] mm from lo 0 (by omega)
              refine pw_dn (pw_k A) (fun ix hix ih => ?_)
              refine pw_blk (pc' := 72) [.iload 5, .aload 0, .getfield 802] (by decide +kernel) ?_
              show pw_V x m_X8_seatAs 3 Z 72 [(0, .ref 26), (1, .int (nI j5)), (2, .int (nI j17)), (4, .int (nI (pw_ob (fun k => (pw_g A 42 1).testBit k && pw_fnow A k j5) ix))), (5, .int (nI ix))] [.int (mm 26 2), .int (nI ix)] mm
              rw [show mm 26 2 = nI (pw_k A) from mv_k hv hok]
              refine pw_in_ge (tgt := 113) (off := 41) (by first | omega | exact pw_g_lt) (by first | omega | exact pw_g_lt) (by decide +kernel) (by decide) (fun h72 => ?_) (fun h72 => ?_)
              · refine pw_blk (pc' := 115) [.iload 4] (by decide +kernel) ?_
                show pw_V x m_X8_seatAs 3 Z 115 [(0, .ref 26), (1, .int (nI j5)), (2, .int (nI j17)), (4, .int (nI (pw_ob (fun k => (pw_g A 42 1).testBit k && pw_fnow A k j5) ix))), (5, .int (nI ix))] [.int (nI (pw_ob (fun k => (pw_g A 42 1).testBit k && pw_fnow A k j5) ix))] mm
                rw [← hZ]
                refine pw_ri (by decide +kernel) ?_
                refine ⟨?_, rfl⟩
                unfold F_seatAs
                rw [if_pos (show pw_inr (nI j5) (pw_n A) = true from by rw [pw_inr_nI (show j5 < 2 ^ 31 by omega) (show pw_n A < 2 ^ 31 by omega)]; exact decide_eq_true b5)]
                rw [if_pos (show pw_inr (nI j17) 6 = true from by rw [pw_inr_nI (show j17 < 2 ^ 31 by omega) (show 6 < 2 ^ 31 by omega)]; exact decide_eq_true b17), pw_c_nI (show j5 < 2 ^ 31 by omega)]
                have bf := pw_b5 hok (show j5 < 8 by omega)
                rw [pw_ofk_n j17 b17 _ bf]
                rw [pw_in12 _ bf] at h54
                have h54_ := of_decide_eq_true h54
                rw [if_pos (decide_eq_true (by omega))]
                have e : ix = pw_k A := by omega
                subst e
                rfl
              · refine pw_blk (pc' := 80) [.iload 4, .aload 0, .iload 5] (by decide +kernel) ?_
                show pw_V x m_X8_seatAs 3 Z 80 [(0, .ref 26), (1, .int (nI j5)), (2, .int (nI j17)), (4, .int (nI (pw_ob (fun k => (pw_g A 42 1).testBit k && pw_fnow A k j5) ix))), (5, .int (nI ix))] [.int (nI ix), .ref 26, .int (nI (pw_ob (fun k => (pw_g A 42 1).testBit k && pw_fnow A k j5) ix))] mm
                refine pw_cV (vs := [.int (nI ix)]) (rest := [.int (nI (pw_ob (fun k => (pw_g A 42 1).testBit k && pw_fnow A k j5) ix))]) k_X8_isThere (c_mThere mm hv hok ix (by omega)) l_8_201 rfl rfl rfl rfl (by omega) (Nat.le_of_ble_eq_true rfl) (by decide +kernel) ?_
                rintro _ m1 ⟨rfl, e1⟩
                rw [e1]
                clear e1 m1
                show pw_V x m_X8_seatAs 3 Z 83 [(0, .ref 26), (1, .int (nI j5)), (2, .int (nI j17)), (4, .int (nI (pw_ob (fun k => (pw_g A 42 1).testBit k && pw_fnow A k j5) ix))), (5, .int (nI ix))] [.int (pw_b ((pw_g A 42 1).testBit ix)), .int (nI (pw_ob (fun k => (pw_g A 42 1).testBit k && pw_fnow A k j5) ix))] mm
                refine pw_ib_eq (tgt := 103) (off := 20) (by decide +kernel) (by decide) (fun h83 => ?_) (fun h83 => ?_)
                · refine pw_blk (pc' := 110) [.iconst 0, .ior, .istore 4, .iinc 5 1] (by decide +kernel) ?_
                  show pw_V x m_X8_seatAs 3 Z 110 [(5, .int ((nI ix) + (nI 1))), (4, .int ((nI (pw_ob (fun k => (pw_g A 42 1).testBit k && pw_fnow A k j5) ix)) ||| (nI 0))), (0, .ref 26), (1, .int (nI j5)), (2, .int (nI j17))] [] mm
                  rw [show (nI ix) + (nI 1) = nI (ix + 1) from nI_add _ _]
                  rw [show (nI (pw_ob (fun k => (pw_g A 42 1).testBit k && pw_fnow A k j5) ix)) ||| (nI 0) = nI ((pw_ob (fun k => (pw_g A 42 1).testBit k && pw_fnow A k j5) ix) ||| 0) from fa_or _ _]
                  refine pw_goto (tgt := 66) (off := -44) (by decide +kernel) (by decide) ?_
                  rw [show nI ((pw_ob (fun k => (pw_g A 42 1).testBit k && pw_fnow A k j5) ix) ||| 0) = nI (pw_ob (fun k => (pw_g A 42 1).testBit k && pw_fnow A k j5) (ix + 1)) from by simp [pw_ob, h5, h17, h33, h40, h45, h54, h72, h83]]
                  refine pw_lvp [2, 3, 4, 1, 0] rfl ?_
                  exact ih (by omega)
                · refine pw_blk (pc' := 90) [.aload 0, .iload 5, .iload 1] (by decide +kernel) ?_
                  show pw_V x m_X8_seatAs 3 Z 90 [(0, .ref 26), (1, .int (nI j5)), (2, .int (nI j17)), (4, .int (nI (pw_ob (fun k => (pw_g A 42 1).testBit k && pw_fnow A k j5) ix))), (5, .int (nI ix))] [.int (nI j5), .int (nI ix), .ref 26, .int (nI (pw_ob (fun k => (pw_g A 42 1).testBit k && pw_fnow A k j5) ix))] mm
                  refine pw_cV (vs := [.int (nI ix), .int (nI j5)]) (rest := [.int (nI (pw_ob (fun k => (pw_g A 42 1).testBit k && pw_fnow A k j5) ix))]) k_X8_fits (c_mfits mm hv hok ix j5 (by omega) (by omega)) l_8_189 rfl rfl rfl rfl (by omega) (Nat.le_of_ble_eq_true rfl) (by decide +kernel) ?_
                  rintro _ m1 ⟨rfl, e1⟩
                  rw [e1]
                  clear e1 m1
                  show pw_V x m_X8_seatAs 3 Z 93 [(0, .ref 26), (1, .int (nI j5)), (2, .int (nI j17)), (4, .int (nI (pw_ob (fun k => (pw_g A 42 1).testBit k && pw_fnow A k j5) ix))), (5, .int (nI ix))] [.int (pw_b (pw_fnow A ix j5)), .int (nI (pw_ob (fun k => (pw_g A 42 1).testBit k && pw_fnow A k j5) ix))] mm
                  refine pw_ib_eq (tgt := 103) (off := 10) (by decide +kernel) (by decide) (fun h93 => ?_) (fun h93 => ?_)
                  · refine pw_blk (pc' := 110) [.iconst 0, .ior, .istore 4, .iinc 5 1] (by decide +kernel) ?_
                    show pw_V x m_X8_seatAs 3 Z 110 [(5, .int ((nI ix) + (nI 1))), (4, .int ((nI (pw_ob (fun k => (pw_g A 42 1).testBit k && pw_fnow A k j5) ix)) ||| (nI 0))), (0, .ref 26), (1, .int (nI j5)), (2, .int (nI j17))] [] mm
                    rw [show (nI ix) + (nI 1) = nI (ix + 1) from nI_add _ _]
                    rw [show (nI (pw_ob (fun k => (pw_g A 42 1).testBit k && pw_fnow A k j5) ix)) ||| (nI 0) = nI ((pw_ob (fun k => (pw_g A 42 1).testBit k && pw_fnow A k j5) ix) ||| 0) from fa_or _ _]
                    refine pw_goto (tgt := 66) (off := -44) (by decide +kernel) (by decide) ?_
                    rw [show nI ((pw_ob (fun k => (pw_g A 42 1).testBit k && pw_fnow A k j5) ix) ||| 0) = nI (pw_ob (fun k => (pw_g A 42 1).testBit k && pw_fnow A k j5) (ix + 1)) from by simp [pw_ob, h5, h17, h33, h40, h45, h54, h72, h83, h93]]
                    refine pw_lvp [2, 3, 4, 1, 0] rfl ?_
                    exact ih (by omega)
                  · refine pw_blk (pc' := 100) [.iconst 1, .iload 5, .ishl] (by decide +kernel) ?_
                    show pw_V x m_X8_seatAs 3 Z 100 [(0, .ref 26), (1, .int (nI j5)), (2, .int (nI j17)), (4, .int (nI (pw_ob (fun k => (pw_g A 42 1).testBit k && pw_fnow A k j5) ix))), (5, .int (nI ix))] [.int ((nI 1) <<< ((nI ix) &&& 31)), .int (nI (pw_ob (fun k => (pw_g A 42 1).testBit k && pw_fnow A k j5) ix))] mm
                    rw [show (nI 1) <<< ((nI ix) &&& 31) = nI (2 ^ ix) from pw_shl1 (by first | omega | exact pw_g_lt)]
                    refine pw_goto (tgt := 104) (off := 4) (by decide +kernel) (by decide) ?_
                    refine pw_blk (pc' := 110) [.ior, .istore 4, .iinc 5 1] (by decide +kernel) ?_
                    show pw_V x m_X8_seatAs 3 Z 110 [(5, .int ((nI ix) + (nI 1))), (4, .int ((nI (pw_ob (fun k => (pw_g A 42 1).testBit k && pw_fnow A k j5) ix)) ||| (nI (2 ^ ix)))), (0, .ref 26), (1, .int (nI j5)), (2, .int (nI j17))] [] mm
                    rw [show (nI ix) + (nI 1) = nI (ix + 1) from nI_add _ _]
                    rw [show (nI (pw_ob (fun k => (pw_g A 42 1).testBit k && pw_fnow A k j5) ix)) ||| (nI (2 ^ ix)) = nI ((pw_ob (fun k => (pw_g A 42 1).testBit k && pw_fnow A k j5) ix) ||| (2 ^ ix)) from fa_or _ _]
                    refine pw_goto (tgt := 66) (off := -44) (by decide +kernel) (by decide) ?_
                    rw [show nI ((pw_ob (fun k => (pw_g A 42 1).testBit k && pw_fnow A k j5) ix) ||| (2 ^ ix)) = nI (pw_ob (fun k => (pw_g A 42 1).testBit k && pw_fnow A k j5) (ix + 1)) from by simp [pw_ob, h5, h17, h33, h40, h45, h54, h72, h83, h93]]
                    refine pw_lvp [2, 3, 4, 1, 0] rfl ?_
                    exact ih (by omega)
            · refine pw_blk (pc' := 59) [.iconst (-4)] (by decide +kernel) ?_
              show pw_V x m_X8_seatAs 3 Z 59 [(3, .int (nI (pw_g A 5 j5))), (0, .ref 26), (1, .int (nI j5)), (2, .int (nI j17))] [.int (-4)] mm
              rw [← hZ]
              refine pw_ri (by decide +kernel) ?_
              refine ⟨?_, rfl⟩
              unfold F_seatAs
              rw [if_pos (show pw_inr (nI j5) (pw_n A) = true from by rw [pw_inr_nI (show j5 < 2 ^ 31 by omega) (show pw_n A < 2 ^ 31 by omega)]; exact decide_eq_true b5)]
              rw [if_pos (show pw_inr (nI j17) 6 = true from by rw [pw_inr_nI (show j17 < 2 ^ 31 by omega) (show 6 < 2 ^ 31 by omega)]; exact decide_eq_true b17), pw_c_nI (show j5 < 2 ^ 31 by omega)]
              have bf := pw_b5 hok (show j5 < 8 by omega)
              rw [pw_ofk_n j17 b17 _ bf]
              rw [pw_in12 _ bf] at h54
              have h54_ := of_decide_eq_false h54
              rw [if_neg (fun z => absurd (of_decide_eq_true z) (by omega))]
    · refine pw_blk (pc' := 22) [.iconst (-3)] (by decide +kernel) ?_
      show pw_V x m_X8_seatAs 3 Z 22 [(0, .ref 26), (1, .int (nI j5)), (2, .int q)] [.int (-3)] mm
      rw [← hZ]
      refine pw_ri (by decide +kernel) ?_
      refine ⟨?_, rfl⟩
      unfold F_seatAs
      rw [if_pos (show pw_inr (nI j5) (pw_n A) = true from by rw [pw_inr_nI (show j5 < 2 ^ 31 by omega) (show pw_n A < 2 ^ 31 by omega)]; exact decide_eq_true b5)]
      rw [if_neg (by rw [h17]; decide)]
  · refine pw_blk (pc' := 10) [.iconst (-2)] (by decide +kernel) ?_
    show pw_V x m_X8_seatAs 3 Z 10 [(0, .ref 26), (1, .int s), (2, .int q)] [.int (-2)] mm
    rw [← hZ]
    refine pw_ri (by decide +kernel) ?_
    refine ⟨?_, rfl⟩
    unfold F_seatAs
    rw [if_neg (by rw [h5]; decide)]
