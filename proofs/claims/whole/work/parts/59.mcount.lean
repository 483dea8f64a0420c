set_option maxHeartbeats 4000000 in
set_option maxRecDepth 100000 in
theorem c_mcount {A : pw_m} (mm : pw_m) (hv : MV A mm) (hok : pw_ok A) (w : Int32) : pw_Ct 1 yX8_count m_X8_count [.ref 26, .int w] mm (fun r m' => r = some (.int (F_count A w)) ∧ m' = mm) := by
  refine pw_ct (by decide +kernel) rfl (Nat.le_of_ble_eq_true rfl) (fun x => ?_)
  generalize hZ : pw_Z x _ = Z
  have bn := pw_bn hok
  have bk := pw_bk hok
  show pw_V x m_X8_count 1 Z 0 [(0, .ref 26), (1, .int w)] [] mm
  refine pw_blk (pc' := 1) [.iload 1] (by decide +kernel) ?_
  show pw_V x m_X8_count 1 Z 1 [(0, .ref 26), (1, .int w)] [.int w] mm
  refine pw_tsw (tgt := 139) (dflt := 138) (lo := 0) (hi := 9) (offs := #[55, 60, 65, 72, 77, 84, 89, 94, 128, 133]) (len := 55) (by decide +kernel) (by decide) (fun h1 => ?_) (fun j hj h1 => ?_)
  · have e1_0 : ¬ w = nI 0 := fun q => by rw [q] at h1; revert h1; decide
    have e1_1 : ¬ w = nI 1 := fun q => by rw [q] at h1; revert h1; decide
    have e1_2 : ¬ w = nI 2 := fun q => by rw [q] at h1; revert h1; decide
    have e1_3 : ¬ w = nI 3 := fun q => by rw [q] at h1; revert h1; decide
    have e1_4 : ¬ w = nI 4 := fun q => by rw [q] at h1; revert h1; decide
    have e1_5 : ¬ w = nI 5 := fun q => by rw [q] at h1; revert h1; decide
    have e1_6 : ¬ w = nI 6 := fun q => by rw [q] at h1; revert h1; decide
    have e1_7 : ¬ w = nI 7 := fun q => by rw [q] at h1; revert h1; decide
    have e1_8 : ¬ w = nI 8 := fun q => by rw [q] at h1; revert h1; decide
    have e1_9 : ¬ w = nI 9 := fun q => by rw [q] at h1; revert h1; decide
    refine pw_blk (pc' := 141) [.iconst (-3)] (by decide +kernel) ?_
    show pw_V x m_X8_count 1 Z 141 [(0, .ref 26), (1, .int w)] [.int (-3)] mm
    rw [← hZ]
    refine pw_ri (by decide +kernel) ?_
    refine ⟨?_, rfl⟩
    simp [F_count, e1_0, e1_1, e1_2, e1_3, e1_4, e1_5, e1_6, e1_7, e1_8, e1_9]
  · match j, hj, h1 with
    | 0, hj, h1 =>
      refine ⟨55, 56, rfl, by decide, ?_⟩
      have e1 : w = nI 0 := Int32.toInt_inj.mp (by rw [h1]; rfl)
      subst e1
      refine pw_blk (pc' := 60) [.aload 0, .getfield 800] (by decide +kernel) ?_
      show pw_V x m_X8_count 1 Z 60 [(0, .ref 26), (1, .int (nI 0))] [.int (mm 26 0)] mm
      rw [show mm 26 0 = nI (pw_n A) from mv_n hv hok]
      rw [← hZ]
      refine pw_ri (by decide +kernel) ?_
      refine ⟨?_, rfl⟩
      exact congrArg (fun z => some (Value.int z)) (pw_q40 hok).symm
    | 1, hj, h1 =>
      refine ⟨60, 61, rfl, by decide, ?_⟩
      have e1 : w = nI 1 := Int32.toInt_inj.mp (by rw [h1]; rfl)
      subst e1
      refine pw_blk (pc' := 65) [.aload 0, .getfield 802] (by decide +kernel) ?_
      show pw_V x m_X8_count 1 Z 65 [(0, .ref 26), (1, .int (nI 1))] [.int (mm 26 2)] mm
      rw [show mm 26 2 = nI (pw_k A) from mv_k hv hok]
      rw [← hZ]
      refine pw_ri (by decide +kernel) ?_
      refine ⟨?_, rfl⟩
      exact congrArg (fun z => some (Value.int z)) (pw_q41 hok).symm
    | 2, hj, h1 =>
      refine ⟨65, 66, rfl, by decide, ?_⟩
      have e1 : w = nI 2 := Int32.toInt_inj.mp (by rw [h1]; rfl)
      subst e1
      refine pw_blk (pc' := 72) [.aload 0, .getfield 808, .iconst 0, .iaload] (by decide +kernel) ?_
      refine ⟨0, rfl, by first | omega | exact pw_g_lt | (have := pw_sm_le (f := fun j => pw_pc (pw_g A 10 j)) (n := ix) (fun j => pw_pc_le (pw_g A 10 j)); omega), ?_⟩
      show pw_V x m_X8_count 1 Z 72 [(0, .ref 26), (1, .int (nI 2))] [.int (mm 30 0)] mm
      rw [show mm 30 0 = nI (pw_g A 42 0) from mv_d hv hok]
      rw [← hZ]
      refine pw_ri (by decide +kernel) ?_
      refine ⟨?_, rfl⟩
      exact congrArg (fun z => some (Value.int z)) (pw_q420 hok).symm
    | 3, hj, h1 =>
      refine ⟨72, 73, rfl, by decide, ?_⟩
      have e1 : w = nI 3 := Int32.toInt_inj.mp (by rw [h1]; rfl)
      subst e1
      refine pw_blk (pc' := 74) [.aload 0] (by decide +kernel) ?_
      show pw_V x m_X8_count 1 Z 74 [(0, .ref 26), (1, .int (nI 3))] [.ref 26] mm
      refine pw_cV (vs := []) (rest := []) k_X8_perilOn (c_mperil mm hv hok) l_8_192 rfl rfl rfl rfl (by omega) (Nat.le_of_ble_eq_true rfl) (by decide +kernel) ?_
      rintro _ m1 ⟨rfl, e1⟩
      rw [e1]
      clear e1 m1
      show pw_V x m_X8_count 1 Z 77 [(0, .ref 26), (1, .int (nI 3))] [.int (pw_o (pw_pon A))] mm
      rw [← hZ]
      refine pw_ri (by decide +kernel) ?_
      refine ⟨?_, rfl⟩
      rfl
    | 4, hj, h1 =>
      refine ⟨77, 78, rfl, by decide, ?_⟩
      have e1 : w = nI 4 := Int32.toInt_inj.mp (by rw [h1]; rfl)
      subst e1
      refine pw_blk (pc' := 84) [.aload 0, .getfield 808, .iconst 1, .iaload] (by decide +kernel) ?_
      refine ⟨1, rfl, by first | omega | exact pw_g_lt | (have := pw_sm_le (f := fun j => pw_pc (pw_g A 10 j)) (n := ix) (fun j => pw_pc_le (pw_g A 10 j)); omega), ?_⟩
      show pw_V x m_X8_count 1 Z 84 [(0, .ref 26), (1, .int (nI 4))] [.int (mm 30 1)] mm
      rw [show mm 30 1 = nI (pw_g A 42 1) from mv_t hv hok]
      rw [← hZ]
      refine pw_ri (by decide +kernel) ?_
      refine ⟨?_, rfl⟩
      exact congrArg (fun z => some (Value.int z)) (pw_q421 hok).symm
    | 5, hj, h1 =>
      refine ⟨84, 85, rfl, by decide, ?_⟩
      have e1 : w = nI 5 := Int32.toInt_inj.mp (by rw [h1]; rfl)
      subst e1
      refine pw_blk (pc' := 86) [.aload 0] (by decide +kernel) ?_
      show pw_V x m_X8_count 1 Z 86 [(0, .ref 26), (1, .int (nI 5))] [.ref 26] mm
      refine pw_cV (vs := []) (rest := []) k_X8_sitting (c_msitting mm hv hok) l_8_207 rfl rfl rfl rfl (by omega) (Nat.le_of_ble_eq_true rfl) (by decide +kernel) ?_
      rintro _ m1 ⟨rfl, e1⟩
      rw [e1]
      clear e1 m1
      show pw_V x m_X8_count 1 Z 89 [(0, .ref 26), (1, .int (nI 5))] [.int (nI (pw_sb A))] mm
      have bsb86 := pw_sb_lt (A := A)
      rw [← hZ]
      refine pw_ri (by decide +kernel) ?_
      refine ⟨?_, rfl⟩
      rfl
    | 6, hj, h1 =>
      refine ⟨89, 90, rfl, by decide, ?_⟩
      have e1 : w = nI 6 := Int32.toInt_inj.mp (by rw [h1]; rfl)
      subst e1
      refine pw_blk (pc' := 94) [.aload 0, .getfield 813] (by decide +kernel) ?_
      show pw_V x m_X8_count 1 Z 94 [(0, .ref 26), (1, .int (nI 6))] [.int (mm 26 13)] mm
      rw [show mm 26 13 = nI (pw_g A 14 4) from mv_sn hv hok]
      rw [← hZ]
      refine pw_ri (by decide +kernel) ?_
      refine ⟨?_, rfl⟩
      exact congrArg (fun z => some (Value.int z)) (pw_q144 hok).symm
    | 7, hj, h1 =>
      refine ⟨94, 95, rfl, by decide, ?_⟩
      have e1 : w = nI 7 := Int32.toInt_inj.mp (by rw [h1]; rfl)
      subst e1
      refine pw_blk (pc' := 99) [.iconst 0, .istore 2, .iconst 0, .istore 3] (by decide +kernel) ?_
      show pw_V x m_X8_count 1 Z 99 [(3, .int (nI 0)), (2, .int (nI 0)), (0, .ref 26), (1, .int (nI 7))] [] mm
      refine pw_lvp [2, 3, 1, 0] rfl ?_
      rw [show nI 0 = nI (pw_sm (fun j => pw_pc (pw_g A 10 j)) 0) from rfl]
      suffices lo : ∀ ix : Nat, ix ≤ pw_k A → pw_V x m_X8_count 1 Z 99 [(0, .ref 26), (1, .int (nI 7)), (2, .int (nI (pw_sm (fun j => pw_pc (pw_g A 10 j)) ix))), (3, .int (nI ix))] [] mm from lo 0 (by omega)
      refine pw_dn (pw_k A) (fun ix hix ih => ?_)
      refine pw_blk (pc' := 104) [.iload 3, .aload 0, .getfield 802] (by decide +kernel) ?_
      show pw_V x m_X8_count 1 Z 104 [(0, .ref 26), (1, .int (nI 7)), (2, .int (nI (pw_sm (fun j => pw_pc (pw_g A 10 j)) ix))), (3, .int (nI ix))] [.int (mm 26 2), .int (nI ix)] mm
      rw [show mm 26 2 = nI (pw_k A) from mv_k hv hok]
      refine pw_in_ge (tgt := 125) (off := 21) (by first | omega | exact pw_g_lt | (have := pw_sm_le (f := fun j => pw_pc (pw_g A 10 j)) (n := ix) (fun j => pw_pc_le (pw_g A 10 j)); omega)) (by first | omega | exact pw_g_lt | (have := pw_sm_le (f := fun j => pw_pc (pw_g A 10 j)) (n := ix) (fun j => pw_pc_le (pw_g A 10 j)); omega)) (by decide +kernel) (by decide) (fun h104 => ?_) (fun h104 => ?_)
      · refine pw_blk (pc' := 128) [.iload 2, .iconst 2, .idiv] (by decide +kernel) ?_
        refine ⟨(show ¬ nI 2 = 0 from nI_ne0 (by first | omega | exact pw_g_lt | (have := pw_sm_le (f := fun j => pw_pc (pw_g A 10 j)) (n := ix) (fun j => pw_pc_le (pw_g A 10 j)); omega)) (by first | omega | exact pw_g_lt | (have := pw_sm_le (f := fun j => pw_pc (pw_g A 10 j)) (n := ix) (fun j => pw_pc_le (pw_g A 10 j)); omega))), ?_⟩
        show pw_V x m_X8_count 1 Z 128 [(0, .ref 26), (1, .int (nI 7)), (2, .int (nI (pw_sm (fun j => pw_pc (pw_g A 10 j)) ix))), (3, .int (nI ix))] [.int ((nI (pw_sm (fun j => pw_pc (pw_g A 10 j)) ix)) / (nI 2))] mm
        rw [show (nI (pw_sm (fun j => pw_pc (pw_g A 10 j)) ix)) / (nI 2) = nI ((pw_sm (fun j => pw_pc (pw_g A 10 j)) ix) / 2) from pk_div (by first | omega | exact pw_g_lt | (have := pw_sm_le (f := fun j => pw_pc (pw_g A 10 j)) (n := ix) (fun j => pw_pc_le (pw_g A 10 j)); omega)) (by first | omega | exact pw_g_lt | (have := pw_sm_le (f := fun j => pw_pc (pw_g A 10 j)) (n := ix) (fun j => pw_pc_le (pw_g A 10 j)); omega)) (by first | omega | exact pw_g_lt | (have := pw_sm_le (f := fun j => pw_pc (pw_g A 10 j)) (n := ix) (fun j => pw_pc_le (pw_g A 10 j)); omega))]
        rw [← hZ]
        refine pw_ri (by decide +kernel) ?_
        refine ⟨?_, rfl⟩
        rw [show ix = pw_k A by omega]
        rfl
      · refine pw_blk (pc' := 114) [.iload 2, .aload 0, .getfield 804, .iload 3, .iaload] (by decide +kernel) ?_
        refine ⟨ix, rfl, by first | omega | exact pw_g_lt | (have := pw_sm_le (f := fun j => pw_pc (pw_g A 10 j)) (n := ix) (fun j => pw_pc_le (pw_g A 10 j)); omega), ?_⟩
        show pw_V x m_X8_count 1 Z 114 [(0, .ref 26), (1, .int (nI 7)), (2, .int (nI (pw_sm (fun j => pw_pc (pw_g A 10 j)) ix))), (3, .int (nI ix))] [.int (mm 29 ix), .int (nI (pw_sm (fun j => pw_pc (pw_g A 10 j)) ix))] mm
        rw [show mm 29 ix = nI (pw_g A 10 ix) from mv_en hv hok (i := ix) (by omega)]
        refine pw_cS (vs := [.int (nI (pw_g A 10 ix))]) (rest := [.int (nI (pw_sm (fun j => pw_pc (pw_g A 10 j)) ix))]) k_X8_bits (c_bits (pw_g A 10 ix) mm (by have := pw_b10 hok (show ix < 6 by omega); omega)) l_8_210 rfl (by omega) (Nat.le_of_ble_eq_true rfl) (by decide +kernel) ?_
        rintro _ m1 ⟨rfl, e1⟩
        rw [e1]
        clear e1 m1
        show pw_V x m_X8_count 1 Z 117 [(0, .ref 26), (1, .int (nI 7)), (2, .int (nI (pw_sm (fun j => pw_pc (pw_g A 10 j)) ix))), (3, .int (nI ix))] [.int (nI (pw_pc (pw_g A 10 ix))), .int (nI (pw_sm (fun j => pw_pc (pw_g A 10 j)) ix))] mm
        refine pw_blk (pc' := 122) [.iadd, .istore 2, .iinc 3 1] (by decide +kernel) ?_
        show pw_V x m_X8_count 1 Z 122 [(3, .int ((nI ix) + (nI 1))), (2, .int ((nI (pw_sm (fun j => pw_pc (pw_g A 10 j)) ix)) + (nI (pw_pc (pw_g A 10 ix))))), (0, .ref 26), (1, .int (nI 7))] [] mm
        rw [show (nI ix) + (nI 1) = nI (ix + 1) from nI_add _ _]
        rw [show (nI (pw_sm (fun j => pw_pc (pw_g A 10 j)) ix)) + (nI (pw_pc (pw_g A 10 ix))) = nI ((pw_sm (fun j => pw_pc (pw_g A 10 j)) ix) + (pw_pc (pw_g A 10 ix))) from nI_add _ _]
        refine pw_goto (tgt := 99) (off := -23) (by decide +kernel) (by decide) ?_
        rw [show nI ((pw_sm (fun j => pw_pc (pw_g A 10 j)) ix) + (pw_pc (pw_g A 10 ix))) = nI (pw_sm (fun j => pw_pc (pw_g A 10 j)) (ix + 1)) from by simp [pw_sm, h104]]
        refine pw_lvp [2, 3, 1, 0] rfl ?_
        exact ih (by omega)
    | 8, hj, h1 =>
      refine ⟨128, 129, rfl, by decide, ?_⟩
      have e1 : w = nI 8 := Int32.toInt_inj.mp (by rw [h1]; rfl)
      subst e1
      refine pw_blk (pc' := 133) [.aload 0, .getfield 809] (by decide +kernel) ?_
      show pw_V x m_X8_count 1 Z 133 [(0, .ref 26), (1, .int (nI 8))] [.int (mm 26 9)] mm
      rw [show mm 26 9 = nI (pw_g A 11 2) from mv_ac hv hok]
      rw [← hZ]
      refine pw_ri (by decide +kernel) ?_
      refine ⟨?_, rfl⟩
      exact congrArg (fun z => some (Value.int z)) (pw_q112 hok).symm
    | 9, hj, h1 =>
      refine ⟨133, 134, rfl, by decide, ?_⟩
      have e1 : w = nI 9 := Int32.toInt_inj.mp (by rw [h1]; rfl)
      subst e1
      refine pw_blk (pc' := 138) [.aload 0, .getfield 816] (by decide +kernel) ?_
      show pw_V x m_X8_count 1 Z 138 [(0, .ref 26), (1, .int (nI 9))] [.int (mm 26 16)] mm
      rw [show mm 26 16 = nI (pw_g A 2 1) from mv_tn hv hok]
      rw [← hZ]
      refine pw_ri (by decide +kernel) ?_
      refine ⟨?_, rfl⟩
      exact congrArg (fun z => some (Value.int z)) (pw_q21 hok).symm
    | j + 10, hj, h1 => exact absurd hj (by omega)

set_option maxHeartbeats 4000000 in
set_option maxRecDepth 100000 in
theorem c_mjudge {A : pw_m} (mm : pw_m) (hv : MV A mm) (hok : pw_ok A) (w : Int32) : pw_Ct 4 yX8_judge m_X8_judge [.ref 26, .int w] mm (fun r m' => r = some (.int (F_judge A w)) ∧ m' = mm) := by
  refine pw_ct (by decide +kernel) rfl (Nat.le_of_ble_eq_true rfl) (fun x => ?_)
  generalize hZ : pw_Z x _ = Z
  have bn := pw_bn hok
  have bk := pw_bk hok
  show pw_V x m_X8_judge 4 Z 0 [(0, .ref 26), (1, .int w)] [] mm
  refine pw_blk (pc' := 3) [.iload 1, .iconst 0, .iconst 1] (by decide +kernel) ?_
  show pw_V x m_X8_judge 4 Z 3 [(0, .ref 26), (1, .int w)] [.int (nI 1), .int (nI 0), .int w] mm
  refine pw_cS (vs := [.int w, .int (nI 0), .int (nI 1)]) (rest := []) k_X8_in (c_in0 w 1 mm (by first | omega | exact pw_g_lt)) l_8_78 rfl (by omega) (Nat.le_of_ble_eq_true rfl) (by decide +kernel) ?_
  rintro _ m1 ⟨rfl, e1⟩
  rw [e1]
  clear e1 m1
  show pw_V x m_X8_judge 4 Z 6 [(0, .ref 26), (1, .int w)] [.int (pw_b (pw_inr w 2))] mm
  refine pw_ib_ne (tgt := 12) (off := 6) (by decide +kernel) (by decide) (fun h6 => ?_) (fun h6 => ?_)
  · obtain ⟨j6, b6, e6⟩ := pw_inr_t (by omega) h6
    subst e6
    refine pw_blk (pc' := 13) [.iload 1] (by decide +kernel) ?_
    show pw_V x m_X8_judge 4 Z 13 [(0, .ref 26), (1, .int (nI j6))] [.int (nI j6)] mm
    refine pw_iz_ne (tgt := 21) (off := 8) (by first | omega | exact pw_g_lt | (have := pw_ct_le (p := pw_qm A) (n := ix); omega)) (by decide +kernel) (by decide) (fun h13 => ?_) (fun h13 => ?_)
    · refine pw_blk (pc' := 25) [.iconst 0, .istore 2, .iconst 0, .istore 3] (by decide +kernel) ?_
      show pw_V x m_X8_judge 4 Z 25 [(3, .int (nI 0)), (2, .int (nI 0)), (0, .ref 26), (1, .int (nI j6))] [] mm
      refine pw_lvp [2, 3, 1, 0] rfl ?_
      rw [show nI 0 = nI (pw_ct_ (pw_qm A) 0) from rfl]
      suffices lo : ∀ ix : Nat, ix ≤ pw_k A → pw_V x m_X8_judge 4 Z 25 [(0, .ref 26), (1, .int (nI j6)), (2, .int (nI (pw_ct_ (pw_qm A) ix))), (3, .int (nI ix))] [] mm from lo 0 (by omega)
      refine pw_dn (pw_k A) (fun ix hix ih => ?_)
      refine pw_blk (pc' := 30) [.iload 3, .aload 0, .getfield 802] (by decide +kernel) ?_
      show pw_V x m_X8_judge 4 Z 30 [(0, .ref 26), (1, .int (nI j6)), (2, .int (nI (pw_ct_ (pw_qm A) ix))), (3, .int (nI ix))] [.int (mm 26 2), .int (nI ix)] mm
      rw [show mm 26 2 = nI (pw_k A) from mv_k hv hok]
      refine pw_in_ge (tgt := 86) (off := 56) (by first | omega | exact pw_g_lt | (have := pw_ct_le (p := pw_qm A) (n := ix); omega)) (by first | omega | exact pw_g_lt | (have := pw_ct_le (p := pw_qm A) (n := ix); omega)) (by decide +kernel) (by decide) (fun h30 => ?_) (fun h30 => ?_)
      · refine pw_blk (pc' := 87) [.iload 2] (by decide +kernel) ?_
        show pw_V x m_X8_judge 4 Z 87 [(0, .ref 26), (1, .int (nI j6)), (2, .int (nI (pw_ct_ (pw_qm A) ix))), (3, .int (nI ix))] [.int (nI (pw_ct_ (pw_qm A) ix))] mm
        rw [← hZ]
        refine pw_ri (by decide +kernel) ?_
        refine ⟨?_, rfl⟩
        have e1 : j6 = 1 := by omega
        subst e1
        rw [show ix = pw_k A by omega, pw_qm_qu hok]
        rfl
      · refine pw_blk (pc' := 44) [.iload 2, .aload 0, .getfield 808, .iconst (14), .iload 3, .iadd, .iaload, .iconst (-1)] (by decide +kernel) ?_
        refine ⟨(14 + ix), (show (nI 14) + (nI ix) = nI (14 + ix) from by rw [show (nI 14) + (nI ix) = nI (14 + ix) from nI_add _ _]), by first | omega | exact pw_g_lt | (have := pw_ct_le (p := pw_qm A) (n := ix); omega), ?_⟩
        show pw_V x m_X8_judge 4 Z 44 [(0, .ref 26), (1, .int (nI j6)), (2, .int (nI (pw_ct_ (pw_qm A) ix))), (3, .int (nI ix))] [.int (-1), .int (mm 30 (14 + ix)), .int (nI (pw_ct_ (pw_qm A) ix))] mm
        rw [show mm 30 (14 + ix) = pw_o (pw_pl A ix) from mv_pl hv hok (i := ix) (by omega)]
        rcases h44 : pw_pl A ix with _ | s44
        · show pw_V x m_X8_judge 4 Z 44 [(0, .ref 26), (1, .int (nI j6)), (2, .int (nI (pw_ct_ (pw_qm A) ix))), (3, .int (nI ix))] [.int (-1), .int (-1), .int (nI (pw_ct_ (pw_qm A) ix))] mm
          refine pw_ic_eq (tgt := 77) (off := 33) (by decide +kernel) (by decide) (fun _ => ?_) (fun h => absurd rfl h)
          refine pw_blk (pc' := 83) [.iconst 0, .iadd, .istore 2, .iinc 3 1] (by decide +kernel) ?_
          show pw_V x m_X8_judge 4 Z 83 [(3, .int ((nI ix) + (nI 1))), (2, .int ((nI (pw_ct_ (pw_qm A) ix)) + (nI 0))), (0, .ref 26), (1, .int (nI j6))] [] mm
          rw [show (nI ix) + (nI 1) = nI (ix + 1) from nI_add _ _]
          rw [show (nI (pw_ct_ (pw_qm A) ix)) + (nI 0) = nI ((pw_ct_ (pw_qm A) ix) + 0) from nI_add _ _]
          refine pw_goto (tgt := 25) (off := -58) (by decide +kernel) (by decide) ?_
          rw [show nI ((pw_ct_ (pw_qm A) ix) + 0) = nI (pw_ct_ (pw_qm A) (ix + 1)) from by simp [pw_ct_, pw_qm, h6, h13, h30, h44]]
          refine pw_lvp [2, 3, 1, 0] rfl ?_
          exact ih (by omega)
        · show pw_V x m_X8_judge 4 Z 44 [(0, .ref 26), (1, .int (nI j6)), (2, .int (nI (pw_ct_ (pw_qm A) ix))), (3, .int (nI ix))] [.int (-1), .int (nI s44), .int (nI (pw_ct_ (pw_qm A) ix))] mm
          have b44 := pw_mplb hok (i := ix) (by omega) h44
          refine pw_ic_eq (tgt := 77) (off := 33) (by decide +kernel) (by decide) (fun h => absurd h (pw_n1 (by first | omega | exact pw_g_lt | (have := pw_ct_le (p := pw_qm A) (n := ix); omega)))) (fun _ => ?_)
          refine pw_blk (pc' := 60) [.aload 0, .iload 3, .aload 0, .aload 0, .aload 0, .getfield 808, .iconst (14), .iload 3, .iadd, .iaload] (by decide +kernel) ?_
          refine ⟨(14 + ix), (show (nI 14) + (nI ix) = nI (14 + ix) from by rw [show (nI 14) + (nI ix) = nI (14 + ix) from nI_add _ _]), by first | omega | exact pw_g_lt | (have := pw_ct_le (p := pw_qm A) (n := ix); omega), ?_⟩
          show pw_V x m_X8_judge 4 Z 60 [(0, .ref 26), (1, .int (nI j6)), (2, .int (nI (pw_ct_ (pw_qm A) ix))), (3, .int (nI ix))] [.int (mm 30 (14 + ix)), .ref 26, .ref 26, .int (nI ix), .ref 26, .int (nI (pw_ct_ (pw_qm A) ix))] mm
          rw [show mm 30 (14 + ix) = pw_o (pw_pl A ix) from mv_pl hv hok (i := ix) (by omega)]
          rw [show pw_o (pw_pl A ix) = nI s44 from by rw [h44]; rfl]
          refine pw_blk (pc' := 61) [.iconst 1] (by decide +kernel) ?_
          show pw_V x m_X8_judge 4 Z 61 [(0, .ref 26), (1, .int (nI j6)), (2, .int (nI (pw_ct_ (pw_qm A) ix))), (3, .int (nI ix))] [.int (nI 1), .int (nI s44), .ref 26, .ref 26, .int (nI ix), .ref 26, .int (nI (pw_ct_ (pw_qm A) ix))] mm
          refine pw_cV (vs := [.int (nI s44), .int (nI 1)]) (rest := [.ref 26, .int (nI ix), .ref 26, .int (nI (pw_ct_ (pw_qm A) ix))]) k_X8_beside (c_mbes1 mm hv hok s44 (pw_b45 hok (by omega) h44)) l_8_222 rfl rfl rfl rfl (by omega) (Nat.le_of_ble_eq_true rfl) (by decide +kernel) ?_
          rintro _ m1 ⟨rfl, e1⟩
          rw [e1]
          clear e1 m1
          show pw_V x m_X8_judge 4 Z 64 [(0, .ref 26), (1, .int (nI j6)), (2, .int (nI (pw_ct_ (pw_qm A) ix))), (3, .int (nI ix))] [.int (nI (pw_bh (pw_n A) s44)), .ref 26, .int (nI ix), .ref 26, .int (nI (pw_ct_ (pw_qm A) ix))] mm
          refine pw_cV (vs := [.int (nI (pw_bh (pw_n A) s44))]) (rest := [.int (nI ix), .ref 26, .int (nI (pw_ct_ (pw_qm A) ix))]) k_X8_sitter (c_msitter mm hv hok (pw_bh (pw_n A) s44) (by have := pw_bh_lt (pw_b45 hok (by omega : ix < 6) h44); omega)) l_8_198 rfl rfl rfl rfl (by omega) (Nat.le_of_ble_eq_true rfl) (by decide +kernel) ?_
          rintro _ m1 ⟨rfl, e1⟩
          rw [e1]
          clear e1 m1
          show pw_V x m_X8_judge 4 Z 67 [(0, .ref 26), (1, .int (nI j6)), (2, .int (nI (pw_ct_ (pw_qm A) ix))), (3, .int (nI ix))] [.int (pw_o (pw_si A (pw_bh (pw_n A) s44))), .int (nI ix), .ref 26, .int (nI (pw_ct_ (pw_qm A) ix))] mm
          refine pw_cV (vs := [.int (nI ix), .int (pw_o (pw_si A (pw_bh (pw_n A) s44)))]) (rest := [.int (nI (pw_ct_ (pw_qm A) ix))]) k_X8_areEnemies (c_mare mm hv hok ix (pw_si A (pw_bh (pw_n A) s44)) (by omega) (fun c hc => pw_si_lt hc)) l_8_225 rfl rfl rfl rfl (by omega) (Nat.le_of_ble_eq_true rfl) (by decide +kernel) ?_
          rintro _ m1 ⟨rfl, e1⟩
          rw [e1]
          clear e1 m1
          show pw_V x m_X8_judge 4 Z 70 [(0, .ref 26), (1, .int (nI j6)), (2, .int (nI (pw_ct_ (pw_qm A) ix))), (3, .int (nI ix))] [.int (pw_b (pw_en A ix (pw_si A (pw_bh (pw_n A) s44)))), .int (nI (pw_ct_ (pw_qm A) ix))] mm
          refine pw_ib_eq (tgt := 77) (off := 7) (by decide +kernel) (by decide) (fun h70 => ?_) (fun h70 => ?_)
          · refine pw_blk (pc' := 83) [.iconst 0, .iadd, .istore 2, .iinc 3 1] (by decide +kernel) ?_
            show pw_V x m_X8_judge 4 Z 83 [(3, .int ((nI ix) + (nI 1))), (2, .int ((nI (pw_ct_ (pw_qm A) ix)) + (nI 0))), (0, .ref 26), (1, .int (nI j6))] [] mm
            rw [show (nI ix) + (nI 1) = nI (ix + 1) from nI_add _ _]
            rw [show (nI (pw_ct_ (pw_qm A) ix)) + (nI 0) = nI ((pw_ct_ (pw_qm A) ix) + 0) from nI_add _ _]
            refine pw_goto (tgt := 25) (off := -58) (by decide +kernel) (by decide) ?_
            rw [show nI ((pw_ct_ (pw_qm A) ix) + 0) = nI (pw_ct_ (pw_qm A) (ix + 1)) from by simp [pw_ct_, pw_qm, h6, h13, h30, h44, h70]]
            refine pw_lvp [2, 3, 1, 0] rfl ?_
            exact ih (by omega)
          · refine pw_blk (pc' := 74) [.iconst 1] (by decide +kernel) ?_
            show pw_V x m_X8_judge 4 Z 74 [(0, .ref 26), (1, .int (nI j6)), (2, .int (nI (pw_ct_ (pw_qm A) ix))), (3, .int (nI ix))] [.int (nI 1), .int (nI (pw_ct_ (pw_qm A) ix))] mm
            refine pw_goto (tgt := 78) (off := 4) (by decide +kernel) (by decide) ?_
            refine pw_blk (pc' := 83) [.iadd, .istore 2, .iinc 3 1] (by decide +kernel) ?_
            show pw_V x m_X8_judge 4 Z 83 [(3, .int ((nI ix) + (nI 1))), (2, .int ((nI (pw_ct_ (pw_qm A) ix)) + (nI 1))), (0, .ref 26), (1, .int (nI j6))] [] mm
            rw [show (nI ix) + (nI 1) = nI (ix + 1) from nI_add _ _]
            rw [show (nI (pw_ct_ (pw_qm A) ix)) + (nI 1) = nI ((pw_ct_ (pw_qm A) ix) + 1) from nI_add _ _]
            refine pw_goto (tgt := 25) (off := -58) (by decide +kernel) (by decide) ?_
            rw [show nI ((pw_ct_ (pw_qm A) ix) + 1) = nI (pw_ct_ (pw_qm A) (ix + 1)) from by simp [pw_ct_, pw_qm, h6, h13, h30, h44, h70]]
            refine pw_lvp [2, 3, 1, 0] rfl ?_
            exact ih (by omega)
    · refine pw_blk (pc' := 17) [.aload 0] (by decide +kernel) ?_
      show pw_V x m_X8_judge 4 Z 17 [(0, .ref 26), (1, .int (nI j6))] [.ref 26] mm
      refine pw_cV (vs := []) (rest := []) k_X8_wrongs (c_mwrongs mm hv hok) l_8_219 rfl rfl rfl rfl (by omega) (Nat.le_of_ble_eq_true rfl) (by decide +kernel) ?_
      rintro _ m1 ⟨rfl, e1⟩
      rw [e1]
      clear e1 m1
      show pw_V x m_X8_judge 4 Z 20 [(0, .ref 26), (1, .int (nI j6))] [.int (nI (pw_wrs A))] mm
      have bwr17 := pw_wrs_lt hok
      rw [← hZ]
      refine pw_ri (by decide +kernel) ?_
      refine ⟨?_, rfl⟩
      subst h13
      rfl
  · refine pw_blk (pc' := 11) [.iconst (-3)] (by decide +kernel) ?_
    show pw_V x m_X8_judge 4 Z 11 [(0, .ref 26), (1, .int w)] [.int (-3)] mm
    rw [← hZ]
    refine pw_ri (by decide +kernel) ?_
    refine ⟨?_, rfl⟩
    have n0 : ¬ w = nI 0 := fun z => by rw [z] at h6; revert h6; decide
    have n1 : ¬ w = nI 1 := fun z => by rw [z] at h6; revert h6; decide
    unfold F_judge
    rw [if_neg n0, if_neg n1]
