set_option maxHeartbeats 4000000 in
set_option maxRecDepth 100000 in
theorem c_mrem {A : pw_m} (mm : pw_m) (hv : MV A mm) (hok : pw_ok A) : pw_Ct 0 yX8_remembers m_X8_remembers [.ref 26] mm (fun r m' => r = none ∧ MV (pw_rem A) m' ∧ pw_mf_ mm m') := by
  refine pw_ct (by decide +kernel) rfl (Nat.le_of_ble_eq_true rfl) (fun x => ?_)
  generalize hZ : pw_Z x _ = Z
  have bn := pw_bn hok
  have bk := pw_bk hok
  have b112 := pw_b112 hok
  have cp : ∀ (Bx : pw_m) (ax : Nat), Bx 26 9 = nI ax → ax < 8 → MV (pw_rem A) (pw_up (pw_cpS Bx ax 20) 26 9 (nI (ax + 1))) → pw_mf_ mm Bx → pw_V x m_X8_remembers 0 Z 49 [(0, .ref 26)] [] Bx := by
    intro Bx ax hax ha8 hmv hmf
    refine pw_blk (pc' := 51) [.iconst 0, .istore 1] (by decide +kernel) ?_
    show pw_V x m_X8_remembers 0 Z 51 [(1, .int (nI 0)), (0, .ref 26)] [] Bx
    refine pw_lvp [1, 0] rfl ?_
    rw [← pw_cpS_0 (B := Bx) (a := ax)]
    suffices lo : ∀ ix : Nat, ix ≤ 20 → pw_V x m_X8_remembers 0 Z 51 [(0, .ref 26), (1, .int (nI ix))] [] (pw_cpS Bx ax ix) from lo 0 (by omega)
    refine pw_dn 20 (fun ix hix ih => ?_)
    refine pw_blk (pc' := 54) [.iload 1, .iconst (20)] (by decide +kernel) ?_
    show pw_V x m_X8_remembers 0 Z 54 [(0, .ref 26), (1, .int (nI ix))] [.int (nI 20), .int (nI ix)] (pw_cpS Bx ax ix)
    refine pw_in_ge (tgt := 83) (off := 29) (by first | omega | exact pw_g_lt) (by first | omega | exact pw_g_lt) (by decide +kernel) (by decide) (fun h54 => ?_) (fun h54 => ?_)
    · refine pw_blk (pc' := 93) [.aload 0, .dup, .getfield 809, .iconst 1, .iadd, .putfield 809] (by decide +kernel) ?_
      show pw_V x m_X8_remembers 0 Z 93 [(0, .ref 26), (1, .int (nI ix))] [] (pw_up (pw_cpS Bx ax ix) 26 9 (((pw_cpS Bx ax ix) 26 9) + (nI 1)))
      rw [show (pw_cpS Bx ax ix) 26 9 = nI ax from hax]
      rw [show (nI ax) + (nI 1) = nI (ax + 1) from nI_add _ _]
      rw [← hZ]
      refine pw_rv (by decide +kernel) ?_
      refine ⟨rfl, ?_, ?_⟩
      · rw [show ix = 20 by omega]; exact hmv
      · exact pw_mf_u (pw_mf_t hmf (fun c hc => by unfold pw_cpS; rw [if_neg (by omega)])) (by decide)
    · refine pw_blk (pc' := 80) [.aload 0, .getfield 810, .iconst (20), .aload 0, .getfield 809, .imul, .iload 1, .iadd, .aload 0, .getfield 808, .iload 1, .iaload, .iastore, .iinc 1 1] (by decide +kernel) ?_
      refine ⟨ix, rfl, by first | omega | exact pw_g_lt, ?_⟩
      refine ⟨((20 * ax) + ix), (show ((nI 20) * ((pw_cpS Bx ax ix) 26 9)) + (nI ix) = nI ((20 * ax) + ix) from by rw [show (pw_cpS Bx ax ix) 26 9 = nI ax from hax, show (nI 20) * (nI ax) = nI (20 * ax) from pk_mul _ _, show (nI (20 * ax)) + (nI ix) = nI ((20 * ax) + ix) from nI_add _ _]), by first | omega | exact pw_g_lt, ?_⟩
      show pw_V x m_X8_remembers 0 Z 80 [(1, .int ((nI ix) + (nI 1))), (0, .ref 26)] [] (pw_up (pw_cpS Bx ax ix) 31 ((20 * ax) + ix) ((pw_cpS Bx ax ix) 30 ix))
      rw [show (nI ix) + (nI 1) = nI (ix + 1) from nI_add _ _]
      refine pw_goto (tgt := 51) (off := -29) (by decide +kernel) (by decide) ?_
      rw [show pw_up (pw_cpS Bx ax ix) 31 ((20 * ax) + ix) ((pw_cpS Bx ax ix) 30 ix) = pw_cpS Bx ax (ix + 1) from pw_cpS_s]
      refine pw_lvp [1, 0] rfl ?_
      exact ih (by omega)
  show pw_V x m_X8_remembers 0 Z 0 [(0, .ref 26)] [] mm
  refine pw_blk (pc' := 6) [.aload 0, .getfield 809, .iconst (8)] (by decide +kernel) ?_
  show pw_V x m_X8_remembers 0 Z 6 [(0, .ref 26)] [.int (nI 8), .int (mm 26 9)] mm
  rw [show mm 26 9 = nI (pw_g A 11 2) from mv_ac hv hok]
  refine pw_in_ne (tgt := 49) (off := 43) (by first | omega | exact pw_g_lt) (by first | omega | exact pw_g_lt) (by decide +kernel) (by decide) (fun h6 => ?_) (fun h6 => ?_)
  · refine pw_lvp [0] rfl ?_
    exact cp mm (pw_g A 11 2) (mv_ac hv hok) (by omega) (mv_rem1 hv hok (by omega)) pw_mf_r
  · refine pw_blk (pc' := 11) [.iconst 0, .istore 1] (by decide +kernel) ?_
    show pw_V x m_X8_remembers 0 Z 11 [(1, .int (nI 0)), (0, .ref 26)] [] mm
    refine pw_lvp [1, 0] rfl ?_
    rw [← pw_shI_0 (B := mm)]
    suffices lo : ∀ ix : Nat, ix ≤ 140 → pw_V x m_X8_remembers 0 Z 11 [(0, .ref 26), (1, .int (nI ix))] [] (pw_shI mm ix) from lo 0 (by omega)
    refine pw_dn 140 (fun ix hix ih => ?_)
    refine pw_blk (pc' := 15) [.iload 1, .iconst (140)] (by decide +kernel) ?_
    show pw_V x m_X8_remembers 0 Z 15 [(0, .ref 26), (1, .int (nI ix))] [.int (nI 140), .int (nI ix)] (pw_shI mm ix)
    refine pw_in_ge (tgt := 39) (off := 24) (by first | omega | exact pw_g_lt) (by first | omega | exact pw_g_lt) (by decide +kernel) (by decide) (fun h15 => ?_) (fun h15 => ?_)
    · have e140 : ix = 140 := by omega
      subst e140
      refine pw_blk (pc' := 46) [.aload 0, .dup, .getfield 809, .iconst 1, .isub] (by decide +kernel) ?_
      show pw_V x m_X8_remembers 0 Z 46 [(0, .ref 26), (1, .int (nI 140))] [.int (((pw_shI mm 140) 26 9) - (nI 1)), .ref 26] (pw_shI mm 140)
      rw [show (pw_shI mm 140) 26 9 = nI 8 from ((mv_ac hv hok).trans (by rw [h6]) : mm 26 9 = nI 8)]
      rw [show (nI 8) - (nI 1) = nI 7 from by decide]
      refine pw_blk (pc' := 49) [.putfield 809] (by decide +kernel) ?_
      show pw_V x m_X8_remembers 0 Z 49 [(0, .ref 26), (1, .int (nI 140))] [] (pw_up (pw_shI mm 140) 26 9 (nI 7))
      refine pw_lvp [0] rfl ?_
      exact cp (pw_up (pw_shI mm 140) 26 9 (nI 7)) 7 rfl (by omega) (mv_rem8 hv hok h6) (pw_mf_u (fun c hc => by unfold pw_shI; rw [if_neg (by omega)]) (by decide))
    · refine pw_blk (pc' := 36) [.aload 0, .getfield 810, .iload 1, .aload 0, .getfield 810, .iload 1, .iconst (20), .iadd, .iaload, .iastore, .iinc 1 1] (by decide +kernel) ?_
      refine ⟨(ix + 20), (show (nI ix) + (nI 20) = nI (ix + 20) from by rw [show (nI ix) + (nI 20) = nI (ix + 20) from nI_add _ _]), by first | omega | exact pw_g_lt, ?_⟩
      refine ⟨ix, rfl, by first | omega | exact pw_g_lt, ?_⟩
      show pw_V x m_X8_remembers 0 Z 36 [(1, .int ((nI ix) + (nI 1))), (0, .ref 26)] [] (pw_up (pw_shI mm ix) 31 ix ((pw_shI mm ix) 31 (ix + 20)))
      rw [show (nI ix) + (nI 1) = nI (ix + 1) from nI_add _ _]
      refine pw_goto (tgt := 11) (off := -25) (by decide +kernel) (by decide) ?_
      rw [show pw_up (pw_shI mm ix) 31 ix ((pw_shI mm ix) 31 (ix + 20)) = pw_shI mm (ix + 1) from pw_shI_s]
      refine pw_lvp [1, 0] rfl ?_
      exact ih (by omega)

set_option maxHeartbeats 4000000 in
set_option maxRecDepth 100000 in
theorem c_mrise (mm : pw_m) : pw_Ct 0 yX8_allRise m_X8_allRise [.ref 26] mm (fun r m' => r = none ∧ m' = pw_rsM mm 6) := by
  refine pw_ct (by decide +kernel) rfl (Nat.le_of_ble_eq_true rfl) (fun x => ?_)
  generalize hZ : pw_Z x _ = Z
  show pw_V x m_X8_allRise 0 Z 0 [(0, .ref 26)] [] mm
  refine pw_blk (pc' := 2) [.iconst 0, .istore 1] (by decide +kernel) ?_
  show pw_V x m_X8_allRise 0 Z 2 [(1, .int (nI 0)), (0, .ref 26)] [] mm
  refine pw_lvp [1, 0] rfl ?_
  rw [show mm = pw_rsM mm 0 from pw_rsM_0.symm]
  suffices lo : ∀ ix : Nat, ix ≤ 6 → pw_V x m_X8_allRise 0 Z 2 [(0, .ref 26), (1, .int (nI ix))] [] (pw_rsM mm ix) from lo 0 (by omega)
  refine pw_dn (6) (fun ix hix ih => ?_)
  refine pw_blk (pc' := 5) [.iload 1, .iconst (6)] (by decide +kernel) ?_
  show pw_V x m_X8_allRise 0 Z 5 [(0, .ref 26), (1, .int (nI ix))] [.int (nI 6), .int (nI ix)] (pw_rsM mm ix)
  refine pw_in_ge (tgt := 24) (off := 19) (by omega) (by omega) (by decide +kernel) (by decide) (fun h5 => ?_) (fun h5 => ?_)
  · rw [← hZ]
    refine pw_rv (by decide +kernel) ?_
    refine ⟨rfl, ?_⟩
    rw [show ix = 6 by omega]
  · refine pw_blk (pc' := 21) [.aload 0, .getfield 808, .iconst (14), .iload 1, .iadd, .iconst (-1), .iastore, .iinc 1 1] (by decide +kernel) ?_
    refine ⟨(14 + ix), (show (nI 14) + (nI ix) = nI (14 + ix) from by rw [show (nI 14) + (nI ix) = nI (14 + ix) from nI_add _ _]), by omega, ?_⟩
    show pw_V x m_X8_allRise 0 Z 21 [(1, .int ((nI ix) + (nI 1))), (0, .ref 26)] [] (pw_up (pw_rsM mm ix) 30 (14 + ix) (-1))
    rw [show (nI ix) + (nI 1) = nI (ix + 1) from nI_add _ _]
    refine pw_goto (tgt := 2) (off := -19) (by decide +kernel) (by decide) ?_
    rw [show pw_up (pw_rsM mm ix) 30 (14 + ix) (-1) = pw_rsM mm (ix + 1) from pw_rsM_s]
    refine pw_lvp [1, 0] rfl ?_
    exact ih (by omega)
