set_option maxHeartbeats 4000000 in
set_option maxRecDepth 100000 in
theorem c_mspells {A : pw_m} (mm : pw_m) (hx : MX A mm) (e : Nat) (he2 : e ≤ pw_g A 2 1) (hT : TK A mm e) (b21 : pw_g A 2 1 ≤ 160) (L k xa ya za : Nat) (hL : L < 100) (hk : k < 100) : pw_Ct 1 yX8_spells m_X8_spells [.ref 26, .int (nI L), .int (nI k), .int (nI xa), .int (nI ya), .int (nI za)] mm (fun r m' => r = some (.int (pw_b (pw_sp A e L k xa ya za))) ∧ m' = mm) := by
  refine pw_ct (by decide +kernel) rfl (Nat.le_of_ble_eq_true rfl) (fun x => ?_)
  generalize hZ : pw_Z x _ = Z
  have z0 := pw_tb1 he2
  have zm := pw_mT_b (A := A) (e := e)
  show pw_V x m_X8_spells 1 Z 0 [(0, .ref 26), (1, .int (nI L)), (2, .int (nI k)), (3, .int (nI xa)), (4, .int (nI ya)), (5, .int (nI za))] [] mm
  refine pw_blk (pc' := 5) [.aload 0, .getfield 819, .iconst 1] (by decide +kernel) ?_
  show pw_V x m_X8_spells 1 Z 5 [(0, .ref 26), (1, .int (nI L)), (2, .int (nI k)), (3, .int (nI xa)), (4, .int (nI ya)), (5, .int (nI za))] [.int (nI 1), .int (mm 26 19)] mm
  rw [show mm 26 19 = nI (pw_mT A e) from hT.2.2.1]
  refine pw_in_ne (tgt := 73) (off := 68) (by omega) (by omega) (by decide +kernel) (by decide) (fun h5 => ?_) (fun h5 => ?_)
  · refine pw_blk (pc' := 74) [.iconst 0] (by decide +kernel) ?_
    show pw_V x m_X8_spells 1 Z 74 [(0, .ref 26), (1, .int (nI L)), (2, .int (nI k)), (3, .int (nI xa)), (4, .int (nI ya)), (5, .int (nI za))] [.int (nI 0)] mm
    rw [← hZ]
    refine pw_rz (by decide +kernel) (Or.inl rfl) ?_
    refine ⟨?_, rfl⟩
    unfold pw_sp
    simp [h5]
    try rfl
  · refine pw_blk (pc' := 16) [.aload 0, .getfield 817, .aload 0, .getfield 818] (by decide +kernel) ?_
    show pw_V x m_X8_spells 1 Z 16 [(0, .ref 26), (1, .int (nI L)), (2, .int (nI k)), (3, .int (nI xa)), (4, .int (nI ya)), (5, .int (nI za))] [.int (mm 26 18), .int (mm 26 17)] mm
    rw [show mm 26 18 = nI (pw_tB A e) from hT.2.1]
    rw [show mm 26 17 = nI (pw_tE A e) from hT.1]
    refine pw_blk (pc' := 17) [.isub] (by decide +kernel) ?_
    show pw_V x m_X8_spells 1 Z 17 [(0, .ref 26), (1, .int (nI L)), (2, .int (nI k)), (3, .int (nI xa)), (4, .int (nI ya)), (5, .int (nI za))] [.int (nI (pw_tE A e) - nI (pw_tB A e))] mm
    rw [pk_sub (show (pw_tB A e) ≤ (pw_tE A e) by omega)]
    refine pw_blk (pc' := 18) [.iload 1] (by decide +kernel) ?_
    show pw_V x m_X8_spells 1 Z 18 [(0, .ref 26), (1, .int (nI L)), (2, .int (nI k)), (3, .int (nI xa)), (4, .int (nI ya)), (5, .int (nI za))] [.int (nI L), .int (nI ((pw_tE A e) - (pw_tB A e)))] mm
    refine pw_in_ne (tgt := 73) (off := 55) (by omega) (by omega) (by decide +kernel) (by decide) (fun h18 => ?_) (fun h18 => ?_)
    · refine pw_blk (pc' := 74) [.iconst 0] (by decide +kernel) ?_
      show pw_V x m_X8_spells 1 Z 74 [(0, .ref 26), (1, .int (nI L)), (2, .int (nI k)), (3, .int (nI xa)), (4, .int (nI ya)), (5, .int (nI za))] [.int (nI 0)] mm
      rw [← hZ]
      refine pw_rz (by decide +kernel) (Or.inl rfl) ?_
      refine ⟨?_, rfl⟩
      unfold pw_sp
      simp [h5, h18]
      try rfl
    · refine pw_blk (pc' := 28) [.aload 0, .aload 0, .getfield 818, .iload 2, .iadd] (by decide +kernel) ?_
      show pw_V x m_X8_spells 1 Z 28 [(0, .ref 26), (1, .int (nI L)), (2, .int (nI k)), (3, .int (nI xa)), (4, .int (nI ya)), (5, .int (nI za))] [.int ((mm 26 18) + (nI k)), .ref 26] mm
      rw [show mm 26 18 = nI (pw_tB A e) from hT.2.1]
      rw [show (nI (pw_tB A e)) + (nI k) = nI ((pw_tB A e) + k) from nI_add _ _]
      refine pw_cV (vs := [.int (nI ((pw_tB A e) + k))]) (rest := []) k_X8_letterAt (c_mlet (A := A) mm hx ((pw_tB A e) + k) (by omega) b21) l_8_96 rfl rfl rfl rfl (by omega) (Nat.le_of_ble_eq_true rfl) (by decide +kernel) ?_
      rintro _ m1 ⟨rfl, e1⟩
      rw [e1]
      clear e1 m1
      show pw_V x m_X8_spells 1 Z 31 [(0, .ref 26), (1, .int (nI L)), (2, .int (nI k)), (3, .int (nI xa)), (4, .int (nI ya)), (5, .int (nI za))] [.int (pw_lt_ A ((pw_tB A e) + k))] mm
      refine pw_blk (pc' := 32) [.iload 3] (by decide +kernel) ?_
      show pw_V x m_X8_spells 1 Z 32 [(0, .ref 26), (1, .int (nI L)), (2, .int (nI k)), (3, .int (nI xa)), (4, .int (nI ya)), (5, .int (nI za))] [.int (nI xa), .int (pw_lt_ A ((pw_tB A e) + k))] mm
      refine pw_ic_ne (tgt := 73) (off := 41) (by decide +kernel) (by decide) (fun h32 => ?_) (fun h32 => ?_)
      · refine pw_blk (pc' := 74) [.iconst 0] (by decide +kernel) ?_
        show pw_V x m_X8_spells 1 Z 74 [(0, .ref 26), (1, .int (nI L)), (2, .int (nI k)), (3, .int (nI xa)), (4, .int (nI ya)), (5, .int (nI za))] [.int (nI 0)] mm
        rw [← hZ]
        refine pw_rz (by decide +kernel) (Or.inl rfl) ?_
        refine ⟨?_, rfl⟩
        unfold pw_sp
        simp [h5, h18, h32]
        try rfl
      · refine pw_blk (pc' := 44) [.aload 0, .aload 0, .getfield 818, .iload 2, .iadd, .iconst 1, .iadd] (by decide +kernel) ?_
        show pw_V x m_X8_spells 1 Z 44 [(0, .ref 26), (1, .int (nI L)), (2, .int (nI k)), (3, .int (nI xa)), (4, .int (nI ya)), (5, .int (nI za))] [.int (((mm 26 18) + (nI k)) + (nI 1)), .ref 26] mm
        rw [show mm 26 18 = nI (pw_tB A e) from hT.2.1]
        rw [show (nI (pw_tB A e)) + (nI k) = nI ((pw_tB A e) + k) from nI_add _ _]
        rw [show (nI ((pw_tB A e) + k)) + (nI 1) = nI (((pw_tB A e) + k) + 1) from nI_add _ _]
        refine pw_cV (vs := [.int (nI (((pw_tB A e) + k) + 1))]) (rest := []) k_X8_letterAt (c_mlet (A := A) mm hx (((pw_tB A e) + k) + 1) (by omega) b21) l_8_96 rfl rfl rfl rfl (by omega) (Nat.le_of_ble_eq_true rfl) (by decide +kernel) ?_
        rintro _ m1 ⟨rfl, e1⟩
        rw [e1]
        clear e1 m1
        show pw_V x m_X8_spells 1 Z 47 [(0, .ref 26), (1, .int (nI L)), (2, .int (nI k)), (3, .int (nI xa)), (4, .int (nI ya)), (5, .int (nI za))] [.int (pw_lt_ A (((pw_tB A e) + k) + 1))] mm
        refine pw_blk (pc' := 49) [.iload 4] (by decide +kernel) ?_
        show pw_V x m_X8_spells 1 Z 49 [(0, .ref 26), (1, .int (nI L)), (2, .int (nI k)), (3, .int (nI xa)), (4, .int (nI ya)), (5, .int (nI za))] [.int (nI ya), .int (pw_lt_ A (((pw_tB A e) + k) + 1))] mm
        refine pw_ic_ne (tgt := 73) (off := 24) (by decide +kernel) (by decide) (fun h49 => ?_) (fun h49 => ?_)
        · refine pw_blk (pc' := 74) [.iconst 0] (by decide +kernel) ?_
          show pw_V x m_X8_spells 1 Z 74 [(0, .ref 26), (1, .int (nI L)), (2, .int (nI k)), (3, .int (nI xa)), (4, .int (nI ya)), (5, .int (nI za))] [.int (nI 0)] mm
          rw [← hZ]
          refine pw_rz (by decide +kernel) (Or.inl rfl) ?_
          refine ⟨?_, rfl⟩
          unfold pw_sp
          simp [h5, h18, h32, h49]
          try rfl
        · refine pw_blk (pc' := 61) [.aload 0, .aload 0, .getfield 818, .iload 2, .iadd, .iconst 2, .iadd] (by decide +kernel) ?_
          show pw_V x m_X8_spells 1 Z 61 [(0, .ref 26), (1, .int (nI L)), (2, .int (nI k)), (3, .int (nI xa)), (4, .int (nI ya)), (5, .int (nI za))] [.int (((mm 26 18) + (nI k)) + (nI 2)), .ref 26] mm
          rw [show mm 26 18 = nI (pw_tB A e) from hT.2.1]
          rw [show (nI (pw_tB A e)) + (nI k) = nI ((pw_tB A e) + k) from nI_add _ _]
          rw [show (nI ((pw_tB A e) + k)) + (nI 2) = nI (((pw_tB A e) + k) + 2) from nI_add _ _]
          refine pw_cV (vs := [.int (nI (((pw_tB A e) + k) + 2))]) (rest := []) k_X8_letterAt (c_mlet (A := A) mm hx (((pw_tB A e) + k) + 2) (by omega) b21) l_8_96 rfl rfl rfl rfl (by omega) (Nat.le_of_ble_eq_true rfl) (by decide +kernel) ?_
          rintro _ m1 ⟨rfl, e1⟩
          rw [e1]
          clear e1 m1
          show pw_V x m_X8_spells 1 Z 64 [(0, .ref 26), (1, .int (nI L)), (2, .int (nI k)), (3, .int (nI xa)), (4, .int (nI ya)), (5, .int (nI za))] [.int (pw_lt_ A (((pw_tB A e) + k) + 2))] mm
          refine pw_blk (pc' := 66) [.iload 5] (by decide +kernel) ?_
          show pw_V x m_X8_spells 1 Z 66 [(0, .ref 26), (1, .int (nI L)), (2, .int (nI k)), (3, .int (nI xa)), (4, .int (nI ya)), (5, .int (nI za))] [.int (nI za), .int (pw_lt_ A (((pw_tB A e) + k) + 2))] mm
          refine pw_ic_ne (tgt := 73) (off := 7) (by decide +kernel) (by decide) (fun h66 => ?_) (fun h66 => ?_)
          · refine pw_blk (pc' := 74) [.iconst 0] (by decide +kernel) ?_
            show pw_V x m_X8_spells 1 Z 74 [(0, .ref 26), (1, .int (nI L)), (2, .int (nI k)), (3, .int (nI xa)), (4, .int (nI ya)), (5, .int (nI za))] [.int (nI 0)] mm
            rw [← hZ]
            refine pw_rz (by decide +kernel) (Or.inl rfl) ?_
            refine ⟨?_, rfl⟩
            unfold pw_sp
            simp [h5, h18, h32, h49, h66]
            try rfl
          · refine pw_blk (pc' := 70) [.iconst 1] (by decide +kernel) ?_
            show pw_V x m_X8_spells 1 Z 70 [(0, .ref 26), (1, .int (nI L)), (2, .int (nI k)), (3, .int (nI xa)), (4, .int (nI ya)), (5, .int (nI za))] [.int (nI 1)] mm
            refine pw_goto (tgt := 74) (off := 4) (by decide +kernel) (by decide) ?_
            rw [← hZ]
            refine pw_rz (by decide +kernel) (Or.inr rfl) ?_
            refine ⟨?_, rfl⟩
            unfold pw_sp
            simp [h5, h18, h32, h49, h66]
            try rfl

set_option maxHeartbeats 4000000 in
set_option maxRecDepth 100000 in
theorem c_moword {A : pw_m} (mm : pw_m) (hx : MX A mm) (e : Nat) (he2 : e ≤ pw_g A 2 1) (hT : TK A mm e) (b21 : pw_g A 2 1 ≤ 160) (hw : pw_tW A e = pw_Rw A e 48 8) : pw_Ct 2 yX8_otherWord m_X8_otherWord [.ref 26] mm (fun r m' => r = some (.int (nI (pw_wc (pw_tW A e)))) ∧ m' = mm) := by
  refine pw_ct (by decide +kernel) rfl (Nat.le_of_ble_eq_true rfl) (fun x => ?_)
  generalize hZ : pw_Z x _ = Z
  have z0 := pw_tb1 he2
  have zm := pw_mT_b (A := A) (e := e)
  have j117 : pw_tW A e = pw_Rw A e 68 11 → pw_V x m_X8_otherWord 2 Z 117 [(0, .ref 26)] [] mm := by
    intro hw
    refine pw_blk (pc' := 126) [.aload 0, .iconst 5, .iconst 0, .iconst (112), .iconst (101), .iconst (97)] (by decide +kernel) ?_
    show pw_V x m_X8_otherWord 2 Z 126 [(0, .ref 26)] [.int (nI 97), .int (nI 101), .int (nI 112), .int (nI 0), .int (nI 5), .ref 26] mm
    refine pw_cV (vs := [.int (nI 5), .int (nI 0), .int (nI 112), .int (nI 101), .int (nI 97)]) (rest := []) k_X8_spells (c_mspells mm hx e he2 hT b21 5 0 112 101 97 (by decide) (by decide)) l_8_115 rfl rfl rfl rfl (by omega) (Nat.le_of_ble_eq_true rfl) (by decide +kernel) ?_
    rintro _ m1 ⟨rfl, e1⟩
    rw [e1]
    clear e1 m1
    show pw_V x m_X8_otherWord 2 Z 129 [(0, .ref 26)] [.int (pw_b (pw_sp A e 5 0 112 101 97))] mm
    refine pw_ib_eq (tgt := 152) (off := 23) (by decide +kernel) (by decide) (fun h129 => ?_) (fun h129 => ?_)
    · refine pw_blk (pc' := 153) [.iconst 0] (by decide +kernel) ?_
      show pw_V x m_X8_otherWord 2 Z 153 [(0, .ref 26)] [.int (nI 0)] mm
      rw [← hZ]
      refine pw_ri (by decide +kernel) ?_
      have e0 : pw_tW A e = none := by
        rw [hw, pw_Rw_n (p := 68) (L := 5) (by decide) (by decide) (by omega) he2 ?_]
        · exact pw_Rw_12
        · intro zz
          have q := pw_mw_sp (k := 0) (x := 112) (y := 101) (z := 97) he2 zz (by omega) (by decide) (by decide) (by decide)
          rw [h129] at q
          cases q
      exact ⟨by rw [e0]; rfl, rfl⟩
    · refine pw_blk (pc' := 141) [.aload 0, .iconst 5, .iconst 2, .iconst (97), .iconst (99), .iconst (101)] (by decide +kernel) ?_
      show pw_V x m_X8_otherWord 2 Z 141 [(0, .ref 26)] [.int (nI 101), .int (nI 99), .int (nI 97), .int (nI 2), .int (nI 5), .ref 26] mm
      refine pw_cV (vs := [.int (nI 5), .int (nI 2), .int (nI 97), .int (nI 99), .int (nI 101)]) (rest := []) k_X8_spells (c_mspells mm hx e he2 hT b21 5 2 97 99 101 (by decide) (by decide)) l_8_115 rfl rfl rfl rfl (by omega) (Nat.le_of_ble_eq_true rfl) (by decide +kernel) ?_
      rintro _ m1 ⟨rfl, e1⟩
      rw [e1]
      clear e1 m1
      show pw_V x m_X8_otherWord 2 Z 144 [(0, .ref 26)] [.int (pw_b (pw_sp A e 5 2 97 99 101))] mm
      refine pw_ib_eq (tgt := 152) (off := 8) (by decide +kernel) (by decide) (fun h144 => ?_) (fun h144 => ?_)
      · refine pw_blk (pc' := 153) [.iconst 0] (by decide +kernel) ?_
        show pw_V x m_X8_otherWord 2 Z 153 [(0, .ref 26)] [.int (nI 0)] mm
        rw [← hZ]
        refine pw_ri (by decide +kernel) ?_
        have e0 : pw_tW A e = none := by
          rw [hw, pw_Rw_n (p := 68) (L := 5) (by decide) (by decide) (by omega) he2 ?_]
          · exact pw_Rw_12
          · intro zz
            have q := pw_mw_sp (k := 2) (x := 97) (y := 99) (z := 101) he2 zz (by omega) (by decide) (by decide) (by decide)
            rw [h144] at q
            cases q
        exact ⟨by rw [e0]; rfl, rfl⟩
      · refine pw_blk (pc' := 149) [.iconst (13)] (by decide +kernel) ?_
        show pw_V x m_X8_otherWord 2 Z 149 [(0, .ref 26)] [.int (nI 13)] mm
        refine pw_goto (tgt := 153) (off := 4) (by decide +kernel) (by decide) ?_
        rw [← hZ]
        refine pw_ri (by decide +kernel) ?_
        have hmw : pw_mw A e 68 5 := by
          refine ⟨(pw_sp_d h129).1, by have z1 := (pw_sp_d h129).2.1; omega, fun m hm => ?_⟩
          by_cases q0 : m < 3
          · exact pw_sp_l (p := 68) he2 h129 (by omega) (by decide) (by decide) (by decide) m (by omega) (by omega)
          exact pw_sp_l (p := 68) he2 h144 (by omega) (by decide) (by decide) (by decide) m (by omega) (by omega)
        have e0 : pw_tW A e = some 11 := by rw [hw]; exact pw_Rw_y (p := 68) (L := 5) (by decide) (by decide) (by omega) he2 hmw
        exact ⟨by rw [e0]; rfl, rfl⟩
  have j84 : pw_tW A e = pw_Rw A e 62 10 → pw_V x m_X8_otherWord 2 Z 84 [(0, .ref 26)] [] mm := by
    intro hw
    refine pw_blk (pc' := 93) [.aload 0, .iconst 5, .iconst 0, .iconst (109), .iconst (101), .iconst (97)] (by decide +kernel) ?_
    show pw_V x m_X8_otherWord 2 Z 93 [(0, .ref 26)] [.int (nI 97), .int (nI 101), .int (nI 109), .int (nI 0), .int (nI 5), .ref 26] mm
    refine pw_cV (vs := [.int (nI 5), .int (nI 0), .int (nI 109), .int (nI 101), .int (nI 97)]) (rest := []) k_X8_spells (c_mspells mm hx e he2 hT b21 5 0 109 101 97 (by decide) (by decide)) l_8_115 rfl rfl rfl rfl (by omega) (Nat.le_of_ble_eq_true rfl) (by decide +kernel) ?_
    rintro _ m1 ⟨rfl, e1⟩
    rw [e1]
    clear e1 m1
    show pw_V x m_X8_otherWord 2 Z 96 [(0, .ref 26)] [.int (pw_b (pw_sp A e 5 0 109 101 97))] mm
    refine pw_ib_eq (tgt := 117) (off := 21) (by decide +kernel) (by decide) (fun h96 => ?_) (fun h96 => ?_)
    · refine j117 (hw.trans (pw_Rw_n (p := 62) (L := 5) (by decide) (by decide) (by omega) he2 ?_))
      intro zz
      have q := pw_mw_sp (k := 0) (x := 109) (y := 101) (z := 97) he2 zz (by omega) (by decide) (by decide) (by decide)
      rw [h96] at q
      cases q
    · refine pw_blk (pc' := 108) [.aload 0, .iconst 5, .iconst 2, .iconst (97), .iconst (110), .iconst (116)] (by decide +kernel) ?_
      show pw_V x m_X8_otherWord 2 Z 108 [(0, .ref 26)] [.int (nI 116), .int (nI 110), .int (nI 97), .int (nI 2), .int (nI 5), .ref 26] mm
      refine pw_cV (vs := [.int (nI 5), .int (nI 2), .int (nI 97), .int (nI 110), .int (nI 116)]) (rest := []) k_X8_spells (c_mspells mm hx e he2 hT b21 5 2 97 110 116 (by decide) (by decide)) l_8_115 rfl rfl rfl rfl (by omega) (Nat.le_of_ble_eq_true rfl) (by decide +kernel) ?_
      rintro _ m1 ⟨rfl, e1⟩
      rw [e1]
      clear e1 m1
      show pw_V x m_X8_otherWord 2 Z 111 [(0, .ref 26)] [.int (pw_b (pw_sp A e 5 2 97 110 116))] mm
      refine pw_ib_eq (tgt := 117) (off := 6) (by decide +kernel) (by decide) (fun h111 => ?_) (fun h111 => ?_)
      · refine j117 (hw.trans (pw_Rw_n (p := 62) (L := 5) (by decide) (by decide) (by omega) he2 ?_))
        intro zz
        have q := pw_mw_sp (k := 2) (x := 97) (y := 110) (z := 116) he2 zz (by omega) (by decide) (by decide) (by decide)
        rw [h111] at q
        cases q
      · refine pw_blk (pc' := 116) [.iconst (12)] (by decide +kernel) ?_
        show pw_V x m_X8_otherWord 2 Z 116 [(0, .ref 26)] [.int (nI 12)] mm
        rw [← hZ]
        refine pw_ri (by decide +kernel) ?_
        have hmw : pw_mw A e 62 5 := by
          refine ⟨(pw_sp_d h96).1, by have z1 := (pw_sp_d h96).2.1; omega, fun m hm => ?_⟩
          by_cases q0 : m < 3
          · exact pw_sp_l (p := 62) he2 h96 (by omega) (by decide) (by decide) (by decide) m (by omega) (by omega)
          exact pw_sp_l (p := 62) he2 h111 (by omega) (by decide) (by decide) (by decide) m (by omega) (by omega)
        have e0 : pw_tW A e = some 10 := by rw [hw]; exact pw_Rw_y (p := 62) (L := 5) (by decide) (by decide) (by omega) he2 hmw
        exact ⟨by rw [e0]; rfl, rfl⟩
  have j51 : pw_tW A e = pw_Rw A e 56 9 → pw_V x m_X8_otherWord 2 Z 51 [(0, .ref 26)] [] mm := by
    intro hw
    refine pw_blk (pc' := 60) [.aload 0, .iconst 5, .iconst 0, .iconst (112), .iconst (101), .iconst (114)] (by decide +kernel) ?_
    show pw_V x m_X8_otherWord 2 Z 60 [(0, .ref 26)] [.int (nI 114), .int (nI 101), .int (nI 112), .int (nI 0), .int (nI 5), .ref 26] mm
    refine pw_cV (vs := [.int (nI 5), .int (nI 0), .int (nI 112), .int (nI 101), .int (nI 114)]) (rest := []) k_X8_spells (c_mspells mm hx e he2 hT b21 5 0 112 101 114 (by decide) (by decide)) l_8_115 rfl rfl rfl rfl (by omega) (Nat.le_of_ble_eq_true rfl) (by decide +kernel) ?_
    rintro _ m1 ⟨rfl, e1⟩
    rw [e1]
    clear e1 m1
    show pw_V x m_X8_otherWord 2 Z 63 [(0, .ref 26)] [.int (pw_b (pw_sp A e 5 0 112 101 114))] mm
    refine pw_ib_eq (tgt := 84) (off := 21) (by decide +kernel) (by decide) (fun h63 => ?_) (fun h63 => ?_)
    · refine j84 (hw.trans (pw_Rw_n (p := 56) (L := 5) (by decide) (by decide) (by omega) he2 ?_))
      intro zz
      have q := pw_mw_sp (k := 0) (x := 112) (y := 101) (z := 114) he2 zz (by omega) (by decide) (by decide) (by decide)
      rw [h63] at q
      cases q
    · refine pw_blk (pc' := 75) [.aload 0, .iconst 5, .iconst 2, .iconst (114), .iconst (105), .iconst (108)] (by decide +kernel) ?_
      show pw_V x m_X8_otherWord 2 Z 75 [(0, .ref 26)] [.int (nI 108), .int (nI 105), .int (nI 114), .int (nI 2), .int (nI 5), .ref 26] mm
      refine pw_cV (vs := [.int (nI 5), .int (nI 2), .int (nI 114), .int (nI 105), .int (nI 108)]) (rest := []) k_X8_spells (c_mspells mm hx e he2 hT b21 5 2 114 105 108 (by decide) (by decide)) l_8_115 rfl rfl rfl rfl (by omega) (Nat.le_of_ble_eq_true rfl) (by decide +kernel) ?_
      rintro _ m1 ⟨rfl, e1⟩
      rw [e1]
      clear e1 m1
      show pw_V x m_X8_otherWord 2 Z 78 [(0, .ref 26)] [.int (pw_b (pw_sp A e 5 2 114 105 108))] mm
      refine pw_ib_eq (tgt := 84) (off := 6) (by decide +kernel) (by decide) (fun h78 => ?_) (fun h78 => ?_)
      · refine j84 (hw.trans (pw_Rw_n (p := 56) (L := 5) (by decide) (by decide) (by omega) he2 ?_))
        intro zz
        have q := pw_mw_sp (k := 2) (x := 114) (y := 105) (z := 108) he2 zz (by omega) (by decide) (by decide) (by decide)
        rw [h78] at q
        cases q
      · refine pw_blk (pc' := 83) [.iconst (11)] (by decide +kernel) ?_
        show pw_V x m_X8_otherWord 2 Z 83 [(0, .ref 26)] [.int (nI 11)] mm
        rw [← hZ]
        refine pw_ri (by decide +kernel) ?_
        have hmw : pw_mw A e 56 5 := by
          refine ⟨(pw_sp_d h63).1, by have z1 := (pw_sp_d h63).2.1; omega, fun m hm => ?_⟩
          by_cases q0 : m < 3
          · exact pw_sp_l (p := 56) he2 h63 (by omega) (by decide) (by decide) (by decide) m (by omega) (by omega)
          exact pw_sp_l (p := 56) he2 h78 (by omega) (by decide) (by decide) (by decide) m (by omega) (by omega)
        have e0 : pw_tW A e = some 9 := by rw [hw]; exact pw_Rw_y (p := 56) (L := 5) (by decide) (by decide) (by omega) he2 hmw
        exact ⟨by rw [e0]; rfl, rfl⟩
  show pw_V x m_X8_otherWord 2 Z 0 [(0, .ref 26)] [] mm
  refine pw_blk (pc' := 10) [.aload 0, .iconst (7), .iconst 0, .iconst (101), .iconst (110), .iconst (101)] (by decide +kernel) ?_
  show pw_V x m_X8_otherWord 2 Z 10 [(0, .ref 26)] [.int (nI 101), .int (nI 110), .int (nI 101), .int (nI 0), .int (nI 7), .ref 26] mm
  refine pw_cV (vs := [.int (nI 7), .int (nI 0), .int (nI 101), .int (nI 110), .int (nI 101)]) (rest := []) k_X8_spells (c_mspells mm hx e he2 hT b21 7 0 101 110 101 (by decide) (by decide)) l_8_115 rfl rfl rfl rfl (by omega) (Nat.le_of_ble_eq_true rfl) (by decide +kernel) ?_
  rintro _ m1 ⟨rfl, e1⟩
  rw [e1]
  clear e1 m1
  show pw_V x m_X8_otherWord 2 Z 13 [(0, .ref 26)] [.int (pw_b (pw_sp A e 7 0 101 110 101))] mm
  refine pw_ib_eq (tgt := 51) (off := 38) (by decide +kernel) (by decide) (fun h13 => ?_) (fun h13 => ?_)
  · refine j51 (hw.trans (pw_Rw_n (p := 48) (L := 7) (by decide) (by decide) (by omega) he2 ?_))
    intro zz
    have q := pw_mw_sp (k := 0) (x := 101) (y := 110) (z := 101) he2 zz (by omega) (by decide) (by decide) (by decide)
    rw [h13] at q
    cases q
  · refine pw_blk (pc' := 26) [.aload 0, .iconst (7), .iconst 3, .iconst (109), .iconst (105), .iconst (101)] (by decide +kernel) ?_
    show pw_V x m_X8_otherWord 2 Z 26 [(0, .ref 26)] [.int (nI 101), .int (nI 105), .int (nI 109), .int (nI 3), .int (nI 7), .ref 26] mm
    refine pw_cV (vs := [.int (nI 7), .int (nI 3), .int (nI 109), .int (nI 105), .int (nI 101)]) (rest := []) k_X8_spells (c_mspells mm hx e he2 hT b21 7 3 109 105 101 (by decide) (by decide)) l_8_115 rfl rfl rfl rfl (by omega) (Nat.le_of_ble_eq_true rfl) (by decide +kernel) ?_
    rintro _ m1 ⟨rfl, e1⟩
    rw [e1]
    clear e1 m1
    show pw_V x m_X8_otherWord 2 Z 29 [(0, .ref 26)] [.int (pw_b (pw_sp A e 7 3 109 105 101))] mm
    refine pw_ib_eq (tgt := 51) (off := 22) (by decide +kernel) (by decide) (fun h29 => ?_) (fun h29 => ?_)
    · refine j51 (hw.trans (pw_Rw_n (p := 48) (L := 7) (by decide) (by decide) (by omega) he2 ?_))
      intro zz
      have q := pw_mw_sp (k := 3) (x := 109) (y := 105) (z := 101) he2 zz (by omega) (by decide) (by decide) (by decide)
      rw [h29] at q
      cases q
    · refine pw_blk (pc' := 42) [.aload 0, .iconst (7), .iconst 4, .iconst (105), .iconst (101), .iconst (115)] (by decide +kernel) ?_
      show pw_V x m_X8_otherWord 2 Z 42 [(0, .ref 26)] [.int (nI 115), .int (nI 101), .int (nI 105), .int (nI 4), .int (nI 7), .ref 26] mm
      refine pw_cV (vs := [.int (nI 7), .int (nI 4), .int (nI 105), .int (nI 101), .int (nI 115)]) (rest := []) k_X8_spells (c_mspells mm hx e he2 hT b21 7 4 105 101 115 (by decide) (by decide)) l_8_115 rfl rfl rfl rfl (by omega) (Nat.le_of_ble_eq_true rfl) (by decide +kernel) ?_
      rintro _ m1 ⟨rfl, e1⟩
      rw [e1]
      clear e1 m1
      show pw_V x m_X8_otherWord 2 Z 45 [(0, .ref 26)] [.int (pw_b (pw_sp A e 7 4 105 101 115))] mm
      refine pw_ib_eq (tgt := 51) (off := 6) (by decide +kernel) (by decide) (fun h45 => ?_) (fun h45 => ?_)
      · refine j51 (hw.trans (pw_Rw_n (p := 48) (L := 7) (by decide) (by decide) (by omega) he2 ?_))
        intro zz
        have q := pw_mw_sp (k := 4) (x := 105) (y := 101) (z := 115) he2 zz (by omega) (by decide) (by decide) (by decide)
        rw [h45] at q
        cases q
      · refine pw_blk (pc' := 50) [.iconst (10)] (by decide +kernel) ?_
        show pw_V x m_X8_otherWord 2 Z 50 [(0, .ref 26)] [.int (nI 10)] mm
        rw [← hZ]
        refine pw_ri (by decide +kernel) ?_
        have hmw : pw_mw A e 48 7 := by
          refine ⟨(pw_sp_d h13).1, by have z1 := (pw_sp_d h13).2.1; omega, fun m hm => ?_⟩
          by_cases q0 : m < 3
          · exact pw_sp_l (p := 48) he2 h13 (by omega) (by decide) (by decide) (by decide) m (by omega) (by omega)
          by_cases q1 : m < 6
          · exact pw_sp_l (p := 48) he2 h29 (by omega) (by decide) (by decide) (by decide) m (by omega) (by omega)
          exact pw_sp_l (p := 48) he2 h45 (by omega) (by decide) (by decide) (by decide) m (by omega) (by omega)
        have e0 : pw_tW A e = some 8 := by rw [hw]; exact pw_Rw_y (p := 48) (L := 7) (by decide) (by decide) (by omega) he2 hmw
        exact ⟨by rw [e0]; rfl, rfl⟩

set_option maxHeartbeats 4000000 in
set_option maxRecDepth 100000 in
theorem c_mword {A : pw_m} (mm : pw_m) (hx : MX A mm) (e : Nat) (he2 : e ≤ pw_g A 2 1) (hT : TK A mm e) (b21 : pw_g A 2 1 ≤ 160) : pw_Ct 3 yX8_wordOf m_X8_wordOf [.ref 26] mm (fun r m' => r = some (.int (nI (pw_wc (pw_tW A e)))) ∧ m' = mm) := by
  refine pw_ct (by decide +kernel) rfl (Nat.le_of_ble_eq_true rfl) (fun x => ?_)
  generalize hZ : pw_Z x _ = Z
  have z0 := pw_tb1 he2
  have zm := pw_mT_b (A := A) (e := e)
  have hw : pw_tW A e = pw_Rw A e 0 0 := pw_Rw_0
  have j267 : pw_tW A e = pw_Rw A e 48 8 → pw_V x m_X8_wordOf 3 Z 267 [(0, .ref 26)] [] mm := by
    intro hw
    refine pw_blk (pc' := 268) [.aload 0] (by decide +kernel) ?_
    show pw_V x m_X8_wordOf 3 Z 268 [(0, .ref 26)] [.ref 26] mm
    refine pw_cV (vs := []) (rest := []) k_X8_otherWord (c_moword mm hx e he2 hT b21 hw) l_8_119 rfl rfl rfl rfl (by omega) (Nat.le_of_ble_eq_true rfl) (by decide +kernel) ?_
    rintro _ m1 ⟨rfl, e1⟩
    rw [e1]
    clear e1 m1
    show pw_V x m_X8_wordOf 3 Z 271 [(0, .ref 26)] [.int (nI (pw_wc (pw_tW A e)))] mm
    rw [← hZ]
    refine pw_ri (by decide +kernel) ?_
    exact ⟨rfl, rfl⟩
  have j234 : pw_tW A e = pw_Rw A e 43 7 → pw_V x m_X8_wordOf 3 Z 234 [(0, .ref 26)] [] mm := by
    intro hw
    refine pw_blk (pc' := 243) [.aload 0, .iconst 4, .iconst 0, .iconst (107), .iconst (105), .iconst (110)] (by decide +kernel) ?_
    show pw_V x m_X8_wordOf 3 Z 243 [(0, .ref 26)] [.int (nI 110), .int (nI 105), .int (nI 107), .int (nI 0), .int (nI 4), .ref 26] mm
    refine pw_cV (vs := [.int (nI 4), .int (nI 0), .int (nI 107), .int (nI 105), .int (nI 110)]) (rest := []) k_X8_spells (c_mspells mm hx e he2 hT b21 4 0 107 105 110 (by decide) (by decide)) l_8_115 rfl rfl rfl rfl (by omega) (Nat.le_of_ble_eq_true rfl) (by decide +kernel) ?_
    rintro _ m1 ⟨rfl, e1⟩
    rw [e1]
    clear e1 m1
    show pw_V x m_X8_wordOf 3 Z 246 [(0, .ref 26)] [.int (pw_b (pw_sp A e 4 0 107 105 110))] mm
    refine pw_ib_eq (tgt := 267) (off := 21) (by decide +kernel) (by decide) (fun h246 => ?_) (fun h246 => ?_)
    · refine j267 (hw.trans (pw_Rw_n (p := 43) (L := 4) (by decide) (by decide) (by omega) he2 ?_))
      intro zz
      have q := pw_mw_sp (k := 0) (x := 107) (y := 105) (z := 110) he2 zz (by omega) (by decide) (by decide) (by decide)
      rw [h246] at q
      cases q
    · refine pw_blk (pc' := 258) [.aload 0, .iconst 4, .iconst 1, .iconst (105), .iconst (110), .iconst (103)] (by decide +kernel) ?_
      show pw_V x m_X8_wordOf 3 Z 258 [(0, .ref 26)] [.int (nI 103), .int (nI 110), .int (nI 105), .int (nI 1), .int (nI 4), .ref 26] mm
      refine pw_cV (vs := [.int (nI 4), .int (nI 1), .int (nI 105), .int (nI 110), .int (nI 103)]) (rest := []) k_X8_spells (c_mspells mm hx e he2 hT b21 4 1 105 110 103 (by decide) (by decide)) l_8_115 rfl rfl rfl rfl (by omega) (Nat.le_of_ble_eq_true rfl) (by decide +kernel) ?_
      rintro _ m1 ⟨rfl, e1⟩
      rw [e1]
      clear e1 m1
      show pw_V x m_X8_wordOf 3 Z 261 [(0, .ref 26)] [.int (pw_b (pw_sp A e 4 1 105 110 103))] mm
      refine pw_ib_eq (tgt := 267) (off := 6) (by decide +kernel) (by decide) (fun h261 => ?_) (fun h261 => ?_)
      · refine j267 (hw.trans (pw_Rw_n (p := 43) (L := 4) (by decide) (by decide) (by omega) he2 ?_))
        intro zz
        have q := pw_mw_sp (k := 1) (x := 105) (y := 110) (z := 103) he2 zz (by omega) (by decide) (by decide) (by decide)
        rw [h261] at q
        cases q
      · refine pw_blk (pc' := 266) [.iconst (9)] (by decide +kernel) ?_
        show pw_V x m_X8_wordOf 3 Z 266 [(0, .ref 26)] [.int (nI 9)] mm
        rw [← hZ]
        refine pw_ri (by decide +kernel) ?_
        have hmw : pw_mw A e 43 4 := by
          refine ⟨(pw_sp_d h246).1, by have z1 := (pw_sp_d h246).2.1; omega, fun m hm => ?_⟩
          by_cases q0 : m < 3
          · exact pw_sp_l (p := 43) he2 h246 (by omega) (by decide) (by decide) (by decide) m (by omega) (by omega)
          exact pw_sp_l (p := 43) he2 h261 (by omega) (by decide) (by decide) (by decide) m (by omega) (by omega)
        have e0 : pw_tW A e = some 7 := by rw [hw]; exact pw_Rw_y (p := 43) (L := 4) (by decide) (by decide) (by omega) he2 hmw
        exact ⟨by rw [e0]; rfl, rfl⟩
  have j199 : pw_tW A e = pw_Rw A e 36 6 → pw_V x m_X8_wordOf 3 Z 199 [(0, .ref 26)] [] mm := by
    intro hw
    refine pw_blk (pc' := 209) [.aload 0, .iconst (6), .iconst 0, .iconst (115), .iconst (113), .iconst (117)] (by decide +kernel) ?_
    show pw_V x m_X8_wordOf 3 Z 209 [(0, .ref 26)] [.int (nI 117), .int (nI 113), .int (nI 115), .int (nI 0), .int (nI 6), .ref 26] mm
    refine pw_cV (vs := [.int (nI 6), .int (nI 0), .int (nI 115), .int (nI 113), .int (nI 117)]) (rest := []) k_X8_spells (c_mspells mm hx e he2 hT b21 6 0 115 113 117 (by decide) (by decide)) l_8_115 rfl rfl rfl rfl (by omega) (Nat.le_of_ble_eq_true rfl) (by decide +kernel) ?_
    rintro _ m1 ⟨rfl, e1⟩
    rw [e1]
    clear e1 m1
    show pw_V x m_X8_wordOf 3 Z 212 [(0, .ref 26)] [.int (pw_b (pw_sp A e 6 0 115 113 117))] mm
    refine pw_ib_eq (tgt := 234) (off := 22) (by decide +kernel) (by decide) (fun h212 => ?_) (fun h212 => ?_)
    · refine j234 (hw.trans (pw_Rw_n (p := 36) (L := 6) (by decide) (by decide) (by omega) he2 ?_))
      intro zz
      have q := pw_mw_sp (k := 0) (x := 115) (y := 113) (z := 117) he2 zz (by omega) (by decide) (by decide) (by decide)
      rw [h212] at q
      cases q
    · refine pw_blk (pc' := 225) [.aload 0, .iconst (6), .iconst 3, .iconst (105), .iconst (114), .iconst (101)] (by decide +kernel) ?_
      show pw_V x m_X8_wordOf 3 Z 225 [(0, .ref 26)] [.int (nI 101), .int (nI 114), .int (nI 105), .int (nI 3), .int (nI 6), .ref 26] mm
      refine pw_cV (vs := [.int (nI 6), .int (nI 3), .int (nI 105), .int (nI 114), .int (nI 101)]) (rest := []) k_X8_spells (c_mspells mm hx e he2 hT b21 6 3 105 114 101 (by decide) (by decide)) l_8_115 rfl rfl rfl rfl (by omega) (Nat.le_of_ble_eq_true rfl) (by decide +kernel) ?_
      rintro _ m1 ⟨rfl, e1⟩
      rw [e1]
      clear e1 m1
      show pw_V x m_X8_wordOf 3 Z 228 [(0, .ref 26)] [.int (pw_b (pw_sp A e 6 3 105 114 101))] mm
      refine pw_ib_eq (tgt := 234) (off := 6) (by decide +kernel) (by decide) (fun h228 => ?_) (fun h228 => ?_)
      · refine j234 (hw.trans (pw_Rw_n (p := 36) (L := 6) (by decide) (by decide) (by omega) he2 ?_))
        intro zz
        have q := pw_mw_sp (k := 3) (x := 105) (y := 114) (z := 101) he2 zz (by omega) (by decide) (by decide) (by decide)
        rw [h228] at q
        cases q
      · refine pw_blk (pc' := 233) [.iconst (8)] (by decide +kernel) ?_
        show pw_V x m_X8_wordOf 3 Z 233 [(0, .ref 26)] [.int (nI 8)] mm
        rw [← hZ]
        refine pw_ri (by decide +kernel) ?_
        have hmw : pw_mw A e 36 6 := by
          refine ⟨(pw_sp_d h212).1, by have z1 := (pw_sp_d h212).2.1; omega, fun m hm => ?_⟩
          by_cases q0 : m < 3
          · exact pw_sp_l (p := 36) he2 h212 (by omega) (by decide) (by decide) (by decide) m (by omega) (by omega)
          exact pw_sp_l (p := 36) he2 h228 (by omega) (by decide) (by decide) (by decide) m (by omega) (by omega)
        have e0 : pw_tW A e = some 6 := by rw [hw]; exact pw_Rw_y (p := 36) (L := 6) (by decide) (by decide) (by omega) he2 hmw
        exact ⟨by rw [e0]; rfl, rfl⟩
  have j164 : pw_tW A e = pw_Rw A e 29 5 → pw_V x m_X8_wordOf 3 Z 164 [(0, .ref 26)] [] mm := by
    intro hw
    refine pw_blk (pc' := 174) [.aload 0, .iconst (6), .iconst 0, .iconst (107), .iconst (110), .iconst (105)] (by decide +kernel) ?_
    show pw_V x m_X8_wordOf 3 Z 174 [(0, .ref 26)] [.int (nI 105), .int (nI 110), .int (nI 107), .int (nI 0), .int (nI 6), .ref 26] mm
    refine pw_cV (vs := [.int (nI 6), .int (nI 0), .int (nI 107), .int (nI 110), .int (nI 105)]) (rest := []) k_X8_spells (c_mspells mm hx e he2 hT b21 6 0 107 110 105 (by decide) (by decide)) l_8_115 rfl rfl rfl rfl (by omega) (Nat.le_of_ble_eq_true rfl) (by decide +kernel) ?_
    rintro _ m1 ⟨rfl, e1⟩
    rw [e1]
    clear e1 m1
    show pw_V x m_X8_wordOf 3 Z 177 [(0, .ref 26)] [.int (pw_b (pw_sp A e 6 0 107 110 105))] mm
    refine pw_ib_eq (tgt := 199) (off := 22) (by decide +kernel) (by decide) (fun h177 => ?_) (fun h177 => ?_)
    · refine j199 (hw.trans (pw_Rw_n (p := 29) (L := 6) (by decide) (by decide) (by omega) he2 ?_))
      intro zz
      have q := pw_mw_sp (k := 0) (x := 107) (y := 110) (z := 105) he2 zz (by omega) (by decide) (by decide) (by decide)
      rw [h177] at q
      cases q
    · refine pw_blk (pc' := 190) [.aload 0, .iconst (6), .iconst 3, .iconst (103), .iconst (104), .iconst (116)] (by decide +kernel) ?_
      show pw_V x m_X8_wordOf 3 Z 190 [(0, .ref 26)] [.int (nI 116), .int (nI 104), .int (nI 103), .int (nI 3), .int (nI 6), .ref 26] mm
      refine pw_cV (vs := [.int (nI 6), .int (nI 3), .int (nI 103), .int (nI 104), .int (nI 116)]) (rest := []) k_X8_spells (c_mspells mm hx e he2 hT b21 6 3 103 104 116 (by decide) (by decide)) l_8_115 rfl rfl rfl rfl (by omega) (Nat.le_of_ble_eq_true rfl) (by decide +kernel) ?_
      rintro _ m1 ⟨rfl, e1⟩
      rw [e1]
      clear e1 m1
      show pw_V x m_X8_wordOf 3 Z 193 [(0, .ref 26)] [.int (pw_b (pw_sp A e 6 3 103 104 116))] mm
      refine pw_ib_eq (tgt := 199) (off := 6) (by decide +kernel) (by decide) (fun h193 => ?_) (fun h193 => ?_)
      · refine j199 (hw.trans (pw_Rw_n (p := 29) (L := 6) (by decide) (by decide) (by omega) he2 ?_))
        intro zz
        have q := pw_mw_sp (k := 3) (x := 103) (y := 104) (z := 116) he2 zz (by omega) (by decide) (by decide) (by decide)
        rw [h193] at q
        cases q
      · refine pw_blk (pc' := 198) [.iconst (7)] (by decide +kernel) ?_
        show pw_V x m_X8_wordOf 3 Z 198 [(0, .ref 26)] [.int (nI 7)] mm
        rw [← hZ]
        refine pw_ri (by decide +kernel) ?_
        have hmw : pw_mw A e 29 6 := by
          refine ⟨(pw_sp_d h177).1, by have z1 := (pw_sp_d h177).2.1; omega, fun m hm => ?_⟩
          by_cases q0 : m < 3
          · exact pw_sp_l (p := 29) he2 h177 (by omega) (by decide) (by decide) (by decide) m (by omega) (by omega)
          exact pw_sp_l (p := 29) he2 h193 (by omega) (by decide) (by decide) (by decide) m (by omega) (by omega)
        have e0 : pw_tW A e = some 5 := by rw [hw]; exact pw_Rw_y (p := 29) (L := 6) (by decide) (by decide) (by omega) he2 hmw
        exact ⟨by rw [e0]; rfl, rfl⟩
  have j113 : pw_tW A e = pw_Rw A e 20 4 → pw_V x m_X8_wordOf 3 Z 113 [(0, .ref 26)] [] mm := by
    intro hw
    refine pw_blk (pc' := 123) [.aload 0, .iconst (8), .iconst 0, .iconst (109), .iconst (111), .iconst (117)] (by decide +kernel) ?_
    show pw_V x m_X8_wordOf 3 Z 123 [(0, .ref 26)] [.int (nI 117), .int (nI 111), .int (nI 109), .int (nI 0), .int (nI 8), .ref 26] mm
    refine pw_cV (vs := [.int (nI 8), .int (nI 0), .int (nI 109), .int (nI 111), .int (nI 117)]) (rest := []) k_X8_spells (c_mspells mm hx e he2 hT b21 8 0 109 111 117 (by decide) (by decide)) l_8_115 rfl rfl rfl rfl (by omega) (Nat.le_of_ble_eq_true rfl) (by decide +kernel) ?_
    rintro _ m1 ⟨rfl, e1⟩
    rw [e1]
    clear e1 m1
    show pw_V x m_X8_wordOf 3 Z 126 [(0, .ref 26)] [.int (pw_b (pw_sp A e 8 0 109 111 117))] mm
    refine pw_ib_eq (tgt := 164) (off := 38) (by decide +kernel) (by decide) (fun h126 => ?_) (fun h126 => ?_)
    · refine j164 (hw.trans (pw_Rw_n (p := 20) (L := 8) (by decide) (by decide) (by omega) he2 ?_))
      intro zz
      have q := pw_mw_sp (k := 0) (x := 109) (y := 111) (z := 117) he2 zz (by omega) (by decide) (by decide) (by decide)
      rw [h126] at q
      cases q
    · refine pw_blk (pc' := 139) [.aload 0, .iconst (8), .iconst 3, .iconst (114), .iconst (110), .iconst (105)] (by decide +kernel) ?_
      show pw_V x m_X8_wordOf 3 Z 139 [(0, .ref 26)] [.int (nI 105), .int (nI 110), .int (nI 114), .int (nI 3), .int (nI 8), .ref 26] mm
      refine pw_cV (vs := [.int (nI 8), .int (nI 3), .int (nI 114), .int (nI 110), .int (nI 105)]) (rest := []) k_X8_spells (c_mspells mm hx e he2 hT b21 8 3 114 110 105 (by decide) (by decide)) l_8_115 rfl rfl rfl rfl (by omega) (Nat.le_of_ble_eq_true rfl) (by decide +kernel) ?_
      rintro _ m1 ⟨rfl, e1⟩
      rw [e1]
      clear e1 m1
      show pw_V x m_X8_wordOf 3 Z 142 [(0, .ref 26)] [.int (pw_b (pw_sp A e 8 3 114 110 105))] mm
      refine pw_ib_eq (tgt := 164) (off := 22) (by decide +kernel) (by decide) (fun h142 => ?_) (fun h142 => ?_)
      · refine j164 (hw.trans (pw_Rw_n (p := 20) (L := 8) (by decide) (by decide) (by omega) he2 ?_))
        intro zz
        have q := pw_mw_sp (k := 3) (x := 114) (y := 110) (z := 105) he2 zz (by omega) (by decide) (by decide) (by decide)
        rw [h142] at q
        cases q
      · refine pw_blk (pc' := 155) [.aload 0, .iconst (8), .iconst 5, .iconst (105), .iconst (110), .iconst (103)] (by decide +kernel) ?_
        show pw_V x m_X8_wordOf 3 Z 155 [(0, .ref 26)] [.int (nI 103), .int (nI 110), .int (nI 105), .int (nI 5), .int (nI 8), .ref 26] mm
        refine pw_cV (vs := [.int (nI 8), .int (nI 5), .int (nI 105), .int (nI 110), .int (nI 103)]) (rest := []) k_X8_spells (c_mspells mm hx e he2 hT b21 8 5 105 110 103 (by decide) (by decide)) l_8_115 rfl rfl rfl rfl (by omega) (Nat.le_of_ble_eq_true rfl) (by decide +kernel) ?_
        rintro _ m1 ⟨rfl, e1⟩
        rw [e1]
        clear e1 m1
        show pw_V x m_X8_wordOf 3 Z 158 [(0, .ref 26)] [.int (pw_b (pw_sp A e 8 5 105 110 103))] mm
        refine pw_ib_eq (tgt := 164) (off := 6) (by decide +kernel) (by decide) (fun h158 => ?_) (fun h158 => ?_)
        · refine j164 (hw.trans (pw_Rw_n (p := 20) (L := 8) (by decide) (by decide) (by omega) he2 ?_))
          intro zz
          have q := pw_mw_sp (k := 5) (x := 105) (y := 110) (z := 103) he2 zz (by omega) (by decide) (by decide) (by decide)
          rw [h158] at q
          cases q
        · refine pw_blk (pc' := 163) [.iconst (6)] (by decide +kernel) ?_
          show pw_V x m_X8_wordOf 3 Z 163 [(0, .ref 26)] [.int (nI 6)] mm
          rw [← hZ]
          refine pw_ri (by decide +kernel) ?_
          have hmw : pw_mw A e 20 8 := by
            refine ⟨(pw_sp_d h126).1, by have z1 := (pw_sp_d h126).2.1; omega, fun m hm => ?_⟩
            by_cases q0 : m < 3
            · exact pw_sp_l (p := 20) he2 h126 (by omega) (by decide) (by decide) (by decide) m (by omega) (by omega)
            by_cases q1 : m < 6
            · exact pw_sp_l (p := 20) he2 h142 (by omega) (by decide) (by decide) (by decide) m (by omega) (by omega)
            exact pw_sp_l (p := 20) he2 h158 (by omega) (by decide) (by decide) (by decide) m (by omega) (by omega)
          have e0 : pw_tW A e = some 4 := by rw [hw]; exact pw_Rw_y (p := 20) (L := 8) (by decide) (by decide) (by omega) he2 hmw
          exact ⟨by rw [e0]; rfl, rfl⟩
  have j96 : pw_tW A e = pw_Rw A e 16 3 → pw_V x m_X8_wordOf 3 Z 96 [(0, .ref 26)] [] mm := by
    intro hw
    refine pw_blk (pc' := 105) [.aload 0, .iconst 3, .iconst 0, .iconst (107), .iconst (105), .iconst (110)] (by decide +kernel) ?_
    show pw_V x m_X8_wordOf 3 Z 105 [(0, .ref 26)] [.int (nI 110), .int (nI 105), .int (nI 107), .int (nI 0), .int (nI 3), .ref 26] mm
    refine pw_cV (vs := [.int (nI 3), .int (nI 0), .int (nI 107), .int (nI 105), .int (nI 110)]) (rest := []) k_X8_spells (c_mspells mm hx e he2 hT b21 3 0 107 105 110 (by decide) (by decide)) l_8_115 rfl rfl rfl rfl (by omega) (Nat.le_of_ble_eq_true rfl) (by decide +kernel) ?_
    rintro _ m1 ⟨rfl, e1⟩
    rw [e1]
    clear e1 m1
    show pw_V x m_X8_wordOf 3 Z 108 [(0, .ref 26)] [.int (pw_b (pw_sp A e 3 0 107 105 110))] mm
    refine pw_ib_eq (tgt := 113) (off := 5) (by decide +kernel) (by decide) (fun h108 => ?_) (fun h108 => ?_)
    · refine j113 (hw.trans (pw_Rw_n (p := 16) (L := 3) (by decide) (by decide) (by omega) he2 ?_))
      intro zz
      have q := pw_mw_sp (k := 0) (x := 107) (y := 105) (z := 110) he2 zz (by omega) (by decide) (by decide) (by decide)
      rw [h108] at q
      cases q
    · refine pw_blk (pc' := 112) [.iconst 5] (by decide +kernel) ?_
      show pw_V x m_X8_wordOf 3 Z 112 [(0, .ref 26)] [.int (nI 5)] mm
      rw [← hZ]
      refine pw_ri (by decide +kernel) ?_
      have hmw : pw_mw A e 16 3 := by
        refine ⟨(pw_sp_d h108).1, by have z1 := (pw_sp_d h108).2.1; omega, fun m hm => ?_⟩
        exact pw_sp_l (p := 16) he2 h108 (by omega) (by decide) (by decide) (by decide) m (by omega) (by omega)
      have e0 : pw_tW A e = some 3 := by rw [hw]; exact pw_Rw_y (p := 16) (L := 3) (by decide) (by decide) (by omega) he2 hmw
      exact ⟨by rw [e0]; rfl, rfl⟩
  have j64 : pw_tW A e = pw_Rw A e 11 2 → pw_V x m_X8_wordOf 3 Z 64 [(0, .ref 26)] [] mm := by
    intro hw
    refine pw_blk (pc' := 73) [.aload 0, .iconst 4, .iconst 0, .iconst (109), .iconst (101), .iconst (101)] (by decide +kernel) ?_
    show pw_V x m_X8_wordOf 3 Z 73 [(0, .ref 26)] [.int (nI 101), .int (nI 101), .int (nI 109), .int (nI 0), .int (nI 4), .ref 26] mm
    refine pw_cV (vs := [.int (nI 4), .int (nI 0), .int (nI 109), .int (nI 101), .int (nI 101)]) (rest := []) k_X8_spells (c_mspells mm hx e he2 hT b21 4 0 109 101 101 (by decide) (by decide)) l_8_115 rfl rfl rfl rfl (by omega) (Nat.le_of_ble_eq_true rfl) (by decide +kernel) ?_
    rintro _ m1 ⟨rfl, e1⟩
    rw [e1]
    clear e1 m1
    show pw_V x m_X8_wordOf 3 Z 76 [(0, .ref 26)] [.int (pw_b (pw_sp A e 4 0 109 101 101))] mm
    refine pw_ib_eq (tgt := 96) (off := 20) (by decide +kernel) (by decide) (fun h76 => ?_) (fun h76 => ?_)
    · refine j96 (hw.trans (pw_Rw_n (p := 11) (L := 4) (by decide) (by decide) (by omega) he2 ?_))
      intro zz
      have q := pw_mw_sp (k := 0) (x := 109) (y := 101) (z := 101) he2 zz (by omega) (by decide) (by decide) (by decide)
      rw [h76] at q
      cases q
    · refine pw_blk (pc' := 88) [.aload 0, .iconst 4, .iconst 1, .iconst (101), .iconst (101), .iconst (107)] (by decide +kernel) ?_
      show pw_V x m_X8_wordOf 3 Z 88 [(0, .ref 26)] [.int (nI 107), .int (nI 101), .int (nI 101), .int (nI 1), .int (nI 4), .ref 26] mm
      refine pw_cV (vs := [.int (nI 4), .int (nI 1), .int (nI 101), .int (nI 101), .int (nI 107)]) (rest := []) k_X8_spells (c_mspells mm hx e he2 hT b21 4 1 101 101 107 (by decide) (by decide)) l_8_115 rfl rfl rfl rfl (by omega) (Nat.le_of_ble_eq_true rfl) (by decide +kernel) ?_
      rintro _ m1 ⟨rfl, e1⟩
      rw [e1]
      clear e1 m1
      show pw_V x m_X8_wordOf 3 Z 91 [(0, .ref 26)] [.int (pw_b (pw_sp A e 4 1 101 101 107))] mm
      refine pw_ib_eq (tgt := 96) (off := 5) (by decide +kernel) (by decide) (fun h91 => ?_) (fun h91 => ?_)
      · refine j96 (hw.trans (pw_Rw_n (p := 11) (L := 4) (by decide) (by decide) (by omega) he2 ?_))
        intro zz
        have q := pw_mw_sp (k := 1) (x := 101) (y := 101) (z := 107) he2 zz (by omega) (by decide) (by decide) (by decide)
        rw [h91] at q
        cases q
      · refine pw_blk (pc' := 95) [.iconst 4] (by decide +kernel) ?_
        show pw_V x m_X8_wordOf 3 Z 95 [(0, .ref 26)] [.int (nI 4)] mm
        rw [← hZ]
        refine pw_ri (by decide +kernel) ?_
        have hmw : pw_mw A e 11 4 := by
          refine ⟨(pw_sp_d h76).1, by have z1 := (pw_sp_d h76).2.1; omega, fun m hm => ?_⟩
          by_cases q0 : m < 3
          · exact pw_sp_l (p := 11) he2 h76 (by omega) (by decide) (by decide) (by decide) m (by omega) (by omega)
          exact pw_sp_l (p := 11) he2 h91 (by omega) (by decide) (by decide) (by decide) m (by omega) (by omega)
        have e0 : pw_tW A e = some 2 := by rw [hw]; exact pw_Rw_y (p := 11) (L := 4) (by decide) (by decide) (by omega) he2 hmw
        exact ⟨by rw [e0]; rfl, rfl⟩
  have j32 : pw_tW A e = pw_Rw A e 6 1 → pw_V x m_X8_wordOf 3 Z 32 [(0, .ref 26)] [] mm := by
    intro hw
    refine pw_blk (pc' := 41) [.aload 0, .iconst 4, .iconst 0, .iconst (103), .iconst (111), .iconst (108)] (by decide +kernel) ?_
    show pw_V x m_X8_wordOf 3 Z 41 [(0, .ref 26)] [.int (nI 108), .int (nI 111), .int (nI 103), .int (nI 0), .int (nI 4), .ref 26] mm
    refine pw_cV (vs := [.int (nI 4), .int (nI 0), .int (nI 103), .int (nI 111), .int (nI 108)]) (rest := []) k_X8_spells (c_mspells mm hx e he2 hT b21 4 0 103 111 108 (by decide) (by decide)) l_8_115 rfl rfl rfl rfl (by omega) (Nat.le_of_ble_eq_true rfl) (by decide +kernel) ?_
    rintro _ m1 ⟨rfl, e1⟩
    rw [e1]
    clear e1 m1
    show pw_V x m_X8_wordOf 3 Z 44 [(0, .ref 26)] [.int (pw_b (pw_sp A e 4 0 103 111 108))] mm
    refine pw_ib_eq (tgt := 64) (off := 20) (by decide +kernel) (by decide) (fun h44 => ?_) (fun h44 => ?_)
    · refine j64 (hw.trans (pw_Rw_n (p := 6) (L := 4) (by decide) (by decide) (by omega) he2 ?_))
      intro zz
      have q := pw_mw_sp (k := 0) (x := 103) (y := 111) (z := 108) he2 zz (by omega) (by decide) (by decide) (by decide)
      rw [h44] at q
      cases q
    · refine pw_blk (pc' := 56) [.aload 0, .iconst 4, .iconst 1, .iconst (111), .iconst (108), .iconst (100)] (by decide +kernel) ?_
      show pw_V x m_X8_wordOf 3 Z 56 [(0, .ref 26)] [.int (nI 100), .int (nI 108), .int (nI 111), .int (nI 1), .int (nI 4), .ref 26] mm
      refine pw_cV (vs := [.int (nI 4), .int (nI 1), .int (nI 111), .int (nI 108), .int (nI 100)]) (rest := []) k_X8_spells (c_mspells mm hx e he2 hT b21 4 1 111 108 100 (by decide) (by decide)) l_8_115 rfl rfl rfl rfl (by omega) (Nat.le_of_ble_eq_true rfl) (by decide +kernel) ?_
      rintro _ m1 ⟨rfl, e1⟩
      rw [e1]
      clear e1 m1
      show pw_V x m_X8_wordOf 3 Z 59 [(0, .ref 26)] [.int (pw_b (pw_sp A e 4 1 111 108 100))] mm
      refine pw_ib_eq (tgt := 64) (off := 5) (by decide +kernel) (by decide) (fun h59 => ?_) (fun h59 => ?_)
      · refine j64 (hw.trans (pw_Rw_n (p := 6) (L := 4) (by decide) (by decide) (by omega) he2 ?_))
        intro zz
        have q := pw_mw_sp (k := 1) (x := 111) (y := 108) (z := 100) he2 zz (by omega) (by decide) (by decide) (by decide)
        rw [h59] at q
        cases q
      · refine pw_blk (pc' := 63) [.iconst 3] (by decide +kernel) ?_
        show pw_V x m_X8_wordOf 3 Z 63 [(0, .ref 26)] [.int (nI 3)] mm
        rw [← hZ]
        refine pw_ri (by decide +kernel) ?_
        have hmw : pw_mw A e 6 4 := by
          refine ⟨(pw_sp_d h44).1, by have z1 := (pw_sp_d h44).2.1; omega, fun m hm => ?_⟩
          by_cases q0 : m < 3
          · exact pw_sp_l (p := 6) he2 h44 (by omega) (by decide) (by decide) (by decide) m (by omega) (by omega)
          exact pw_sp_l (p := 6) he2 h59 (by omega) (by decide) (by decide) (by decide) m (by omega) (by omega)
        have e0 : pw_tW A e = some 1 := by rw [hw]; exact pw_Rw_y (p := 6) (L := 4) (by decide) (by decide) (by omega) he2 hmw
        exact ⟨by rw [e0]; rfl, rfl⟩
  show pw_V x m_X8_wordOf 3 Z 0 [(0, .ref 26)] [] mm
  refine pw_blk (pc' := 9) [.aload 0, .iconst 5, .iconst 0, .iconst (116), .iconst (97), .iconst (98)] (by decide +kernel) ?_
  show pw_V x m_X8_wordOf 3 Z 9 [(0, .ref 26)] [.int (nI 98), .int (nI 97), .int (nI 116), .int (nI 0), .int (nI 5), .ref 26] mm
  refine pw_cV (vs := [.int (nI 5), .int (nI 0), .int (nI 116), .int (nI 97), .int (nI 98)]) (rest := []) k_X8_spells (c_mspells mm hx e he2 hT b21 5 0 116 97 98 (by decide) (by decide)) l_8_115 rfl rfl rfl rfl (by omega) (Nat.le_of_ble_eq_true rfl) (by decide +kernel) ?_
  rintro _ m1 ⟨rfl, e1⟩
  rw [e1]
  clear e1 m1
  show pw_V x m_X8_wordOf 3 Z 12 [(0, .ref 26)] [.int (pw_b (pw_sp A e 5 0 116 97 98))] mm
  refine pw_ib_eq (tgt := 32) (off := 20) (by decide +kernel) (by decide) (fun h12 => ?_) (fun h12 => ?_)
  · refine j32 (hw.trans (pw_Rw_n (p := 0) (L := 5) (by decide) (by decide) (by omega) he2 ?_))
    intro zz
    have q := pw_mw_sp (k := 0) (x := 116) (y := 97) (z := 98) he2 zz (by omega) (by decide) (by decide) (by decide)
    rw [h12] at q
    cases q
  · refine pw_blk (pc' := 24) [.aload 0, .iconst 5, .iconst 2, .iconst (98), .iconst (108), .iconst (101)] (by decide +kernel) ?_
    show pw_V x m_X8_wordOf 3 Z 24 [(0, .ref 26)] [.int (nI 101), .int (nI 108), .int (nI 98), .int (nI 2), .int (nI 5), .ref 26] mm
    refine pw_cV (vs := [.int (nI 5), .int (nI 2), .int (nI 98), .int (nI 108), .int (nI 101)]) (rest := []) k_X8_spells (c_mspells mm hx e he2 hT b21 5 2 98 108 101 (by decide) (by decide)) l_8_115 rfl rfl rfl rfl (by omega) (Nat.le_of_ble_eq_true rfl) (by decide +kernel) ?_
    rintro _ m1 ⟨rfl, e1⟩
    rw [e1]
    clear e1 m1
    show pw_V x m_X8_wordOf 3 Z 27 [(0, .ref 26)] [.int (pw_b (pw_sp A e 5 2 98 108 101))] mm
    refine pw_ib_eq (tgt := 32) (off := 5) (by decide +kernel) (by decide) (fun h27 => ?_) (fun h27 => ?_)
    · refine j32 (hw.trans (pw_Rw_n (p := 0) (L := 5) (by decide) (by decide) (by omega) he2 ?_))
      intro zz
      have q := pw_mw_sp (k := 2) (x := 98) (y := 108) (z := 101) he2 zz (by omega) (by decide) (by decide) (by decide)
      rw [h27] at q
      cases q
    · refine pw_blk (pc' := 31) [.iconst 1] (by decide +kernel) ?_
      show pw_V x m_X8_wordOf 3 Z 31 [(0, .ref 26)] [.int (nI 1)] mm
      rw [← hZ]
      refine pw_ri (by decide +kernel) ?_
      have hmw : pw_mw A e 0 5 := by
        refine ⟨(pw_sp_d h12).1, by have z1 := (pw_sp_d h12).2.1; omega, fun m hm => ?_⟩
        by_cases q0 : m < 3
        · exact pw_sp_l (p := 0) he2 h12 (by omega) (by decide) (by decide) (by decide) m (by omega) (by omega)
        exact pw_sp_l (p := 0) he2 h27 (by omega) (by decide) (by decide) (by decide) m (by omega) (by omega)
      have e0 : pw_tW A e = some 0 := by rw [hw]; exact pw_Rw_y (p := 0) (L := 5) (by decide) (by decide) (by omega) he2 hmw
      exact ⟨by rw [e0]; rfl, rfl⟩

def pw_nuC (A : pw_m) (e lo hi : Nat) (wl : Bool) : Bool := wl && pw_rgb lo hi (pw_tN A e)
def pw_nuM (A mm : pw_m) (e lo hi : Nat) (wl : Bool) : pw_m := if pw_nuC A e lo hi wl = true then pw_tok A (pw_up mm 26 21 (nI 1)) (pw_tE A e) else pw_up mm 26 21 (nI 0)
def pw_nuR (A : pw_m) (e lo hi : Nat) (wl : Bool) : Int32 := if pw_nuC A e lo hi wl = true then pw_tN A e else nI lo

set_option maxHeartbeats 4000000 in
set_option maxRecDepth 100000 in
theorem c_mnumb {A : pw_m} (mm : pw_m) (hx : MX A mm) (e : Nat) (he2 : e ≤ pw_g A 2 1) (hT : TK A mm e) (b21 : pw_g A 2 1 ≤ 160) (hok : pw_ok A) (wl : Bool) (hw : mm 26 21 = pw_b wl) (lo hi : Nat) (mo : Int32) (hmo : mo = nI hi - nI 1) (hl : lo < 100) (hh : hi ≤ 100) : pw_Ct 3 yX8_number m_X8_number [.ref 26, .int (nI lo), .int mo] mm (fun r m' => r = some (.int (pw_nuR A e lo hi wl)) ∧ m' = pw_nuM A mm e lo hi wl) := by
  refine pw_ct (by decide +kernel) rfl (Nat.le_of_ble_eq_true rfl) (fun x => ?_)
  generalize hZ : pw_Z x _ = Z
  have z0 := pw_tb1 he2
  have zm := pw_mT_b (A := A) (e := e)
  show pw_V x m_X8_number 3 Z 0 [(0, .ref 26), (1, .int (nI lo)), (2, .int mo)] [] mm
  refine pw_blk (pc' := 4) [.aload 0, .getfield 821] (by decide +kernel) ?_
  show pw_V x m_X8_number 3 Z 4 [(0, .ref 26), (1, .int (nI lo)), (2, .int mo)] [.int (mm 26 21)] mm
  rw [show mm 26 21 = pw_b (wl) from hw]
  refine pw_ib_eq (tgt := 31) (off := 27) (by decide +kernel) (by decide) (fun h4 => ?_) (fun h4 => ?_)
  · refine pw_blk (pc' := 34) [.iconst 0, .istore 3, .iload 3] (by decide +kernel) ?_
    show pw_V x m_X8_number 3 Z 34 [(3, .int (nI 0)), (0, .ref 26), (1, .int (nI lo)), (2, .int mo)] [.int (nI 0)] mm
    refine pw_iz_eq (tgt := 44) (off := 10) (by omega) (by decide +kernel) (by decide) (fun _ => ?_) (fun h => by omega)
    refine pw_blk (pc' := 53) [.iload 1, .istore 4, .aload 0, .iload 3, .putfield 821, .iload 3] (by decide +kernel) ?_
    refine ⟨Or.inl rfl, ?_⟩
    show pw_V x m_X8_number 3 Z 53 [(4, .int (nI lo)), (3, .int (nI 0)), (0, .ref 26), (1, .int (nI lo)), (2, .int mo)] [.int (nI 0)] (pw_up mm 26 21 (nI 0))
    refine pw_iz_eq (tgt := 60) (off := 7) (by omega) (by decide +kernel) (by decide) (fun _ => ?_) (fun h => by omega)
    refine pw_blk (pc' := 62) [.iload 4] (by decide +kernel) ?_
    show pw_V x m_X8_number 3 Z 62 [(4, .int (nI lo)), (3, .int (nI 0)), (0, .ref 26), (1, .int (nI lo)), (2, .int mo)] [.int (nI lo)] (pw_up mm 26 21 (nI 0))
    rw [← hZ]
    refine pw_ri (by decide +kernel) ?_
    have hC : pw_nuC A e lo hi wl = false := by unfold pw_nuC; rw [h4]; rfl
    exact ⟨by unfold pw_nuR; rw [if_neg (by rw [hC]; decide)], by unfold pw_nuM; rw [if_neg (by rw [hC]; decide)]⟩
  · refine pw_blk (pc' := 12) [.aload 0, .getfield 819, .iconst 2] (by decide +kernel) ?_
    show pw_V x m_X8_number 3 Z 12 [(0, .ref 26), (1, .int (nI lo)), (2, .int mo)] [.int (nI 2), .int (mm 26 19)] mm
    rw [show mm 26 19 = nI (pw_mT A e) from hT.2.2.1]
    refine pw_in_ne (tgt := 31) (off := 19) (by omega) (by omega) (by decide +kernel) (by decide) (fun h12 => ?_) (fun h12 => ?_)
    · refine pw_blk (pc' := 34) [.iconst 0, .istore 3, .iload 3] (by decide +kernel) ?_
      show pw_V x m_X8_number 3 Z 34 [(3, .int (nI 0)), (0, .ref 26), (1, .int (nI lo)), (2, .int mo)] [.int (nI 0)] mm
      refine pw_iz_eq (tgt := 44) (off := 10) (by omega) (by decide +kernel) (by decide) (fun _ => ?_) (fun h => by omega)
      refine pw_blk (pc' := 53) [.iload 1, .istore 4, .aload 0, .iload 3, .putfield 821, .iload 3] (by decide +kernel) ?_
      refine ⟨Or.inl rfl, ?_⟩
      show pw_V x m_X8_number 3 Z 53 [(4, .int (nI lo)), (3, .int (nI 0)), (0, .ref 26), (1, .int (nI lo)), (2, .int mo)] [.int (nI 0)] (pw_up mm 26 21 (nI 0))
      refine pw_iz_eq (tgt := 60) (off := 7) (by omega) (by decide +kernel) (by decide) (fun _ => ?_) (fun h => by omega)
      refine pw_blk (pc' := 62) [.iload 4] (by decide +kernel) ?_
      show pw_V x m_X8_number 3 Z 62 [(4, .int (nI lo)), (3, .int (nI 0)), (0, .ref 26), (1, .int (nI lo)), (2, .int mo)] [.int (nI lo)] (pw_up mm 26 21 (nI 0))
      rw [← hZ]
      refine pw_ri (by decide +kernel) ?_
      have hC : pw_nuC A e lo hi wl = false := by unfold pw_nuC; rw [show pw_rgb lo hi (pw_tN A e) = false from by cases z : pw_rgb lo hi (pw_tN A e) with | false => rfl | true => exact absurd ((pw_num_in hl hh).mpr z).1 h12]; cases wl <;> rfl
      exact ⟨by unfold pw_nuR; rw [if_neg (by rw [hC]; decide)], by unfold pw_nuM; rw [if_neg (by rw [hC]; decide)]⟩
    · refine pw_blk (pc' := 21) [.aload 0, .getfield 820, .iload 1, .iload 2] (by decide +kernel) ?_
      show pw_V x m_X8_number 3 Z 21 [(0, .ref 26), (1, .int (nI lo)), (2, .int mo)] [.int mo, .int (nI lo), .int (mm 26 20)] mm
      rw [show mm 26 20 = pw_mV A e from hT.2.2.2]
      refine pw_cS (vs := [.int (pw_mV A e), .int (nI lo), .int mo]) (rest := []) k_X8_in (c_mIn (pw_mV A e) (nI lo) mo mm) l_8_78 rfl (by omega) (Nat.le_of_ble_eq_true rfl) (by decide +kernel) ?_
      rintro _ m1 ⟨rfl, e1⟩
      rw [e1]
      clear e1 m1
      show pw_V x m_X8_number 3 Z 24 [(0, .ref 26), (1, .int (nI lo)), (2, .int mo)] [.int (pw_b (pw_in (pw_mV A e) (nI lo) mo))] mm
      refine pw_ib_eq (tgt := 31) (off := 7) (by decide +kernel) (by decide) (fun h24 => ?_) (fun h24 => ?_)
      · refine pw_blk (pc' := 34) [.iconst 0, .istore 3, .iload 3] (by decide +kernel) ?_
        show pw_V x m_X8_number 3 Z 34 [(3, .int (nI 0)), (0, .ref 26), (1, .int (nI lo)), (2, .int mo)] [.int (nI 0)] mm
        refine pw_iz_eq (tgt := 44) (off := 10) (by omega) (by decide +kernel) (by decide) (fun _ => ?_) (fun h => by omega)
        refine pw_blk (pc' := 53) [.iload 1, .istore 4, .aload 0, .iload 3, .putfield 821, .iload 3] (by decide +kernel) ?_
        refine ⟨Or.inl rfl, ?_⟩
        show pw_V x m_X8_number 3 Z 53 [(4, .int (nI lo)), (3, .int (nI 0)), (0, .ref 26), (1, .int (nI lo)), (2, .int mo)] [.int (nI 0)] (pw_up mm 26 21 (nI 0))
        refine pw_iz_eq (tgt := 60) (off := 7) (by omega) (by decide +kernel) (by decide) (fun _ => ?_) (fun h => by omega)
        refine pw_blk (pc' := 62) [.iload 4] (by decide +kernel) ?_
        show pw_V x m_X8_number 3 Z 62 [(4, .int (nI lo)), (3, .int (nI 0)), (0, .ref 26), (1, .int (nI lo)), (2, .int mo)] [.int (nI lo)] (pw_up mm 26 21 (nI 0))
        rw [← hZ]
        refine pw_ri (by decide +kernel) ?_
        have hC : pw_nuC A e lo hi wl = false := by unfold pw_nuC; rw [show pw_rgb lo hi (pw_tN A e) = false from by cases z : pw_rgb lo hi (pw_tN A e) with | false => rfl | true => have q := ((pw_num_in hl hh).mpr z).2; rw [← hmo, h24] at q; cases q]; cases wl <;> rfl
        exact ⟨by unfold pw_nuR; rw [if_neg (by rw [hC]; decide)], by unfold pw_nuM; rw [if_neg (by rw [hC]; decide)]⟩
      · refine pw_blk (pc' := 28) [.iconst 1] (by decide +kernel) ?_
        show pw_V x m_X8_number 3 Z 28 [(0, .ref 26), (1, .int (nI lo)), (2, .int mo)] [.int (nI 1)] mm
        refine pw_goto (tgt := 32) (off := 4) (by decide +kernel) (by decide) ?_
        refine pw_blk (pc' := 34) [.istore 3, .iload 3] (by decide +kernel) ?_
        show pw_V x m_X8_number 3 Z 34 [(3, .int (nI 1)), (0, .ref 26), (1, .int (nI lo)), (2, .int mo)] [.int (nI 1)] mm
        refine pw_iz_eq (tgt := 44) (off := 10) (by omega) (by decide +kernel) (by decide) (fun h => by omega) (fun _ => ?_)
        refine pw_blk (pc' := 41) [.aload 0, .getfield 820] (by decide +kernel) ?_
        show pw_V x m_X8_number 3 Z 41 [(3, .int (nI 1)), (0, .ref 26), (1, .int (nI lo)), (2, .int mo)] [.int (mm 26 20)] mm
        rw [show mm 26 20 = pw_mV A e from hT.2.2.2]
        refine pw_goto (tgt := 45) (off := 4) (by decide +kernel) (by decide) ?_
        refine pw_blk (pc' := 53) [.istore 4, .aload 0, .iload 3, .putfield 821, .iload 3] (by decide +kernel) ?_
        refine ⟨Or.inr rfl, ?_⟩
        show pw_V x m_X8_number 3 Z 53 [(4, .int (pw_mV A e)), (3, .int (nI 1)), (0, .ref 26), (1, .int (nI lo)), (2, .int mo)] [.int (nI 1)] (pw_up mm 26 21 (nI 1))
        refine pw_iz_eq (tgt := 60) (off := 7) (by omega) (by decide +kernel) (by decide) (fun h => by omega) (fun _ => ?_)
        refine pw_blk (pc' := 57) [.aload 0] (by decide +kernel) ?_
        show pw_V x m_X8_number 3 Z 57 [(4, .int (pw_mV A e)), (3, .int (nI 1)), (0, .ref 26), (1, .int (nI lo)), (2, .int mo)] [.ref 26] (pw_up mm 26 21 (nI 1))
        refine pw_cV (vs := []) (rest := []) k_X8_next (c_mnext (A := A) (pw_up mm 26 21 (nI 1)) (MX.u hx (by decide)) hok (pw_tE A e) hT.1 (by omega)) l_8_127 rfl rfl rfl rfl (by omega) (Nat.le_of_ble_eq_true rfl) (by decide +kernel) ?_
        rintro _ m1 ⟨rfl, e1⟩
        rw [e1]
        clear e1 m1
        show pw_V x m_X8_number 3 Z 60 [(4, .int (pw_mV A e)), (3, .int (nI 1)), (0, .ref 26), (1, .int (nI lo)), (2, .int mo)] [] (pw_tok A (pw_up mm 26 21 (nI 1)) (pw_tE A e))
        refine pw_blk (pc' := 62) [.iload 4] (by decide +kernel) ?_
        show pw_V x m_X8_number 3 Z 62 [(4, .int (pw_mV A e)), (3, .int (nI 1)), (0, .ref 26), (1, .int (nI lo)), (2, .int mo)] [.int (pw_mV A e)] (pw_tok A (pw_up mm 26 21 (nI 1)) (pw_tE A e))
        rw [← hZ]
        refine pw_ri (by decide +kernel) ?_
        have hr : pw_rgb lo hi (pw_tN A e) = true := (pw_num_in hl hh).mp ⟨h12, by rw [← hmo]; exact h24⟩
        have hC : pw_nuC A e lo hi wl = true := by unfold pw_nuC; rw [h4, hr]; rfl
        exact ⟨by unfold pw_nuR; rw [if_pos hC, pw_num_v hl hh hr], by unfold pw_nuM; rw [if_pos hC]⟩
