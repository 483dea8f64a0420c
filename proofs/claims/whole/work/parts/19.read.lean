def F_seat (A : pw_m) (s what : Int32) : Int32 := if pw_inr s (pw_n A) then (if what = nI 0 then A 5 (pw_c s) else if what = nI 1 then A 6 (pw_c s) else if what = nI 2 then pw_o (pw_si A (pw_c s)) else if what = nI 3 then pw_b (decide (pw_pon A = some (pw_c s))) else -3) else -2
def F_knight (A : pw_m) (k what : Int32) : Int32 := if pw_inr k (pw_k A) then (if what = nI 0 then A 7 (pw_c k) else if what = nI 1 then A 43 (pw_c k) else if what = nI 2 then A 9 (pw_c k) else if what = nI 3 then A 10 (pw_c k) else if what = nI 4 then pw_b ((pw_g A 42 1).testBit (pw_c k)) else if what = nI 5 then A 44 (pw_c k) else if what = nI 6 then A 45 (pw_c k) else -3) else -2
theorem nI_ne {a b : Nat} (h : a ≠ b) (ha : a < 2 ^ 31) (hb : b < 2 ^ 31) : ¬ nI a = nI b := fun q => h ((nI_eq ha hb).mp q)
theorem nz10 : ¬ nI 1 = nI 0 := by decide
theorem nz20 : ¬ nI 2 = nI 0 := by decide
theorem nz21 : ¬ nI 2 = nI 1 := by decide
theorem nz30 : ¬ nI 3 = nI 0 := by decide
theorem nz31 : ¬ nI 3 = nI 1 := by decide
theorem nz32 : ¬ nI 3 = nI 2 := by decide
theorem nz40 : ¬ nI 4 = nI 0 := by decide
theorem nz41 : ¬ nI 4 = nI 1 := by decide
theorem nz42 : ¬ nI 4 = nI 2 := by decide
theorem nz43 : ¬ nI 4 = nI 3 := by decide
theorem nz50 : ¬ nI 5 = nI 0 := by decide
theorem nz51 : ¬ nI 5 = nI 1 := by decide
theorem nz52 : ¬ nI 5 = nI 2 := by decide
theorem nz53 : ¬ nI 5 = nI 3 := by decide
theorem nz54 : ¬ nI 5 = nI 4 := by decide
theorem nz60 : ¬ nI 6 = nI 0 := by decide
theorem nz61 : ¬ nI 6 = nI 1 := by decide
theorem nz62 : ¬ nI 6 = nI 2 := by decide
theorem nz63 : ¬ nI 6 = nI 3 := by decide
theorem nz64 : ¬ nI 6 = nI 4 := by decide
theorem nz65 : ¬ nI 6 = nI 5 := by decide
theorem pw_b_t : pw_b true = nI 1 := rfl
theorem pw_b_f : pw_b false = nI 0 := rfl

set_option maxHeartbeats 4000000 in
set_option maxRecDepth 100000 in
theorem c_seat (s what : Int32) (mm : pw_m) (hok : pw_ok mm) : pw_Ct 2 yX7_seat m_X7_seat [.ref 0, .int s, .int what] mm (fun r m' => r = some (.int (F_seat mm s what)) ∧ m' = mm) := by
  refine pw_ct (by decide +kernel) rfl (Nat.le_of_ble_eq_true rfl) (fun x => ?_)
  generalize hZ : pw_Z x _ = Z
  have bn := pw_bn hok
  have bk := pw_bk hok
  have b8 := pw_b48 hok
  have bd := pw_b420 hok
  have bm := pw_mulb (pw_b49 hok) bd
  show pw_V x m_X7_seat 2 Z 0 [(0, .ref 0), (1, .int s), (2, .int what)] [] mm
  refine pw_blk (pc' := 2) [.aload 0, .iload 1] (by decide +kernel) ?_
  show pw_V x m_X7_seat 2 Z 2 [(0, .ref 0), (1, .int s), (2, .int what)] [.int s, .ref 0] mm
  refine pw_cV (vs := [.int s]) (rest := []) k_X7_isSeat (c_isSeat s mm hok) l_7_86 rfl rfl rfl rfl (by decide) (Nat.le_of_ble_eq_true rfl) (by decide +kernel) ?_
  rintro _ m1 ⟨rfl, e1⟩
  rw [e1]
  clear e1 m1
  show pw_V x m_X7_seat 2 Z 5 [(0, .ref 0), (1, .int s), (2, .int what)] [.int (pw_b (pw_inr s (pw_n mm)))] mm
  refine pw_ib_ne (tgt := 11) (off := 6) (by decide +kernel) (by decide) (fun h5 => ?_) (fun h5 => ?_)
  · obtain ⟨j5, b5, e5⟩ := pw_inr_t (by omega) h5
    subst e5
    refine pw_blk (pc' := 12) [.iload 2] (by decide +kernel) ?_
    show pw_V x m_X7_seat 2 Z 12 [(0, .ref 0), (1, .int (nI j5)), (2, .int what)] [.int what] mm
    refine pw_tsw (tgt := 97) (dflt := 85) (lo := 0) (hi := 3) (offs := #[32, 42, 52, 61]) (len := 32) (by decide +kernel) (by decide) (fun h12 => ?_) (fun j hj h12 => ?_)
    · have e12_0 : ¬ what = nI 0 := fun q => by rw [q] at h12; revert h12; decide
      have e12_1 : ¬ what = nI 1 := fun q => by rw [q] at h12; revert h12; decide
      have e12_2 : ¬ what = nI 2 := fun q => by rw [q] at h12; revert h12; decide
      have e12_3 : ¬ what = nI 3 := fun q => by rw [q] at h12; revert h12; decide
      refine pw_blk (pc' := 99) [.iconst (-3)] (by decide +kernel) ?_
      show pw_V x m_X7_seat 2 Z 99 [(0, .ref 0), (1, .int (nI j5)), (2, .int what)] [.int (-3)] mm
      rw [← hZ]
      refine pw_ri (by decide +kernel) ?_
      refine ⟨?_, rfl⟩
      simp [F_seat, pw_b_t, pw_b_f, nz10, nz20, nz21, nz30, nz31, nz32, nz40, nz41, nz42, nz43, nz50, nz51, nz52, nz53, nz54, nz60, nz61, nz62, nz63, nz64, nz65, pw_inr_nI (show j5 < 2 ^ 31 by omega) (show pw_n mm < 2 ^ 31 by omega), pw_c_nI (show j5 < 2 ^ 31 by omega), b5, h5, e12_0, e12_1, e12_2, e12_3]
    · match j, hj, h12 with
      | 0, hj, h12 =>
        refine ⟨32, 44, rfl, by decide, ?_⟩
        have e12 : what = nI 0 := Int32.toInt_inj.mp (by rw [h12]; rfl)
        subst e12
        refine pw_blk (pc' := 53) [.aload 0, .getfield 701, .getfield 502, .iload 1, .iaload] (by decide +kernel) ?_
        refine ⟨j5, rfl, by omega, ?_⟩
        show pw_V x m_X7_seat 2 Z 53 [(0, .ref 0), (1, .int (nI j5)), (2, .int (nI 0))] [.int (mm 5 j5)] mm
        rw [← hZ]
        refine pw_ri (by decide +kernel) ?_
        refine ⟨?_, rfl⟩
        simp [F_seat, pw_b_t, pw_b_f, nz10, nz20, nz21, nz30, nz31, nz32, nz40, nz41, nz42, nz43, nz50, nz51, nz52, nz53, nz54, nz60, nz61, nz62, nz63, nz64, nz65, pw_inr_nI (show j5 < 2 ^ 31 by omega) (show pw_n mm < 2 ^ 31 by omega), pw_c_nI (show j5 < 2 ^ 31 by omega), b5, h5]
      | 1, hj, h12 =>
        refine ⟨42, 54, rfl, by decide, ?_⟩
        have e12 : what = nI 1 := Int32.toInt_inj.mp (by rw [h12]; rfl)
        subst e12
        refine pw_blk (pc' := 63) [.aload 0, .getfield 701, .getfield 503, .iload 1, .iaload] (by decide +kernel) ?_
        refine ⟨j5, rfl, by omega, ?_⟩
        show pw_V x m_X7_seat 2 Z 63 [(0, .ref 0), (1, .int (nI j5)), (2, .int (nI 1))] [.int (mm 6 j5)] mm
        rw [← hZ]
        refine pw_ri (by decide +kernel) ?_
        refine ⟨?_, rfl⟩
        simp [F_seat, pw_b_t, pw_b_f, nz10, nz20, nz21, nz30, nz31, nz32, nz40, nz41, nz42, nz43, nz50, nz51, nz52, nz53, nz54, nz60, nz61, nz62, nz63, nz64, nz65, pw_inr_nI (show j5 < 2 ^ 31 by omega) (show pw_n mm < 2 ^ 31 by omega), pw_c_nI (show j5 < 2 ^ 31 by omega), b5, h5]
      | 2, hj, h12 =>
        refine ⟨52, 64, rfl, by decide, ?_⟩
        have e12 : what = nI 2 := Int32.toInt_inj.mp (by rw [h12]; rfl)
        subst e12
        refine pw_blk (pc' := 69) [.aload 0, .getfield 702, .iload 1] (by decide +kernel) ?_
        show pw_V x m_X7_seat 2 Z 69 [(0, .ref 0), (1, .int (nI j5)), (2, .int (nI 2))] [.int (nI j5), .ref 42] mm
        refine pw_cV (vs := [.int (nI j5)]) (rest := []) k_X0_whoSitsOn (c_whoSitsOn j5 mm hok (by omega)) l_7_96 rfl rfl rfl rfl (by decide) (Nat.le_of_ble_eq_true rfl) (by decide +kernel) ?_
        rintro _ m1 ⟨rfl, e1⟩
        rw [e1]
        clear e1 m1
        show pw_V x m_X7_seat 2 Z 72 [(0, .ref 0), (1, .int (nI j5)), (2, .int (nI 2))] [.int (pw_o (pw_si mm j5))] mm
        rw [← hZ]
        refine pw_ri (by decide +kernel) ?_
        refine ⟨?_, rfl⟩
        simp [F_seat, pw_b_t, pw_b_f, nz10, nz20, nz21, nz30, nz31, nz32, nz40, nz41, nz42, nz43, nz50, nz51, nz52, nz53, nz54, nz60, nz61, nz62, nz63, nz64, nz65, pw_inr_nI (show j5 < 2 ^ 31 by omega) (show pw_n mm < 2 ^ 31 by omega), pw_c_nI (show j5 < 2 ^ 31 by omega), b5, h5]
      | 3, hj, h12 =>
        refine ⟨61, 73, rfl, by decide, ?_⟩
        have e12 : what = nI 3 := Int32.toInt_inj.mp (by rw [h12]; rfl)
        subst e12
        refine pw_blk (pc' := 84) [.aload 0, .getfield 701, .aload 0, .getfield 702, .getfield 0] (by decide +kernel) ?_
        show pw_V x m_X7_seat 2 Z 84 [(0, .ref 0), (1, .int (nI j5)), (2, .int (nI 3))] [.int (mm 42 0), .ref 4] mm
        rw [show mm 42 0 = nI (pw_g mm 42 0) from pw_q420 hok]
        refine pw_cV (vs := [.int (nI (pw_g mm 42 0))]) (rest := []) k_X5_perilOn (c_perilOn mm hok) l_7_103 rfl rfl rfl rfl (by decide) (Nat.le_of_ble_eq_true rfl) (by decide +kernel) ?_
        rintro _ m1 ⟨rfl, e1⟩
        rw [e1]
        clear e1 m1
        show pw_V x m_X7_seat 2 Z 87 [(0, .ref 0), (1, .int (nI j5)), (2, .int (nI 3))] [.int (pw_o (pw_pon mm))] mm
        refine pw_blk (pc' := 88) [.iload 1] (by decide +kernel) ?_
        show pw_V x m_X7_seat 2 Z 88 [(0, .ref 0), (1, .int (nI j5)), (2, .int (nI 3))] [.int (nI j5), .int (pw_o (pw_pon mm))] mm
        refine pw_on_ne (tgt := 95) (off := 7) (by decide +kernel) (by decide) (fun a ha => Nat.lt_trans (pw_pon_lt ha) (by omega)) (by omega) (fun h88 => ?_) (fun h88 => ?_)
        · refine pw_blk (pc' := 96) [.iconst 0] (by decide +kernel) ?_
          show pw_V x m_X7_seat 2 Z 96 [(0, .ref 0), (1, .int (nI j5)), (2, .int (nI 3))] [.int (nI 0)] mm
          rw [← hZ]
          refine pw_ri (by decide +kernel) ?_
          refine ⟨?_, rfl⟩
          simp [F_seat, pw_b_t, pw_b_f, nz10, nz20, nz21, nz30, nz31, nz32, nz40, nz41, nz42, nz43, nz50, nz51, nz52, nz53, nz54, nz60, nz61, nz62, nz63, nz64, nz65, pw_inr_nI (show j5 < 2 ^ 31 by omega) (show pw_n mm < 2 ^ 31 by omega), pw_c_nI (show j5 < 2 ^ 31 by omega), b5, h5, h88]
        · refine pw_blk (pc' := 92) [.iconst 1] (by decide +kernel) ?_
          show pw_V x m_X7_seat 2 Z 92 [(0, .ref 0), (1, .int (nI j5)), (2, .int (nI 3))] [.int (nI 1)] mm
          refine pw_goto (tgt := 96) (off := 4) (by decide +kernel) (by decide) ?_
          rw [← hZ]
          refine pw_ri (by decide +kernel) ?_
          refine ⟨?_, rfl⟩
          simp [F_seat, pw_b_t, pw_b_f, nz10, nz20, nz21, nz30, nz31, nz32, nz40, nz41, nz42, nz43, nz50, nz51, nz52, nz53, nz54, nz60, nz61, nz62, nz63, nz64, nz65, pw_inr_nI (show j5 < 2 ^ 31 by omega) (show pw_n mm < 2 ^ 31 by omega), pw_c_nI (show j5 < 2 ^ 31 by omega), b5, h5, h88]
      | j + 4, hj, h12 => exact absurd hj (by omega)
  · refine pw_blk (pc' := 10) [.iconst (-2)] (by decide +kernel) ?_
    show pw_V x m_X7_seat 2 Z 10 [(0, .ref 0), (1, .int s), (2, .int what)] [.int (-2)] mm
    rw [← hZ]
    refine pw_ri (by decide +kernel) ?_
    refine ⟨?_, rfl⟩
    simp [F_seat, pw_b_t, pw_b_f, nz10, nz20, nz21, nz30, nz31, nz32, nz40, nz41, nz42, nz43, nz50, nz51, nz52, nz53, nz54, nz60, nz61, nz62, nz63, nz64, nz65, h5]

set_option maxHeartbeats 4000000 in
set_option maxRecDepth 100000 in
theorem c_knight (k what : Int32) (mm : pw_m) (hok : pw_ok mm) : pw_Ct 1 yX7_knight m_X7_knight [.ref 0, .int k, .int what] mm (fun r m' => r = some (.int (F_knight mm k what)) ∧ m' = mm) := by
  refine pw_ct (by decide +kernel) rfl (Nat.le_of_ble_eq_true rfl) (fun x => ?_)
  generalize hZ : pw_Z x _ = Z
  have bn := pw_bn hok
  have bk := pw_bk hok
  have bt := pw_b421' hok
  show pw_V x m_X7_knight 1 Z 0 [(0, .ref 0), (1, .int k), (2, .int what)] [] mm
  refine pw_blk (pc' := 2) [.aload 0, .iload 1] (by decide +kernel) ?_
  show pw_V x m_X7_knight 1 Z 2 [(0, .ref 0), (1, .int k), (2, .int what)] [.int k, .ref 0] mm
  refine pw_cV (vs := [.int k]) (rest := []) k_X7_isKnight (c_isKnight k mm hok) l_7_106 rfl rfl rfl rfl (by decide) (Nat.le_of_ble_eq_true rfl) (by decide +kernel) ?_
  rintro _ m1 ⟨rfl, e1⟩
  rw [e1]
  clear e1 m1
  show pw_V x m_X7_knight 1 Z 5 [(0, .ref 0), (1, .int k), (2, .int what)] [.int (pw_b (pw_inr k (pw_k mm)))] mm
  refine pw_ib_ne (tgt := 11) (off := 6) (by decide +kernel) (by decide) (fun h5 => ?_) (fun h5 => ?_)
  · obtain ⟨j5, b5, e5⟩ := pw_inr_t (by omega) h5
    subst e5
    refine pw_blk (pc' := 12) [.iload 2] (by decide +kernel) ?_
    show pw_V x m_X7_knight 1 Z 12 [(0, .ref 0), (1, .int (nI j5)), (2, .int what)] [.int what] mm
    refine pw_tsw (tgt := 136) (dflt := 124) (lo := 0) (hi := 6) (offs := #[44, 54, 64, 74, 84, 104, 114]) (len := 44) (by decide +kernel) (by decide) (fun h12 => ?_) (fun j hj h12 => ?_)
    · have e12_0 : ¬ what = nI 0 := fun q => by rw [q] at h12; revert h12; decide
      have e12_1 : ¬ what = nI 1 := fun q => by rw [q] at h12; revert h12; decide
      have e12_2 : ¬ what = nI 2 := fun q => by rw [q] at h12; revert h12; decide
      have e12_3 : ¬ what = nI 3 := fun q => by rw [q] at h12; revert h12; decide
      have e12_4 : ¬ what = nI 4 := fun q => by rw [q] at h12; revert h12; decide
      have e12_5 : ¬ what = nI 5 := fun q => by rw [q] at h12; revert h12; decide
      have e12_6 : ¬ what = nI 6 := fun q => by rw [q] at h12; revert h12; decide
      refine pw_blk (pc' := 138) [.iconst (-3)] (by decide +kernel) ?_
      show pw_V x m_X7_knight 1 Z 138 [(0, .ref 0), (1, .int (nI j5)), (2, .int what)] [.int (-3)] mm
      rw [← hZ]
      refine pw_ri (by decide +kernel) ?_
      refine ⟨?_, rfl⟩
      simp [F_knight, pw_b_t, pw_b_f, nz10, nz20, nz21, nz30, nz31, nz32, nz40, nz41, nz42, nz43, nz50, nz51, nz52, nz53, nz54, nz60, nz61, nz62, nz63, nz64, nz65, pw_inr_nI (show j5 < 2 ^ 31 by omega) (show pw_k mm < 2 ^ 31 by omega), pw_c_nI (show j5 < 2 ^ 31 by omega), b5, h5, e12_0, e12_1, e12_2, e12_3, e12_4, e12_5, e12_6]
    · match j, hj, h12 with
      | 0, hj, h12 =>
        refine ⟨44, 56, rfl, by decide, ?_⟩
        have e12 : what = nI 0 := Int32.toInt_inj.mp (by rw [h12]; rfl)
        subst e12
        refine pw_blk (pc' := 65) [.aload 0, .getfield 701, .getfield 504, .iload 1, .iaload] (by decide +kernel) ?_
        refine ⟨j5, rfl, by omega, ?_⟩
        show pw_V x m_X7_knight 1 Z 65 [(0, .ref 0), (1, .int (nI j5)), (2, .int (nI 0))] [.int (mm 7 j5)] mm
        rw [← hZ]
        refine pw_ri (by decide +kernel) ?_
        refine ⟨?_, rfl⟩
        simp [F_knight, pw_b_t, pw_b_f, nz10, nz20, nz21, nz30, nz31, nz32, nz40, nz41, nz42, nz43, nz50, nz51, nz52, nz53, nz54, nz60, nz61, nz62, nz63, nz64, nz65, pw_inr_nI (show j5 < 2 ^ 31 by omega) (show pw_k mm < 2 ^ 31 by omega), pw_c_nI (show j5 < 2 ^ 31 by omega), b5, h5]
      | 1, hj, h12 =>
        refine ⟨54, 66, rfl, by decide, ?_⟩
        have e12 : what = nI 1 := Int32.toInt_inj.mp (by rw [h12]; rfl)
        subst e12
        refine pw_blk (pc' := 75) [.aload 0, .getfield 702, .getfield 2, .iload 1, .iaload] (by decide +kernel) ?_
        refine ⟨j5, rfl, by omega, ?_⟩
        show pw_V x m_X7_knight 1 Z 75 [(0, .ref 0), (1, .int (nI j5)), (2, .int (nI 1))] [.int (mm 43 j5)] mm
        rw [← hZ]
        refine pw_ri (by decide +kernel) ?_
        refine ⟨?_, rfl⟩
        simp [F_knight, pw_b_t, pw_b_f, nz10, nz20, nz21, nz30, nz31, nz32, nz40, nz41, nz42, nz43, nz50, nz51, nz52, nz53, nz54, nz60, nz61, nz62, nz63, nz64, nz65, pw_inr_nI (show j5 < 2 ^ 31 by omega) (show pw_k mm < 2 ^ 31 by omega), pw_c_nI (show j5 < 2 ^ 31 by omega), b5, h5]
      | 2, hj, h12 =>
        refine ⟨64, 76, rfl, by decide, ?_⟩
        have e12 : what = nI 2 := Int32.toInt_inj.mp (by rw [h12]; rfl)
        subst e12
        refine pw_blk (pc' := 85) [.aload 0, .getfield 701, .getfield 506, .iload 1, .iaload] (by decide +kernel) ?_
        refine ⟨j5, rfl, by omega, ?_⟩
        show pw_V x m_X7_knight 1 Z 85 [(0, .ref 0), (1, .int (nI j5)), (2, .int (nI 2))] [.int (mm 9 j5)] mm
        rw [← hZ]
        refine pw_ri (by decide +kernel) ?_
        refine ⟨?_, rfl⟩
        simp [F_knight, pw_b_t, pw_b_f, nz10, nz20, nz21, nz30, nz31, nz32, nz40, nz41, nz42, nz43, nz50, nz51, nz52, nz53, nz54, nz60, nz61, nz62, nz63, nz64, nz65, pw_inr_nI (show j5 < 2 ^ 31 by omega) (show pw_k mm < 2 ^ 31 by omega), pw_c_nI (show j5 < 2 ^ 31 by omega), b5, h5]
      | 3, hj, h12 =>
        refine ⟨74, 86, rfl, by decide, ?_⟩
        have e12 : what = nI 3 := Int32.toInt_inj.mp (by rw [h12]; rfl)
        subst e12
        refine pw_blk (pc' := 95) [.aload 0, .getfield 701, .getfield 507, .iload 1, .iaload] (by decide +kernel) ?_
        refine ⟨j5, rfl, by omega, ?_⟩
        show pw_V x m_X7_knight 1 Z 95 [(0, .ref 0), (1, .int (nI j5)), (2, .int (nI 3))] [.int (mm 10 j5)] mm
        rw [← hZ]
        refine pw_ri (by decide +kernel) ?_
        refine ⟨?_, rfl⟩
        simp [F_knight, pw_b_t, pw_b_f, nz10, nz20, nz21, nz30, nz31, nz32, nz40, nz41, nz42, nz43, nz50, nz51, nz52, nz53, nz54, nz60, nz61, nz62, nz63, nz64, nz65, pw_inr_nI (show j5 < 2 ^ 31 by omega) (show pw_k mm < 2 ^ 31 by omega), pw_c_nI (show j5 < 2 ^ 31 by omega), b5, h5]
      | 4, hj, h12 =>
        refine ⟨84, 96, rfl, by decide, ?_⟩
        have e12 : what = nI 4 := Int32.toInt_inj.mp (by rw [h12]; rfl)
        subst e12
        refine pw_blk (pc' := 104) [.aload 0, .getfield 702, .getfield 1, .iload 1] (by decide +kernel) ?_
        show pw_V x m_X7_knight 1 Z 104 [(0, .ref 0), (1, .int (nI j5)), (2, .int (nI 4))] [.int (nI j5), .int (mm 42 1)] mm
        rw [show mm 42 1 = nI (pw_g mm 42 1) from pw_q421 hok]
        refine pw_cS (vs := [.int (nI (pw_g mm 42 1)), .int (nI j5)]) (rest := []) k_X7_has (c_has (nI (pw_g mm 42 1)) (nI j5) mm) l_7_124 rfl (by decide) (Nat.le_of_ble_eq_true rfl) (by decide +kernel) ?_
        rintro _ m1 ⟨rfl, e1⟩
        rw [e1]
        clear e1 m1
        show pw_V x m_X7_knight 1 Z 107 [(0, .ref 0), (1, .int (nI j5)), (2, .int (nI 4))] [.int (pw_b (pw_hs (nI (pw_g mm 42 1)) (nI j5)))] mm
        rw [pw_hs_n (by omega) (by omega)]
        refine pw_ib_eq (tgt := 114) (off := 7) (by decide +kernel) (by decide) (fun h107 => ?_) (fun h107 => ?_)
        · refine pw_blk (pc' := 115) [.iconst 0] (by decide +kernel) ?_
          show pw_V x m_X7_knight 1 Z 115 [(0, .ref 0), (1, .int (nI j5)), (2, .int (nI 4))] [.int (nI 0)] mm
          rw [← hZ]
          refine pw_ri (by decide +kernel) ?_
          refine ⟨?_, rfl⟩
          simp [F_knight, pw_b_t, pw_b_f, nz10, nz20, nz21, nz30, nz31, nz32, nz40, nz41, nz42, nz43, nz50, nz51, nz52, nz53, nz54, nz60, nz61, nz62, nz63, nz64, nz65, pw_inr_nI (show j5 < 2 ^ 31 by omega) (show pw_k mm < 2 ^ 31 by omega), pw_c_nI (show j5 < 2 ^ 31 by omega), b5, h5, h107]
        · refine pw_blk (pc' := 111) [.iconst 1] (by decide +kernel) ?_
          show pw_V x m_X7_knight 1 Z 111 [(0, .ref 0), (1, .int (nI j5)), (2, .int (nI 4))] [.int (nI 1)] mm
          refine pw_goto (tgt := 115) (off := 4) (by decide +kernel) (by decide) ?_
          rw [← hZ]
          refine pw_ri (by decide +kernel) ?_
          refine ⟨?_, rfl⟩
          simp [F_knight, pw_b_t, pw_b_f, nz10, nz20, nz21, nz30, nz31, nz32, nz40, nz41, nz42, nz43, nz50, nz51, nz52, nz53, nz54, nz60, nz61, nz62, nz63, nz64, nz65, pw_inr_nI (show j5 < 2 ^ 31 by omega) (show pw_k mm < 2 ^ 31 by omega), pw_c_nI (show j5 < 2 ^ 31 by omega), b5, h5, h107]
      | 5, hj, h12 =>
        refine ⟨104, 116, rfl, by decide, ?_⟩
        have e12 : what = nI 5 := Int32.toInt_inj.mp (by rw [h12]; rfl)
        subst e12
        refine pw_blk (pc' := 125) [.aload 0, .getfield 702, .getfield 3, .iload 1, .iaload] (by decide +kernel) ?_
        refine ⟨j5, rfl, by omega, ?_⟩
        show pw_V x m_X7_knight 1 Z 125 [(0, .ref 0), (1, .int (nI j5)), (2, .int (nI 5))] [.int (mm 44 j5)] mm
        rw [← hZ]
        refine pw_ri (by decide +kernel) ?_
        refine ⟨?_, rfl⟩
        simp [F_knight, pw_b_t, pw_b_f, nz10, nz20, nz21, nz30, nz31, nz32, nz40, nz41, nz42, nz43, nz50, nz51, nz52, nz53, nz54, nz60, nz61, nz62, nz63, nz64, nz65, pw_inr_nI (show j5 < 2 ^ 31 by omega) (show pw_k mm < 2 ^ 31 by omega), pw_c_nI (show j5 < 2 ^ 31 by omega), b5, h5]
      | 6, hj, h12 =>
        refine ⟨114, 126, rfl, by decide, ?_⟩
        have e12 : what = nI 6 := Int32.toInt_inj.mp (by rw [h12]; rfl)
        subst e12
        refine pw_blk (pc' := 135) [.aload 0, .getfield 702, .getfield 4, .iload 1, .iaload] (by decide +kernel) ?_
        refine ⟨j5, rfl, by omega, ?_⟩
        show pw_V x m_X7_knight 1 Z 135 [(0, .ref 0), (1, .int (nI j5)), (2, .int (nI 6))] [.int (mm 45 j5)] mm
        rw [← hZ]
        refine pw_ri (by decide +kernel) ?_
        refine ⟨?_, rfl⟩
        simp [F_knight, pw_b_t, pw_b_f, nz10, nz20, nz21, nz30, nz31, nz32, nz40, nz41, nz42, nz43, nz50, nz51, nz52, nz53, nz54, nz60, nz61, nz62, nz63, nz64, nz65, pw_inr_nI (show j5 < 2 ^ 31 by omega) (show pw_k mm < 2 ^ 31 by omega), pw_c_nI (show j5 < 2 ^ 31 by omega), b5, h5]
      | j + 7, hj, h12 => exact absurd hj (by omega)
  · refine pw_blk (pc' := 10) [.iconst (-2)] (by decide +kernel) ?_
    show pw_V x m_X7_knight 1 Z 10 [(0, .ref 0), (1, .int k), (2, .int what)] [.int (-2)] mm
    rw [← hZ]
    refine pw_ri (by decide +kernel) ?_
    refine ⟨?_, rfl⟩
    simp [F_knight, pw_b_t, pw_b_f, nz10, nz20, nz21, nz30, nz31, nz32, nz40, nz41, nz42, nz43, nz50, nz51, nz52, nz53, nz54, nz60, nz61, nz62, nz63, nz64, nz65, h5]

/-- up along the table of kinds -/
def pw_ofk (f : Nat → Int32) (len : Nat) (asked : Int32) : Nat → Int32 → Bool
  | 0, _ => false
  | n + 1, a => if a = asked then true else if a < 0 then false else if nI len ≤ a then false else pw_ofk f len asked n (f (pw_c a))
theorem pw_cnn {a : Int32} (h : ¬ a < 0) : a = nI (pw_c a) := by
  obtain ⟨j, hj, e⟩ := nI_of h
  subst e
  rw [pw_c_nI hj]
theorem pw_clt {a : Int32} {n : Nat} (h : ¬ a < 0) (hn : n < 2 ^ 31) (h2 : a < nI n) : pw_c a < n := by
  obtain ⟨j, hj, e⟩ := nI_of h
  subst e
  rw [pw_c_nI hj]
  exact (nI_ltI hj hn).mp h2

set_option maxHeartbeats 4000000 in
set_option maxRecDepth 100000 in
theorem c_isOfKind_90 (b q : Int32) (mm : pw_m) : pw_Ct 0 yX7_isOfKind m_X7_isOfKind [.ref 90, .int b, .int q] mm (fun r m' => r = some (.int (pw_b (pw_ofk pw_k0 4 q 4 b))) ∧ m' = mm) := by
  refine pw_ct (by decide +kernel) rfl (Nat.le_of_ble_eq_true rfl) (fun x => ?_)
  generalize hZ : pw_Z x _ = Z
  have loop : ∀ i : Nat, i ≤ 4 → ∀ a : Int32, pw_ofk pw_k0 4 q 4 b = pw_ofk pw_k0 4 q (4 - i) a → pw_V x m_X7_isOfKind 0 Z 5 [(0, .ref 90), (1, .int b), (2, .int q), (3, .int a), (4, .int (nI i))] [] mm := by
    refine pw_dn 4 (fun i hi ih a hq => ?_)
    refine pw_blk (pc' := 9) [.iload 4, .aload 0, .arraylength] (by decide +kernel) ?_
    show pw_V x m_X7_isOfKind 0 Z 9 [(0, .ref 90), (1, .int b), (2, .int q), (3, .int a), (4, .int (nI i))] [.int (nI 4), .int (nI i)] mm
    refine pw_in_ge (tgt := 41) (off := 32) (by first | omega | exact pw_clt h20 (by omega) h26) (by first | omega | exact pw_clt h20 (by omega) h26) (by decide +kernel) (by decide) (fun h9 => ?_) (fun h9 => ?_)
    · refine pw_blk (pc' := 42) [.iconst 0] (by decide +kernel) ?_
      show pw_V x m_X7_isOfKind 0 Z 42 [(0, .ref 90), (1, .int b), (2, .int q), (3, .int a), (4, .int (nI i))] [.int (nI 0)] mm
      rw [← hZ]
      refine pw_rz (by decide +kernel) (Or.inl rfl) ?_
      refine ⟨?_, rfl⟩
      rw [hq, show 4 - i = 0 by omega]; rfl
    · refine pw_blk (pc' := 14) [.iload 3, .iload 2] (by decide +kernel) ?_
      show pw_V x m_X7_isOfKind 0 Z 14 [(0, .ref 90), (1, .int b), (2, .int q), (3, .int a), (4, .int (nI i))] [.int q, .int a] mm
      refine pw_ic_ne (tgt := 19) (off := 5) (by decide +kernel) (by decide) (fun h14 => ?_) (fun h14 => ?_)
      · refine pw_blk (pc' := 20) [.iload 3] (by decide +kernel) ?_
        show pw_V x m_X7_isOfKind 0 Z 20 [(0, .ref 90), (1, .int b), (2, .int q), (3, .int a), (4, .int (nI i))] [.int a] mm
        refine pw_if_lt (tgt := 29) (off := 9) (by decide +kernel) (by decide) (fun h20 => ?_) (fun h20 => ?_)
        · refine pw_blk (pc' := 30) [.iconst 0] (by decide +kernel) ?_
          show pw_V x m_X7_isOfKind 0 Z 30 [(0, .ref 90), (1, .int b), (2, .int q), (3, .int a), (4, .int (nI i))] [.int (nI 0)] mm
          rw [← hZ]
          refine pw_rz (by decide +kernel) (Or.inl rfl) ?_
          refine ⟨?_, rfl⟩
          rw [hq, show 4 - i = (4 - (i + 1)) + 1 by omega]
          simp only [pw_ofk, if_neg h14, if_pos h20]; rfl
        · refine pw_blk (pc' := 26) [.iload 3, .aload 0, .arraylength] (by decide +kernel) ?_
          show pw_V x m_X7_isOfKind 0 Z 26 [(0, .ref 90), (1, .int b), (2, .int q), (3, .int a), (4, .int (nI i))] [.int (nI 4), .int a] mm
          refine pw_ic_lt (tgt := 31) (off := 5) (by decide +kernel) (by decide) (fun h26 => ?_) (fun h26 => ?_)
          · refine pw_blk (pc' := 38) [.aload 0, .iload 3, .iaload, .istore 3, .iinc 4 1] (by decide +kernel) ?_
            refine ⟨pw_c a, pw_cnn h20, by first | omega | exact pw_clt h20 (by omega) h26, ?_⟩
            show pw_V x m_X7_isOfKind 0 Z 38 [(4, .int ((nI i) + (nI 1))), (3, .int (pw_k0 (pw_c a))), (0, .ref 90), (1, .int b), (2, .int q)] [] mm
            rw [show (nI i) + (nI 1) = nI (i + 1) from nI_add _ _]
            refine pw_goto (tgt := 5) (off := -33) (by decide +kernel) (by decide) ?_
            refine pw_lvp [2, 3, 4, 1, 0] rfl ?_
            refine ih (by omega) _ ?_
            rw [hq, show 4 - i = (4 - (i + 1)) + 1 by omega]
            simp only [pw_ofk, if_neg h14, if_neg h20, if_neg (show ¬ nI 4 ≤ a from fun z => pw_nlt z h26)]
          · refine pw_blk (pc' := 30) [.iconst 0] (by decide +kernel) ?_
            show pw_V x m_X7_isOfKind 0 Z 30 [(0, .ref 90), (1, .int b), (2, .int q), (3, .int a), (4, .int (nI i))] [.int (nI 0)] mm
            rw [← hZ]
            refine pw_rz (by decide +kernel) (Or.inl rfl) ?_
            refine ⟨?_, rfl⟩
            rw [hq, show 4 - i = (4 - (i + 1)) + 1 by omega]
            simp only [pw_ofk, if_neg h14, if_neg h20, if_pos (show nI 4 ≤ a from Int32.not_lt.mp h26)]; rfl
      · refine pw_blk (pc' := 18) [.iconst 1] (by decide +kernel) ?_
        show pw_V x m_X7_isOfKind 0 Z 18 [(0, .ref 90), (1, .int b), (2, .int q), (3, .int a), (4, .int (nI i))] [.int (nI 1)] mm
        rw [← hZ]
        refine pw_rz (by decide +kernel) (Or.inr rfl) ?_
        refine ⟨?_, rfl⟩
        rw [hq, show 4 - i = (4 - (i + 1)) + 1 by omega]
        simp only [pw_ofk, if_pos h14]; rfl
  show pw_V x m_X7_isOfKind 0 Z 0 [(0, .ref 90), (1, .int b), (2, .int q)] [] mm
  refine pw_blk (pc' := 5) [.iload 1, .istore 3, .iconst 0, .istore 4] (by decide +kernel) ?_
  show pw_V x m_X7_isOfKind 0 Z 5 [(4, .int (nI 0)), (3, .int b), (0, .ref 90), (1, .int b), (2, .int q)] [] mm
  refine pw_lvp [2, 3, 4, 1, 0] rfl ?_
  exact loop 0 (by omega) _ rfl

set_option maxHeartbeats 4000000 in
set_option maxRecDepth 100000 in
theorem c_isOfKind_91 (b q : Int32) (mm : pw_m) : pw_Ct 0 yX7_isOfKind m_X7_isOfKind [.ref 91, .int b, .int q] mm (fun r m' => r = some (.int (pw_b (pw_ofk pw_k1 6 q 6 b))) ∧ m' = mm) := by
  refine pw_ct (by decide +kernel) rfl (Nat.le_of_ble_eq_true rfl) (fun x => ?_)
  generalize hZ : pw_Z x _ = Z
  have loop : ∀ i : Nat, i ≤ 6 → ∀ a : Int32, pw_ofk pw_k1 6 q 6 b = pw_ofk pw_k1 6 q (6 - i) a → pw_V x m_X7_isOfKind 0 Z 5 [(0, .ref 91), (1, .int b), (2, .int q), (3, .int a), (4, .int (nI i))] [] mm := by
    refine pw_dn 6 (fun i hi ih a hq => ?_)
    refine pw_blk (pc' := 9) [.iload 4, .aload 0, .arraylength] (by decide +kernel) ?_
    show pw_V x m_X7_isOfKind 0 Z 9 [(0, .ref 91), (1, .int b), (2, .int q), (3, .int a), (4, .int (nI i))] [.int (nI 6), .int (nI i)] mm
    refine pw_in_ge (tgt := 41) (off := 32) (by first | omega | exact pw_clt h20 (by omega) h26) (by first | omega | exact pw_clt h20 (by omega) h26) (by decide +kernel) (by decide) (fun h9 => ?_) (fun h9 => ?_)
    · refine pw_blk (pc' := 42) [.iconst 0] (by decide +kernel) ?_
      show pw_V x m_X7_isOfKind 0 Z 42 [(0, .ref 91), (1, .int b), (2, .int q), (3, .int a), (4, .int (nI i))] [.int (nI 0)] mm
      rw [← hZ]
      refine pw_rz (by decide +kernel) (Or.inl rfl) ?_
      refine ⟨?_, rfl⟩
      rw [hq, show 6 - i = 0 by omega]; rfl
    · refine pw_blk (pc' := 14) [.iload 3, .iload 2] (by decide +kernel) ?_
      show pw_V x m_X7_isOfKind 0 Z 14 [(0, .ref 91), (1, .int b), (2, .int q), (3, .int a), (4, .int (nI i))] [.int q, .int a] mm
      refine pw_ic_ne (tgt := 19) (off := 5) (by decide +kernel) (by decide) (fun h14 => ?_) (fun h14 => ?_)
      · refine pw_blk (pc' := 20) [.iload 3] (by decide +kernel) ?_
        show pw_V x m_X7_isOfKind 0 Z 20 [(0, .ref 91), (1, .int b), (2, .int q), (3, .int a), (4, .int (nI i))] [.int a] mm
        refine pw_if_lt (tgt := 29) (off := 9) (by decide +kernel) (by decide) (fun h20 => ?_) (fun h20 => ?_)
        · refine pw_blk (pc' := 30) [.iconst 0] (by decide +kernel) ?_
          show pw_V x m_X7_isOfKind 0 Z 30 [(0, .ref 91), (1, .int b), (2, .int q), (3, .int a), (4, .int (nI i))] [.int (nI 0)] mm
          rw [← hZ]
          refine pw_rz (by decide +kernel) (Or.inl rfl) ?_
          refine ⟨?_, rfl⟩
          rw [hq, show 6 - i = (6 - (i + 1)) + 1 by omega]
          simp only [pw_ofk, if_neg h14, if_pos h20]; rfl
        · refine pw_blk (pc' := 26) [.iload 3, .aload 0, .arraylength] (by decide +kernel) ?_
          show pw_V x m_X7_isOfKind 0 Z 26 [(0, .ref 91), (1, .int b), (2, .int q), (3, .int a), (4, .int (nI i))] [.int (nI 6), .int a] mm
          refine pw_ic_lt (tgt := 31) (off := 5) (by decide +kernel) (by decide) (fun h26 => ?_) (fun h26 => ?_)
          · refine pw_blk (pc' := 38) [.aload 0, .iload 3, .iaload, .istore 3, .iinc 4 1] (by decide +kernel) ?_
            refine ⟨pw_c a, pw_cnn h20, by first | omega | exact pw_clt h20 (by omega) h26, ?_⟩
            show pw_V x m_X7_isOfKind 0 Z 38 [(4, .int ((nI i) + (nI 1))), (3, .int (pw_k1 (pw_c a))), (0, .ref 91), (1, .int b), (2, .int q)] [] mm
            rw [show (nI i) + (nI 1) = nI (i + 1) from nI_add _ _]
            refine pw_goto (tgt := 5) (off := -33) (by decide +kernel) (by decide) ?_
            refine pw_lvp [2, 3, 4, 1, 0] rfl ?_
            refine ih (by omega) _ ?_
            rw [hq, show 6 - i = (6 - (i + 1)) + 1 by omega]
            simp only [pw_ofk, if_neg h14, if_neg h20, if_neg (show ¬ nI 6 ≤ a from fun z => pw_nlt z h26)]
          · refine pw_blk (pc' := 30) [.iconst 0] (by decide +kernel) ?_
            show pw_V x m_X7_isOfKind 0 Z 30 [(0, .ref 91), (1, .int b), (2, .int q), (3, .int a), (4, .int (nI i))] [.int (nI 0)] mm
            rw [← hZ]
            refine pw_rz (by decide +kernel) (Or.inl rfl) ?_
            refine ⟨?_, rfl⟩
            rw [hq, show 6 - i = (6 - (i + 1)) + 1 by omega]
            simp only [pw_ofk, if_neg h14, if_neg h20, if_pos (show nI 6 ≤ a from Int32.not_lt.mp h26)]; rfl
      · refine pw_blk (pc' := 18) [.iconst 1] (by decide +kernel) ?_
        show pw_V x m_X7_isOfKind 0 Z 18 [(0, .ref 91), (1, .int b), (2, .int q), (3, .int a), (4, .int (nI i))] [.int (nI 1)] mm
        rw [← hZ]
        refine pw_rz (by decide +kernel) (Or.inr rfl) ?_
        refine ⟨?_, rfl⟩
        rw [hq, show 6 - i = (6 - (i + 1)) + 1 by omega]
        simp only [pw_ofk, if_pos h14]; rfl
  show pw_V x m_X7_isOfKind 0 Z 0 [(0, .ref 91), (1, .int b), (2, .int q)] [] mm
  refine pw_blk (pc' := 5) [.iload 1, .istore 3, .iconst 0, .istore 4] (by decide +kernel) ?_
  show pw_V x m_X7_isOfKind 0 Z 5 [(4, .int (nI 0)), (3, .int b), (0, .ref 91), (1, .int b), (2, .int q)] [] mm
  refine pw_lvp [2, 3, 4, 1, 0] rfl ?_
  exact loop 0 (by omega) _ rfl
