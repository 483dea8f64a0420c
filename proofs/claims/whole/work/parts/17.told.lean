set_option maxHeartbeats 4000000 in
set_option maxRecDepth 100000 in
theorem c_perilFrom (st sp dy : Nat) (mm : pw_m) (hok : pw_ok mm) (hb : st + sp * dy < 2 ^ 31) : pw_Ct 0 yX5_perilFrom m_X5_perilFrom [.ref 4, .int (nI st), .int (nI sp), .int (nI dy)] mm (fun r m' => r = some (.int (pw_o (pw_per (pw_n mm) st sp dy))) ∧ m' = mm) := by
  refine pw_ct (by decide +kernel) rfl (Nat.le_of_ble_eq_true rfl) (fun x => ?_)
  generalize hZ : pw_Z x _ = Z
  have bn := pw_bn hok
  have bk := pw_bk hok
  show pw_V x m_X5_perilFrom 0 Z 0 [(0, .ref 4), (1, .int (nI st)), (2, .int (nI sp)), (3, .int (nI dy))] [] mm
  refine pw_blk (pc' := 4) [.aload 0, .getfield 500] (by decide +kernel) ?_
  show pw_V x m_X5_perilFrom 0 Z 4 [(0, .ref 4), (1, .int (nI st)), (2, .int (nI sp)), (3, .int (nI dy))] [.int (mm 4 0)] mm
  rw [show mm 4 0 = nI (pw_n mm) from pw_q40 hok]
  refine pw_iz_ne (tgt := 11) (off := 7) (by omega) (by decide +kernel) (by decide) (fun h4 => ?_) (fun h4 => ?_)
  · refine pw_blk (pc' := 21) [.iload 1, .iload 2, .iload 3, .imul, .iadd, .aload 0, .getfield 500, .irem] (by decide +kernel) ?_
    refine ⟨(show ¬ mm 4 0 = 0 from by rw [show mm 4 0 = nI (pw_n mm) from pw_q40 hok]; exact (show ¬ nI (pw_n mm) = 0 from nI_ne0 (by omega) (by omega))), ?_⟩
    show pw_V x m_X5_perilFrom 0 Z 21 [(0, .ref 4), (1, .int (nI st)), (2, .int (nI sp)), (3, .int (nI dy))] [.int (((nI st) + ((nI sp) * (nI dy))) - ((nI st) + ((nI sp) * (nI dy))) / (mm 4 0) * (mm 4 0))] mm
    rw [show (nI sp) * (nI dy) = nI (sp * dy) from pk_mul _ _]
    rw [show (nI st) + (nI (sp * dy)) = nI (st + (sp * dy)) from nI_add _ _]
    rw [show mm 4 0 = nI (pw_n mm) from pw_q40 hok]
    rw [show (nI (st + (sp * dy))) - (nI (st + (sp * dy))) / (nI (pw_n mm)) * (nI (pw_n mm)) = nI ((st + (sp * dy)) % (pw_n mm)) from pk_rem (by omega) (by omega) (by omega)]
    rw [← hZ]
    refine pw_ri (by decide +kernel) ?_
    refine ⟨?_, rfl⟩
    rw [show pw_per (pw_n mm) st sp dy = some ((st + sp * dy) % pw_n mm) from if_neg h4]; rfl
  · refine pw_blk (pc' := 8) [.iconst (-1)] (by decide +kernel) ?_
    show pw_V x m_X5_perilFrom 0 Z 8 [(0, .ref 4), (1, .int (nI st)), (2, .int (nI sp)), (3, .int (nI dy))] [.int (-1)] mm
    refine pw_goto (tgt := 21) (off := 13) (by decide +kernel) (by decide) ?_
    rw [← hZ]
    refine pw_ri (by decide +kernel) ?_
    refine ⟨?_, rfl⟩
    rw [show pw_per (pw_n mm) st sp dy = none from if_pos h4]; rfl

theorem pw_perb {n st sp dy s : Nat} (h : pw_per n st sp dy = some s) : s < n := by
  unfold pw_per at h
  split at h
  · cases h
  · cases h; exact Nat.mod_lt _ (by omega)
theorem pw_mulb {a b : Nat} (ha : a < 8) (hb : b < 1000) : a * b < 8000 := by
  have h1 : a * b ≤ 8 * b := Nat.mul_le_mul_right b (by omega)
  omega

set_option maxHeartbeats 4000000 in
set_option maxRecDepth 100000 in
theorem c_perilOn (mm : pw_m) (hok : pw_ok mm) : pw_Ct 1 yX5_perilOn m_X5_perilOn [.ref 4, .int (nI (pw_g mm 42 0))] mm (fun r m' => r = some (.int (pw_o (pw_pon mm))) ∧ m' = mm) := by
  refine pw_ct (by decide +kernel) rfl (Nat.le_of_ble_eq_true rfl) (fun x => ?_)
  generalize hZ : pw_Z x _ = Z
  have bn := pw_bn hok
  have bk := pw_bk hok
  have b8 := pw_b48 hok
  have bd := pw_b420 hok
  have bm := pw_mulb (pw_b49 hok) bd
  show pw_V x m_X5_perilOn 1 Z 0 [(0, .ref 4), (1, .int (nI (pw_g mm 42 0)))] [] mm
  refine pw_blk (pc' := 10) [.aload 0, .aload 0, .getfield 508, .aload 0, .getfield 509, .iload 1] (by decide +kernel) ?_
  show pw_V x m_X5_perilOn 1 Z 10 [(0, .ref 4), (1, .int (nI (pw_g mm 42 0)))] [.int (nI (pw_g mm 42 0)), .int (mm 4 9), .int (mm 4 8), .ref 4] mm
  rw [show mm 4 9 = nI (pw_g mm 4 9) from pw_q49 hok]
  rw [show mm 4 8 = nI (pw_g mm 4 8) from pw_q48 hok]
  refine pw_cV (vs := [.int (nI (pw_g mm 4 8)), .int (nI (pw_g mm 4 9)), .int (nI (pw_g mm 42 0))]) (rest := []) k_X5_perilFrom (c_perilFrom (pw_g mm 4 8) (pw_g mm 4 9) (pw_g mm 42 0) mm hok (by omega)) l_5_70 rfl rfl rfl rfl (by omega) (Nat.le_of_ble_eq_true rfl) (by decide +kernel) ?_
  rintro _ m1 ⟨rfl, e1⟩
  rw [e1]
  clear e1 m1
  show pw_V x m_X5_perilOn 1 Z 13 [(0, .ref 4), (1, .int (nI (pw_g mm 42 0)))] [.int (pw_o (pw_per (pw_n mm) (pw_g mm 4 8) (pw_g mm 4 9) (pw_g mm 42 0)))] mm
  rw [← hZ]
  refine pw_ri (by decide +kernel) ?_
  exact ⟨rfl, rfl⟩

set_option maxHeartbeats 4000000 in
set_option maxRecDepth 100000 in
theorem c_fits (k rn s : Nat) (mm : pw_m) (hok : pw_ok mm) (hk : k < 6) (hr : rn < 100) (hs : s < 8) : pw_Ct 0 yX5_fits m_X5_fits [.ref 4, .int (nI k), .int (nI rn), .int (nI s)] mm (fun r m' => r = some (.int (pw_b (pw_fit mm k rn s))) ∧ m' = mm) := by
  refine pw_ct (by decide +kernel) rfl (Nat.le_of_ble_eq_true rfl) (fun x => ?_)
  generalize hZ : pw_Z x _ = Z
  have bn := pw_bn hok
  have bk := pw_bk hok
  have b5 := pw_b5 hok hs
  have b6 := pw_b6 hok hs
  have b7 := pw_b7 hok hk
  have b9 := pw_b9 hok hk
  show pw_V x m_X5_fits 0 Z 0 [(0, .ref 4), (1, .int (nI k)), (2, .int (nI rn)), (3, .int (nI s))] [] mm
  refine pw_blk (pc' := 7) [.aload 0, .getfield 502, .iload 3, .iaload, .iconst 4] (by decide +kernel) ?_
  refine ⟨s, rfl, by omega, ?_⟩
  show pw_V x m_X5_fits 0 Z 7 [(0, .ref 4), (1, .int (nI k)), (2, .int (nI rn)), (3, .int (nI s))] [.int (nI 4), .int (mm 5 s)] mm
  rw [show mm 5 s = nI (pw_g mm 5 s) from pw_q5 hok (by omega)]
  refine pw_in_ne (tgt := 12) (off := 5) (by omega) (by omega) (by decide +kernel) (by decide) (fun h7 => ?_) (fun h7 => ?_)
  · refine pw_blk (pc' := 19) [.aload 0, .getfield 504, .iload 1, .iaload, .iconst 2] (by decide +kernel) ?_
    refine ⟨k, rfl, by omega, ?_⟩
    show pw_V x m_X5_fits 0 Z 19 [(0, .ref 4), (1, .int (nI k)), (2, .int (nI rn)), (3, .int (nI s))] [.int (nI 2), .int (mm 7 k)] mm
    rw [show mm 7 k = nI (pw_g mm 7 k) from pw_q7 hok (by omega)]
    refine pw_in_ne (tgt := 24) (off := 5) (by omega) (by omega) (by decide +kernel) (by decide) (fun h19 => ?_) (fun h19 => ?_)
    · refine pw_blk (pc' := 30) [.aload 0, .getfield 502, .iload 3, .iaload] (by decide +kernel) ?_
      refine ⟨s, rfl, by omega, ?_⟩
      show pw_V x m_X5_fits 0 Z 30 [(0, .ref 4), (1, .int (nI k)), (2, .int (nI rn)), (3, .int (nI s))] [.int (mm 5 s)] mm
      rw [show mm 5 s = nI (pw_g mm 5 s) from pw_q5 hok (by omega)]
      refine pw_tsw (tgt := 109) (dflt := 79) (lo := 1) (hi := 3) (offs := #[26, 42, 58]) (len := 26) (by decide +kernel) (by decide) (fun h30 => ?_) (fun j hj h30 => ?_)
      · have n30_1 : ¬ (pw_g mm 5 s) = 1 := fun q => by rw [q] at h30; revert h30; decide
        have n30_2 : ¬ (pw_g mm 5 s) = 2 := fun q => by rw [q] at h30; revert h30; decide
        have n30_3 : ¬ (pw_g mm 5 s) = 3 := fun q => by rw [q] at h30; revert h30; decide
        refine pw_blk (pc' := 110) [.iconst 1] (by decide +kernel) ?_
        show pw_V x m_X5_fits 0 Z 110 [(0, .ref 4), (1, .int (nI k)), (2, .int (nI rn)), (3, .int (nI s))] [.int (nI 1)] mm
        rw [← hZ]
        refine pw_rz (by decide +kernel) (Or.inr rfl) ?_
        refine ⟨?_, rfl⟩
        rw [show pw_fit mm k rn s = true from by simp [pw_fit, pw_fitB, h7, h19, n30_1, n30_2, n30_3]]; rfl
      · match j, hj, h30 with
        | 0, hj, h30 =>
          refine ⟨26, 56, rfl, by decide, ?_⟩
          have e30 : nI (pw_g mm 5 s) = nI 1 := Int32.toInt_inj.mp (by rw [h30]; rfl)
          have n30 : (pw_g mm 5 s) = 1 := (nI_eq (by omega) (by omega)).mp e30
          refine pw_blk (pc' := 63) [.iload 2, .aload 0, .getfield 503, .iload 3, .iaload] (by decide +kernel) ?_
          refine ⟨s, rfl, by omega, ?_⟩
          show pw_V x m_X5_fits 0 Z 63 [(0, .ref 4), (1, .int (nI k)), (2, .int (nI rn)), (3, .int (nI s))] [.int (mm 6 s), .int (nI rn)] mm
          rw [show mm 6 s = nI (pw_g mm 6 s) from pw_q6 hok (by omega)]
          refine pw_in_lt (tgt := 70) (off := 7) (by omega) (by omega) (by decide +kernel) (by decide) (fun h63 => ?_) (fun h63 => ?_)
          · refine pw_blk (pc' := 71) [.iconst 0] (by decide +kernel) ?_
            show pw_V x m_X5_fits 0 Z 71 [(0, .ref 4), (1, .int (nI k)), (2, .int (nI rn)), (3, .int (nI s))] [.int (nI 0)] mm
            rw [← hZ]
            refine pw_rz (by decide +kernel) (Or.inl rfl) ?_
            refine ⟨?_, rfl⟩
            rw [show pw_fit mm k rn s = false from by simp [pw_fit, pw_fitB, h7, h19, n30, h63]]; rfl
          · refine pw_blk (pc' := 67) [.iconst 1] (by decide +kernel) ?_
            show pw_V x m_X5_fits 0 Z 67 [(0, .ref 4), (1, .int (nI k)), (2, .int (nI rn)), (3, .int (nI s))] [.int (nI 1)] mm
            refine pw_goto (tgt := 71) (off := 4) (by decide +kernel) (by decide) ?_
            rw [← hZ]
            refine pw_rz (by decide +kernel) (Or.inr rfl) ?_
            refine ⟨?_, rfl⟩
            rw [show pw_fit mm k rn s = true from by simp [pw_fit, pw_fitB, h7, h19, n30, h63]]; rfl
        | 1, hj, h30 =>
          refine ⟨42, 72, rfl, by decide, ?_⟩
          have e30 : nI (pw_g mm 5 s) = nI 2 := Int32.toInt_inj.mp (by rw [h30]; rfl)
          have n30 : (pw_g mm 5 s) = 2 := (nI_eq (by omega) (by omega)).mp e30
          refine pw_blk (pc' := 79) [.iload 2, .aload 0, .getfield 503, .iload 3, .iaload] (by decide +kernel) ?_
          refine ⟨s, rfl, by omega, ?_⟩
          show pw_V x m_X5_fits 0 Z 79 [(0, .ref 4), (1, .int (nI k)), (2, .int (nI rn)), (3, .int (nI s))] [.int (mm 6 s), .int (nI rn)] mm
          rw [show mm 6 s = nI (pw_g mm 6 s) from pw_q6 hok (by omega)]
          refine pw_in_gt (tgt := 86) (off := 7) (by omega) (by omega) (by decide +kernel) (by decide) (fun h79 => ?_) (fun h79 => ?_)
          · refine pw_blk (pc' := 87) [.iconst 0] (by decide +kernel) ?_
            show pw_V x m_X5_fits 0 Z 87 [(0, .ref 4), (1, .int (nI k)), (2, .int (nI rn)), (3, .int (nI s))] [.int (nI 0)] mm
            rw [← hZ]
            refine pw_rz (by decide +kernel) (Or.inl rfl) ?_
            refine ⟨?_, rfl⟩
            rw [show pw_fit mm k rn s = false from by simp [pw_fit, pw_fitB, h7, h19, n30, h79]]; rfl
          · refine pw_blk (pc' := 83) [.iconst 1] (by decide +kernel) ?_
            show pw_V x m_X5_fits 0 Z 83 [(0, .ref 4), (1, .int (nI k)), (2, .int (nI rn)), (3, .int (nI s))] [.int (nI 1)] mm
            refine pw_goto (tgt := 87) (off := 4) (by decide +kernel) (by decide) ?_
            rw [← hZ]
            refine pw_rz (by decide +kernel) (Or.inr rfl) ?_
            refine ⟨?_, rfl⟩
            rw [show pw_fit mm k rn s = true from by simp [pw_fit, pw_fitB, h7, h19, n30, h79]]; rfl
        | 2, hj, h30 =>
          refine ⟨58, 88, rfl, by decide, ?_⟩
          have e30 : nI (pw_g mm 5 s) = nI 3 := Int32.toInt_inj.mp (by rw [h30]; rfl)
          have n30 : (pw_g mm 5 s) = 3 := (nI_eq (by omega) (by omega)).mp e30
          refine pw_blk (pc' := 100) [.aload 0, .getfield 506, .iload 1, .iaload, .aload 0, .getfield 503, .iload 3, .iaload] (by decide +kernel) ?_
          refine ⟨k, rfl, by omega, ?_⟩
          refine ⟨s, rfl, by omega, ?_⟩
          show pw_V x m_X5_fits 0 Z 100 [(0, .ref 4), (1, .int (nI k)), (2, .int (nI rn)), (3, .int (nI s))] [.int (mm 6 s), .int (mm 9 k)] mm
          rw [show mm 6 s = nI (pw_g mm 6 s) from pw_q6 hok (by omega)]
          rw [show mm 9 k = nI (pw_g mm 9 k) from pw_q9 hok (by omega)]
          refine pw_in_ne (tgt := 107) (off := 7) (by omega) (by omega) (by decide +kernel) (by decide) (fun h100 => ?_) (fun h100 => ?_)
          · refine pw_blk (pc' := 108) [.iconst 0] (by decide +kernel) ?_
            show pw_V x m_X5_fits 0 Z 108 [(0, .ref 4), (1, .int (nI k)), (2, .int (nI rn)), (3, .int (nI s))] [.int (nI 0)] mm
            rw [← hZ]
            refine pw_rz (by decide +kernel) (Or.inl rfl) ?_
            refine ⟨?_, rfl⟩
            rw [show pw_fit mm k rn s = false from by simp [pw_fit, pw_fitB, h7, h19, n30, h100]]; rfl
          · refine pw_blk (pc' := 104) [.iconst 1] (by decide +kernel) ?_
            show pw_V x m_X5_fits 0 Z 104 [(0, .ref 4), (1, .int (nI k)), (2, .int (nI rn)), (3, .int (nI s))] [.int (nI 1)] mm
            refine pw_goto (tgt := 108) (off := 4) (by decide +kernel) (by decide) ?_
            rw [← hZ]
            refine pw_rz (by decide +kernel) (Or.inr rfl) ?_
            refine ⟨?_, rfl⟩
            rw [show pw_fit mm k rn s = true from by simp [pw_fit, pw_fitB, h7, h19, n30, h100]]; rfl
        | j + 3, hj, h30 => exact absurd hj (by omega)
    · refine pw_blk (pc' := 23) [.iconst 1] (by decide +kernel) ?_
      show pw_V x m_X5_fits 0 Z 23 [(0, .ref 4), (1, .int (nI k)), (2, .int (nI rn)), (3, .int (nI s))] [.int (nI 1)] mm
      rw [← hZ]
      refine pw_rz (by decide +kernel) (Or.inr rfl) ?_
      refine ⟨?_, rfl⟩
      rw [show pw_fit mm k rn s = true from by simp [pw_fit, pw_fitB, h7, h19]]; rfl
  · refine pw_blk (pc' := 11) [.iconst 0] (by decide +kernel) ?_
    show pw_V x m_X5_fits 0 Z 11 [(0, .ref 4), (1, .int (nI k)), (2, .int (nI rn)), (3, .int (nI s))] [.int (nI 0)] mm
    rw [← hZ]
    refine pw_rz (by decide +kernel) (Or.inl rfl) ?_
    refine ⟨?_, rfl⟩
    rw [show pw_fit mm k rn s = false from by simp [pw_fit, pw_fitB, h7]]; rfl

set_option maxHeartbeats 4000000 in
set_option maxRecDepth 100000 in
theorem c_whoSitsOn (s : Nat) (mm : pw_m) (hok : pw_ok mm) (hs : s < 8) : pw_Ct 0 yX0_whoSitsOn m_X0_whoSitsOn [.ref 42, .int (nI s)] mm (fun r m' => r = some (.int (pw_o (pw_si mm s))) ∧ m' = mm) := by
  refine pw_ct (by decide +kernel) rfl (Nat.le_of_ble_eq_true rfl) (fun x => ?_)
  generalize hZ : pw_Z x _ = Z
  have bn := pw_bn hok
  have bk := pw_bk hok
  have loop : ∀ i : Nat, i ≤ 6 → pw_ff (fun j => decide (pw_pl mm j = some s)) i = none → pw_V x m_X0_whoSitsOn 0 Z 2 [(0, .ref 42), (1, .int (nI s)), (2, .int (nI i))] [] mm := by
    refine pw_dn 6 (fun i hi ih hq => ?_)
    refine pw_blk (pc' := 5) [.iload 2, .iconst (6)] (by decide +kernel) ?_
    show pw_V x m_X0_whoSitsOn 0 Z 5 [(0, .ref 42), (1, .int (nI s)), (2, .int (nI i))] [.int (nI 6), .int (nI i)] mm
    refine pw_in_ge (tgt := 26) (off := 21) (by omega) (by omega) (by decide +kernel) (by decide) (fun h5 => ?_) (fun h5 => ?_)
    · refine pw_blk (pc' := 27) [.iconst (-1)] (by decide +kernel) ?_
      show pw_V x m_X0_whoSitsOn 0 Z 27 [(0, .ref 42), (1, .int (nI s)), (2, .int (nI i))] [.int (-1)] mm
      rw [← hZ]
      refine pw_ri (by decide +kernel) ?_
      refine ⟨?_, rfl⟩
      rw [show pw_si mm s = none from (by have e : i = 6 := (by omega); subst e; exact hq)]; rfl
    · refine pw_blk (pc' := 15) [.aload 0, .getfield 4, .iload 2, .iaload, .iload 1] (by decide +kernel) ?_
      refine ⟨i, rfl, by omega, ?_⟩
      show pw_V x m_X0_whoSitsOn 0 Z 15 [(0, .ref 42), (1, .int (nI s)), (2, .int (nI i))] [.int (nI s), .int (mm 45 i)] mm
      rw [show mm 45 i = pw_o (pw_pl mm i) from pw_q45 hok (by omega)]
      refine pw_on_ne (tgt := 20) (off := 5) (by decide +kernel) (by decide) (fun a ha => Nat.lt_trans (pw_b45 hok (show i < 6 by omega) ha) (by omega)) (by omega) (fun h15 => ?_) (fun h15 => ?_)
      · refine pw_blk (pc' := 23) [.iinc 2 1] (by decide +kernel) ?_
        show pw_V x m_X0_whoSitsOn 0 Z 23 [(2, .int ((nI i) + (nI 1))), (0, .ref 42), (1, .int (nI s))] [] mm
        rw [show (nI i) + (nI 1) = nI (i + 1) from nI_add _ _]
        refine pw_goto (tgt := 2) (off := -21) (by decide +kernel) (by decide) ?_
        refine pw_lvp [1, 2, 0] rfl ?_
        exact ih (by omega) (by simp [pw_ff, hq, h15])
      · refine pw_blk (pc' := 19) [.iload 2] (by decide +kernel) ?_
        show pw_V x m_X0_whoSitsOn 0 Z 19 [(0, .ref 42), (1, .int (nI s)), (2, .int (nI i))] [.int (nI i)] mm
        rw [← hZ]
        refine pw_ri (by decide +kernel) ?_
        refine ⟨?_, rfl⟩
        rw [show pw_si mm s = some i from pw_ff_up (i := i + 1) (by simp [pw_ff, hq, h15]) (by omega)]; rfl
  show pw_V x m_X0_whoSitsOn 0 Z 0 [(0, .ref 42), (1, .int (nI s))] [] mm
  refine pw_blk (pc' := 2) [.iconst 0, .istore 2] (by decide +kernel) ?_
  show pw_V x m_X0_whoSitsOn 0 Z 2 [(2, .int (nI 0)), (0, .ref 42), (1, .int (nI s))] [] mm
  refine pw_lvp [1, 2, 0] rfl ?_
  exact loop 0 (by omega) rfl

set_option maxHeartbeats 4000000 in
set_option maxRecDepth 100000 in
theorem c_whoSit (mm : pw_m) (hok : pw_ok mm) : pw_Ct 0 yX0_whoSit m_X0_whoSit [.ref 42] mm (fun r m' => r = some (.int (nI (pw_sb mm))) ∧ m' = mm) := by
  refine pw_ct (by decide +kernel) rfl (Nat.le_of_ble_eq_true rfl) (fun x => ?_)
  generalize hZ : pw_Z x _ = Z
  have bn := pw_bn hok
  have bk := pw_bk hok
  have loop : ∀ i : Nat, i ≤ 6 → pw_V x m_X0_whoSit 0 Z 4 [(0, .ref 42), (1, .int (nI (pw_ob (fun j => (pw_pl mm j).isSome) i))), (2, .int (nI i))] [] mm := by
    refine pw_dn (6) (fun i hi ih => ?_)
    refine pw_blk (pc' := 7) [.iload 2, .iconst (6)] (by decide +kernel) ?_
    show pw_V x m_X0_whoSit 0 Z 7 [(0, .ref 42), (1, .int (nI (pw_ob (fun j => (pw_pl mm j).isSome) i))), (2, .int (nI i))] [.int (nI 6), .int (nI i)] mm
    refine pw_in_ge (tgt := 32) (off := 25) (by omega) (by omega) (by decide +kernel) (by decide) (fun h7 => ?_) (fun h7 => ?_)
    · refine pw_blk (pc' := 33) [.iload 1] (by decide +kernel) ?_
      show pw_V x m_X0_whoSit 0 Z 33 [(0, .ref 42), (1, .int (nI (pw_ob (fun j => (pw_pl mm j).isSome) i))), (2, .int (nI i))] [.int (nI (pw_ob (fun j => (pw_pl mm j).isSome) i))] mm
      rw [← hZ]
      refine pw_ri (by decide +kernel) ?_
      have e : i = 6 := by omega
      subst e
      exact ⟨rfl, rfl⟩
    · refine pw_blk (pc' := 17) [.aload 0, .getfield 4, .iload 2, .iaload, .iconst (-1)] (by decide +kernel) ?_
      refine ⟨i, rfl, by omega, ?_⟩
      show pw_V x m_X0_whoSit 0 Z 17 [(0, .ref 42), (1, .int (nI (pw_ob (fun j => (pw_pl mm j).isSome) i))), (2, .int (nI i))] [.int (-1), .int (mm 45 i)] mm
      rw [show mm 45 i = pw_o (pw_pl mm i) from pw_q45 hok (by omega)]
      rcases h17 : pw_pl mm i with _ | s17
      · show pw_V x m_X0_whoSit 0 Z 17 [(0, .ref 42), (1, .int (nI (pw_ob (fun j => (pw_pl mm j).isSome) i))), (2, .int (nI i))] [.int (-1), .int (-1)] mm
        refine pw_ic_eq (tgt := 26) (off := 9) (by decide +kernel) (by decide) (fun _ => ?_) (fun h => absurd rfl h)
        refine pw_blk (pc' := 29) [.iinc 2 1] (by decide +kernel) ?_
        show pw_V x m_X0_whoSit 0 Z 29 [(2, .int ((nI i) + (nI 1))), (0, .ref 42), (1, .int (nI (pw_ob (fun j => (pw_pl mm j).isSome) i)))] [] mm
        rw [show (nI i) + (nI 1) = nI (i + 1) from nI_add _ _]
        refine pw_goto (tgt := 4) (off := -25) (by decide +kernel) (by decide) ?_
        rw [show (pw_ob (fun j => (pw_pl mm j).isSome) i) = (pw_ob (fun j => (pw_pl mm j).isSome) (i + 1)) from by simp [pw_ob, h7, h17]]
        refine pw_lvp [1, 2, 0] rfl ?_
        exact ih (by omega)
      · show pw_V x m_X0_whoSit 0 Z 17 [(0, .ref 42), (1, .int (nI (pw_ob (fun j => (pw_pl mm j).isSome) i))), (2, .int (nI i))] [.int (-1), .int (nI s17)] mm
        have b17 := pw_b45 hok (show i < 6 by omega) h17
        refine pw_ic_eq (tgt := 26) (off := 9) (by decide +kernel) (by decide) (fun h => absurd h (pw_n1 (by omega))) (fun _ => ?_)
        refine pw_blk (pc' := 29) [.iload 1, .iconst 1, .iload 2, .ishl, .ior, .istore 1, .iinc 2 1] (by decide +kernel) ?_
        show pw_V x m_X0_whoSit 0 Z 29 [(2, .int ((nI i) + (nI 1))), (1, .int ((nI (pw_ob (fun j => (pw_pl mm j).isSome) i)) ||| ((nI 1) <<< ((nI i) &&& 31)))), (0, .ref 42)] [] mm
        rw [show (nI i) + (nI 1) = nI (i + 1) from nI_add _ _]
        rw [show (nI 1) <<< ((nI i) &&& 31) = nI (2 ^ i) from pw_shl1 (by omega)]
        rw [show (nI (pw_ob (fun j => (pw_pl mm j).isSome) i)) ||| (nI (2 ^ i)) = nI ((pw_ob (fun j => (pw_pl mm j).isSome) i) ||| (2 ^ i)) from fa_or _ _]
        refine pw_goto (tgt := 4) (off := -25) (by decide +kernel) (by decide) ?_
        rw [show ((pw_ob (fun j => (pw_pl mm j).isSome) i) ||| (2 ^ i)) = (pw_ob (fun j => (pw_pl mm j).isSome) (i + 1)) from by simp [pw_ob, h7, h17]]
        refine pw_lvp [2, 1, 0] rfl ?_
        exact ih (by omega)
  show pw_V x m_X0_whoSit 0 Z 0 [(0, .ref 42)] [] mm
  refine pw_blk (pc' := 4) [.iconst 0, .istore 1, .iconst 0, .istore 2] (by decide +kernel) ?_
  show pw_V x m_X0_whoSit 0 Z 4 [(2, .int (nI 0)), (1, .int (nI 0)), (0, .ref 42)] [] mm
  refine pw_lvp [2, 1, 0] rfl ?_
  exact loop 0 (by omega)
