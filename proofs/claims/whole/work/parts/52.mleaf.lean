theorem pw_mplb {A : pw_m} (h : pw_ok A) {i : Nat} (hi : i < 6) {a : Nat} (ha : pw_pl A i = some a) : a < 8 := by have h1 := pw_b45 h hi ha; have h2 := pw_bn h; omega
theorem pw_mpon {A : pw_m} (h : pw_ok A) {a : Nat} (ha : pw_pon A = some a) : a < 8 := by have h1 := pw_pon_lt ha; have h2 := pw_bn h; omega

set_option maxHeartbeats 4000000 in
set_option maxRecDepth 100000 in
theorem c_mIn (v a b : Int32) (mm : pw_m) : pw_Ct 0 yX8_in m_X8_in [.int v, .int a, .int b] mm (fun r m' => r = some (.int (pw_b (pw_in v a b))) ∧ m' = mm) := by
  refine pw_ct (by decide +kernel) rfl (Nat.le_of_ble_eq_true rfl) (fun x => ?_)
  generalize hZ : pw_Z x _ = Z
  show pw_V x m_X8_in 0 Z 0 [(0, .int v), (1, .int a), (2, .int b)] [] mm
  refine pw_blk (pc' := 2) [.iload 0, .iload 1] (by decide +kernel) ?_
  show pw_V x m_X8_in 0 Z 2 [(0, .int v), (1, .int a), (2, .int b)] [.int a, .int v] mm
  refine pw_ic_lt (tgt := 14) (off := 12) (by decide +kernel) (by decide) (fun h2 => ?_) (fun h2 => ?_)
  · refine pw_blk (pc' := 15) [.iconst 0] (by decide +kernel) ?_
    show pw_V x m_X8_in 0 Z 15 [(0, .int v), (1, .int a), (2, .int b)] [.int (nI 0)] mm
    rw [← hZ]
    refine pw_rz (by decide +kernel) (Or.inl rfl) ?_
    refine ⟨?_, rfl⟩
    simp [pw_in, h2]
    try rfl
  · refine pw_blk (pc' := 7) [.iload 0, .iload 2] (by decide +kernel) ?_
    show pw_V x m_X8_in 0 Z 7 [(0, .int v), (1, .int a), (2, .int b)] [.int b, .int v] mm
    refine pw_ic_gt (tgt := 14) (off := 7) (by decide +kernel) (by decide) (fun h7 => ?_) (fun h7 => ?_)
    · refine pw_blk (pc' := 15) [.iconst 0] (by decide +kernel) ?_
      show pw_V x m_X8_in 0 Z 15 [(0, .int v), (1, .int a), (2, .int b)] [.int (nI 0)] mm
      rw [← hZ]
      refine pw_rz (by decide +kernel) (Or.inl rfl) ?_
      refine ⟨?_, rfl⟩
      simp [pw_in, h2, h7]
      try rfl
    · refine pw_blk (pc' := 11) [.iconst 1] (by decide +kernel) ?_
      show pw_V x m_X8_in 0 Z 11 [(0, .int v), (1, .int a), (2, .int b)] [.int (nI 1)] mm
      refine pw_goto (tgt := 15) (off := 4) (by decide +kernel) (by decide) ?_
      rw [← hZ]
      refine pw_rz (by decide +kernel) (Or.inr rfl) ?_
      refine ⟨?_, rfl⟩
      simp [pw_in, h2, h7]
      try rfl

theorem c_in0 (v : Int32) (N : Nat) (mm : pw_m) (h : N < 2 ^ 31 - 1) : pw_Ct 0 yX8_in m_X8_in [.int v, .int (nI 0), .int (nI N)] mm (fun r m' => r = some (.int (pw_b (pw_inr v (N + 1)))) ∧ m' = mm) := by
  have q := c_mIn v (nI 0) (nI N) mm
  rw [pw_in0 (by omega)] at q
  exact q
theorem c_in1 (v : Int32) (N : Nat) (mm : pw_m) (h : N < 2 ^ 31) : pw_Ct 0 yX8_in m_X8_in [.int v, .int (nI 0), .int (nI N - nI 1)] mm (fun r m' => r = some (.int (pw_b (pw_inr v N))) ∧ m' = mm) := by
  have q := c_mIn v (nI 0) (nI N - nI 1) mm
  rw [pw_in1 (by omega)] at q
  exact q

set_option maxHeartbeats 4000000 in
set_option maxRecDepth 100000 in
theorem c_mhas (b a : Int32) (mm : pw_m) : pw_Ct 0 yX8_has m_X8_has [.int b, .int a] mm (fun r m' => r = some (.int (pw_b (pw_ht b a))) ∧ m' = mm) := by
  refine pw_ct (by decide +kernel) rfl (Nat.le_of_ble_eq_true rfl) (fun x => ?_)
  generalize hZ : pw_Z x _ = Z
  show pw_V x m_X8_has 0 Z 0 [(0, .int b), (1, .int a)] [] mm
  refine pw_blk (pc' := 6) [.iload 0, .iload 1, .ishr, .iconst 1, .iand, .iconst 1] (by decide +kernel) ?_
  show pw_V x m_X8_has 0 Z 6 [(0, .int b), (1, .int a)] [.int (nI 1), .int ((b >>> (a &&& 31)) &&& (nI 1))] mm
  refine pw_ic_ne (tgt := 13) (off := 7) (by decide +kernel) (by decide) (fun h6 => ?_) (fun h6 => ?_)
  · refine pw_blk (pc' := 14) [.iconst 0] (by decide +kernel) ?_
    show pw_V x m_X8_has 0 Z 14 [(0, .int b), (1, .int a)] [.int (nI 0)] mm
    rw [← hZ]
    refine pw_rz (by decide +kernel) (Or.inl rfl) ?_
    refine ⟨?_, rfl⟩
    simp [pw_ht, h6]
    try rfl
  · refine pw_blk (pc' := 10) [.iconst 1] (by decide +kernel) ?_
    show pw_V x m_X8_has 0 Z 10 [(0, .int b), (1, .int a)] [.int (nI 1)] mm
    refine pw_goto (tgt := 14) (off := 4) (by decide +kernel) (by decide) ?_
    rw [← hZ]
    refine pw_rz (by decide +kernel) (Or.inr rfl) ?_
    refine ⟨?_, rfl⟩
    simp [pw_ht, h6]
    try rfl

theorem c_mhasN (b i : Nat) (mm : pw_m) (hb : b < 2 ^ 31) (hi : i < 31) : pw_Ct 0 yX8_has m_X8_has [.int (nI b), .int (nI i)] mm (fun r m' => r = some (.int (pw_b (b.testBit i))) ∧ m' = mm) := by
  have q := c_mhas (nI b) (nI i) mm
  rw [pw_ht_n hb hi] at q
  exact q

set_option maxHeartbeats 4000000 in
set_option maxRecDepth 100000 in
theorem c_bits (b : Nat) (mm : pw_m) (hb : b < 256) : pw_Ct 0 yX8_bits m_X8_bits [.int (nI b)] mm (fun r m' => r = some (.int (nI (pw_pc b))) ∧ m' = mm) := by
  refine pw_ct (by decide +kernel) rfl (Nat.le_of_ble_eq_true rfl) (fun x => ?_)
  generalize hZ : pw_Z x _ = Z
  show pw_V x m_X8_bits 0 Z 0 [(0, .int (nI b))] [] mm
  refine pw_blk (pc' := 4) [.iconst 0, .istore 1, .iload 0, .istore 2] (by decide +kernel) ?_
  show pw_V x m_X8_bits 0 Z 4 [(2, .int (nI b)), (1, .int (nI 0)), (0, .int (nI b))] [] mm
  refine pw_lvp [2, 1, 0] rfl ?_
  suffices lo : ∀ fx rx cx : Nat, rx ≤ fx → rx < 256 → cx + pw_pc rx = pw_pc b → pw_V x m_X8_bits 0 Z 4 [(0, .int (nI b)), (1, .int (nI cx)), (2, .int (nI rx))] [] mm from lo b b 0 (Nat.le_refl _) hb (Nat.zero_add _)
  intro fx
  induction fx with
  | zero =>
    intro rx cx h1 h2 h3
    have h0 : rx = 0 := by omega
    subst h0
    have bc := pw_pc_le b
    refine pw_blk (pc' := 5) [.iload 2] (by decide +kernel) ?_
    show pw_V x m_X8_bits 0 Z 5 [(0, .int (nI b)), (1, .int (nI cx)), (2, .int (nI 0))] [.int (nI 0)] mm
    refine pw_iz_le (tgt := 20) (off := 15) (by omega) (by decide +kernel) (by decide) (fun _ => ?_) (fun h => by omega)
    refine pw_blk (pc' := 21) [.iload 1] (by decide +kernel) ?_
    show pw_V x m_X8_bits 0 Z 21 [(0, .int (nI b)), (1, .int (nI cx)), (2, .int (nI 0))] [.int (nI cx)] mm
    rw [← hZ]
    refine pw_ri (by decide +kernel) ?_
    have e0 := pw_pc_0
    rw [e0] at h3
    exact ⟨by rw [show cx = pw_pc b from by omega], rfl⟩
  | succ fx ih =>
    intro rx cx h1 h2 h3
    have bc := pw_pc_le b
    refine pw_blk (pc' := 5) [.iload 2] (by decide +kernel) ?_
    show pw_V x m_X8_bits 0 Z 5 [(0, .int (nI b)), (1, .int (nI cx)), (2, .int (nI rx))] [.int (nI rx)] mm
    refine pw_iz_le (tgt := 20) (off := 15) (by omega) (by decide +kernel) (by decide) (fun h5 => ?_) (fun h5 => ?_)
    · refine pw_blk (pc' := 21) [.iload 1] (by decide +kernel) ?_
      show pw_V x m_X8_bits 0 Z 21 [(0, .int (nI b)), (1, .int (nI cx)), (2, .int (nI rx))] [.int (nI cx)] mm
      rw [← hZ]
      refine pw_ri (by decide +kernel) ?_
      have e0 := pw_pc_0
      subst h5
      rw [e0] at h3
      exact ⟨by rw [show cx = pw_pc b from by omega], rfl⟩
    · refine pw_blk (pc' := 14) [.iinc 1 1, .iload 2, .iload 2, .iconst 1] (by decide +kernel) ?_
      show pw_V x m_X8_bits 0 Z 14 [(1, .int ((nI cx) + (nI 1))), (0, .int (nI b)), (2, .int (nI rx))] [.int (nI 1), .int (nI rx), .int (nI rx)] mm
      rw [show (nI cx) + (nI 1) = nI (cx + 1) from nI_add _ _]
      refine pw_blk (pc' := 15) [.isub] (by decide +kernel) ?_
      show pw_V x m_X8_bits 0 Z 15 [(1, .int (nI (cx + 1))), (0, .int (nI b)), (2, .int (nI rx))] [.int (nI rx - nI 1), .int (nI rx)] mm
      rw [pk_sub (show 1 ≤ rx by omega)]
      refine pw_blk (pc' := 17) [.iand, .istore 2] (by decide +kernel) ?_
      show pw_V x m_X8_bits 0 Z 17 [(2, .int ((nI rx) &&& (nI (rx - 1)))), (1, .int (nI (cx + 1))), (0, .int (nI b))] [] mm
      rw [show (nI rx) &&& (nI (rx - 1)) = nI (rx &&& (rx - 1)) from fa_and _ _]
      refine pw_goto (tgt := 4) (off := -13) (by decide +kernel) (by decide) ?_
      have ha := pw_pc_and rx h2 h5
      refine pw_lvp [2, 1, 0] rfl ?_
      exact ih (rx &&& (rx - 1)) (cx + 1) (by omega) (by omega) (by omega)

set_option maxHeartbeats 4000000 in
set_option maxRecDepth 100000 in
theorem c_misSeat {A : pw_m} (mm : pw_m) (hv : MV A mm) (hok : pw_ok A) (s : Int32) : pw_Ct 1 yX8_isSeat m_X8_isSeat [.ref 26, .int s] mm (fun r m' => r = some (.int (pw_b (pw_inr s (pw_n A)))) ∧ m' = mm) := by
  refine pw_ct (by decide +kernel) rfl (Nat.le_of_ble_eq_true rfl) (fun x => ?_)
  generalize hZ : pw_Z x _ = Z
  have bn := pw_bn hok
  have bk := pw_bk hok
  show pw_V x m_X8_isSeat 1 Z 0 [(0, .ref 26), (1, .int s)] [] mm
  refine pw_blk (pc' := 8) [.iload 1, .iconst 0, .aload 0, .getfield 800, .iconst 1, .isub] (by decide +kernel) ?_
  show pw_V x m_X8_isSeat 1 Z 8 [(0, .ref 26), (1, .int s)] [.int ((mm 26 0) - (nI 1)), .int (nI 0), .int s] mm
  rw [show mm 26 0 = nI (pw_n A) from mv_n hv hok]
  refine pw_cS (vs := [.int s, .int (nI 0), .int ((nI (pw_n A)) - (nI 1))]) (rest := []) k_X8_in (c_in1 s (pw_n A) mm (by first | omega | exact pw_g_lt)) l_8_78 rfl (by omega) (Nat.le_of_ble_eq_true rfl) (by decide +kernel) ?_
  rintro _ m1 ⟨rfl, e1⟩
  rw [e1]
  clear e1 m1
  show pw_V x m_X8_isSeat 1 Z 11 [(0, .ref 26), (1, .int s)] [.int (pw_b (pw_inr s (pw_n A)))] mm
  rw [← hZ]
  refine pw_rz (by decide +kernel) (pw_b01 _) ?_
  exact ⟨rfl, rfl⟩

set_option maxHeartbeats 4000000 in
set_option maxRecDepth 100000 in
theorem c_misKnight {A : pw_m} (mm : pw_m) (hv : MV A mm) (hok : pw_ok A) (s : Int32) : pw_Ct 1 yX8_isKnight m_X8_isKnight [.ref 26, .int s] mm (fun r m' => r = some (.int (pw_b (pw_inr s (pw_k A)))) ∧ m' = mm) := by
  refine pw_ct (by decide +kernel) rfl (Nat.le_of_ble_eq_true rfl) (fun x => ?_)
  generalize hZ : pw_Z x _ = Z
  have bn := pw_bn hok
  have bk := pw_bk hok
  show pw_V x m_X8_isKnight 1 Z 0 [(0, .ref 26), (1, .int s)] [] mm
  refine pw_blk (pc' := 8) [.iload 1, .iconst 0, .aload 0, .getfield 802, .iconst 1, .isub] (by decide +kernel) ?_
  show pw_V x m_X8_isKnight 1 Z 8 [(0, .ref 26), (1, .int s)] [.int ((mm 26 2) - (nI 1)), .int (nI 0), .int s] mm
  rw [show mm 26 2 = nI (pw_k A) from mv_k hv hok]
  refine pw_cS (vs := [.int s, .int (nI 0), .int ((nI (pw_k A)) - (nI 1))]) (rest := []) k_X8_in (c_in1 s (pw_k A) mm (by first | omega | exact pw_g_lt)) l_8_78 rfl (by omega) (Nat.le_of_ble_eq_true rfl) (by decide +kernel) ?_
  rintro _ m1 ⟨rfl, e1⟩
  rw [e1]
  clear e1 m1
  show pw_V x m_X8_isKnight 1 Z 11 [(0, .ref 26), (1, .int s)] [.int (pw_b (pw_inr s (pw_k A)))] mm
  rw [← hZ]
  refine pw_rz (by decide +kernel) (pw_b01 _) ?_
  exact ⟨rfl, rfl⟩

set_option maxHeartbeats 4000000 in
set_option maxRecDepth 100000 in
theorem c_mThere {A : pw_m} (mm : pw_m) (hv : MV A mm) (hok : pw_ok A) (i : Nat) (hi : i < pw_k A) : pw_Ct 2 yX8_isThere m_X8_isThere [.ref 26, .int (nI i)] mm (fun r m' => r = some (.int (pw_b ((pw_g A 42 1).testBit i))) ∧ m' = mm) := by
  refine pw_ct (by decide +kernel) rfl (Nat.le_of_ble_eq_true rfl) (fun x => ?_)
  generalize hZ : pw_Z x _ = Z
  have bn := pw_bn hok
  have bk := pw_bk hok
  show pw_V x m_X8_isThere 2 Z 0 [(0, .ref 26), (1, .int (nI i))] [] mm
  refine pw_blk (pc' := 2) [.aload 0, .iload 1] (by decide +kernel) ?_
  show pw_V x m_X8_isThere 2 Z 2 [(0, .ref 26), (1, .int (nI i))] [.int (nI i), .ref 26] mm
  refine pw_cV (vs := [.int (nI i)]) (rest := []) k_X8_isKnight (c_misKnight mm hv hok (nI i)) l_8_82 rfl rfl rfl rfl (by omega) (Nat.le_of_ble_eq_true rfl) (by decide +kernel) ?_
  rintro _ m1 ⟨rfl, e1⟩
  rw [e1]
  clear e1 m1
  show pw_V x m_X8_isThere 2 Z 5 [(0, .ref 26), (1, .int (nI i))] [.int (pw_b (pw_inr (nI i) (pw_k A)))] mm
  refine pw_ib_eq (tgt := 25) (off := 20) (by decide +kernel) (by decide) (fun h5 => ?_) (fun h5 => ?_)
  · rw [pw_inr_nI (by omega) (by omega)] at h5; simp [hi] at h5
  · refine pw_blk (pc' := 15) [.aload 0, .getfield 808, .iconst 1, .iaload, .iload 1] (by decide +kernel) ?_
    refine ⟨1, rfl, by omega, ?_⟩
    show pw_V x m_X8_isThere 2 Z 15 [(0, .ref 26), (1, .int (nI i))] [.int (nI i), .int (mm 30 1)] mm
    rw [show mm 30 1 = nI (pw_g A 42 1) from mv_t hv hok]
    refine pw_cS (vs := [.int (nI (pw_g A 42 1)), .int (nI i)]) (rest := []) k_X8_has (c_mhasN (pw_g A 42 1) i mm (by first | omega | exact pw_g_lt) (by omega)) l_8_86 rfl (by omega) (Nat.le_of_ble_eq_true rfl) (by decide +kernel) ?_
    rintro _ m1 ⟨rfl, e1⟩
    rw [e1]
    clear e1 m1
    show pw_V x m_X8_isThere 2 Z 18 [(0, .ref 26), (1, .int (nI i))] [.int (pw_b (((pw_g A 42 1)).testBit i))] mm
    refine pw_ib_eq (tgt := 25) (off := 7) (by decide +kernel) (by decide) (fun h18 => ?_) (fun h18 => ?_)
    · refine pw_blk (pc' := 26) [.iconst 0] (by decide +kernel) ?_
      show pw_V x m_X8_isThere 2 Z 26 [(0, .ref 26), (1, .int (nI i))] [.int (nI 0)] mm
      rw [← hZ]
      refine pw_rz (by decide +kernel) (Or.inl rfl) ?_
      refine ⟨?_, rfl⟩
      rw [h18]
      rfl
    · refine pw_blk (pc' := 22) [.iconst 1] (by decide +kernel) ?_
      show pw_V x m_X8_isThere 2 Z 22 [(0, .ref 26), (1, .int (nI i))] [.int (nI 1)] mm
      refine pw_goto (tgt := 26) (off := 4) (by decide +kernel) (by decide) ?_
      rw [← hZ]
      refine pw_rz (by decide +kernel) (Or.inr rfl) ?_
      refine ⟨?_, rfl⟩
      rw [h18]
      rfl

set_option maxHeartbeats 4000000 in
set_option maxRecDepth 100000 in
theorem c_mfitsBy {A : pw_m} (mm : pw_m) (hv : MV A mm) (hok : pw_ok A) (k rn s : Nat) (hk : k < 6) (hs : s < 8) (hr : rn < 2 ^ 31) : pw_Ct 0 yX8_fitsBy m_X8_fitsBy [.ref 26, .int (nI k), .int (nI s), .int (nI rn)] mm (fun r m' => r = some (.int (pw_b (pw_fit A k rn s))) ∧ m' = mm) := by
  refine pw_ct (by decide +kernel) rfl (Nat.le_of_ble_eq_true rfl) (fun x => ?_)
  generalize hZ : pw_Z x _ = Z
  have bn := pw_bn hok
  have bk := pw_bk hok
  show pw_V x m_X8_fitsBy 0 Z 0 [(0, .ref 26), (1, .int (nI k)), (2, .int (nI s)), (3, .int (nI rn))] [] mm
  refine pw_blk (pc' := 24) [.aload 0, .getfield 801, .iconst 2, .iload 2, .imul, .iaload, .istore 4, .aload 0, .getfield 801, .iconst 2, .iload 2, .imul, .iconst 1, .iadd, .iaload, .istore 5, .iload 4] (by decide +kernel) ?_
  refine ⟨(2 * s), (show (nI 2) * (nI s) = nI (2 * s) from by rw [show (nI 2) * (nI s) = nI (2 * s) from pk_mul _ _]), by first | omega | exact pw_g_lt, ?_⟩
  refine ⟨((2 * s) + 1), (show ((nI 2) * (nI s)) + (nI 1) = nI ((2 * s) + 1) from by rw [show (nI 2) * (nI s) = nI (2 * s) from pk_mul _ _, show (nI (2 * s)) + (nI 1) = nI ((2 * s) + 1) from nI_add _ _]), by first | omega | exact pw_g_lt, ?_⟩
  show pw_V x m_X8_fitsBy 0 Z 24 [(5, .int (mm 27 ((2 * s) + 1))), (4, .int (mm 27 (2 * s))), (0, .ref 26), (1, .int (nI k)), (2, .int (nI s)), (3, .int (nI rn))] [.int (mm 27 (2 * s))] mm
  rw [show mm 27 ((2 * s) + 1) = nI (pw_g A 6 s) from mv_nn hv hok (s := s) (by omega)]
  rw [show mm 27 (2 * s) = nI (pw_g A 5 s) from mv_nk hv hok (s := s) (by omega)]
  refine pw_iz_eq (tgt := 45) (off := 21) (by first | omega | exact pw_g_lt) (by decide +kernel) (by decide) (fun h24 => ?_) (fun h24 => ?_)
  · refine pw_blk (pc' := 46) [.iconst 1] (by decide +kernel) ?_
    show pw_V x m_X8_fitsBy 0 Z 46 [(5, .int (nI (pw_g A 6 s))), (4, .int (nI (pw_g A 5 s))), (0, .ref 26), (1, .int (nI k)), (2, .int (nI s)), (3, .int (nI rn))] [.int (nI 1)] mm
    rw [← hZ]
    refine pw_rz (by decide +kernel) (Or.inr rfl) ?_
    refine ⟨?_, rfl⟩
    have e : pw_fit A k rn s = true := by
      have b5 := pw_b5 hok hs
      unfold pw_fit pw_fitB
      repeat' split
      all_goals first | rfl | (exfalso; omega) | exact decide_eq_true (by omega) | exact decide_eq_false (by omega)
    rw [e]
    rfl
  · refine pw_blk (pc' := 30) [.iload 4, .iconst 4] (by decide +kernel) ?_
    show pw_V x m_X8_fitsBy 0 Z 30 [(5, .int (nI (pw_g A 6 s))), (4, .int (nI (pw_g A 5 s))), (0, .ref 26), (1, .int (nI k)), (2, .int (nI s)), (3, .int (nI rn))] [.int (nI 4), .int (nI (pw_g A 5 s))] mm
    refine pw_in_eq (tgt := 47) (off := 17) (by first | omega | exact pw_g_lt) (by first | omega | exact pw_g_lt) (by decide +kernel) (by decide) (fun h30 => ?_) (fun h30 => ?_)
    · refine pw_blk (pc' := 50) [.iload 4, .iconst 1] (by decide +kernel) ?_
      show pw_V x m_X8_fitsBy 0 Z 50 [(5, .int (nI (pw_g A 6 s))), (4, .int (nI (pw_g A 5 s))), (0, .ref 26), (1, .int (nI k)), (2, .int (nI s)), (3, .int (nI rn))] [.int (nI 1), .int (nI (pw_g A 5 s))] mm
      refine pw_in_ne (tgt := 67) (off := 17) (by first | omega | exact pw_g_lt) (by first | omega | exact pw_g_lt) (by decide +kernel) (by decide) (fun h50 => ?_) (fun h50 => ?_)
      · refine pw_blk (pc' := 70) [.iload 4, .iconst 2] (by decide +kernel) ?_
        show pw_V x m_X8_fitsBy 0 Z 70 [(5, .int (nI (pw_g A 6 s))), (4, .int (nI (pw_g A 5 s))), (0, .ref 26), (1, .int (nI k)), (2, .int (nI s)), (3, .int (nI rn))] [.int (nI 2), .int (nI (pw_g A 5 s))] mm
        refine pw_in_ne (tgt := 87) (off := 17) (by first | omega | exact pw_g_lt) (by first | omega | exact pw_g_lt) (by decide +kernel) (by decide) (fun h70 => ?_) (fun h70 => ?_)
        · refine pw_blk (pc' := 90) [.iload 4, .iconst 3] (by decide +kernel) ?_
          show pw_V x m_X8_fitsBy 0 Z 90 [(5, .int (nI (pw_g A 6 s))), (4, .int (nI (pw_g A 5 s))), (0, .ref 26), (1, .int (nI k)), (2, .int (nI s)), (3, .int (nI rn))] [.int (nI 3), .int (nI (pw_g A 5 s))] mm
          refine pw_in_ne (tgt := 112) (off := 22) (by first | omega | exact pw_g_lt) (by first | omega | exact pw_g_lt) (by decide +kernel) (by decide) (fun h90 => ?_) (fun h90 => ?_)
          · refine pw_blk (pc' := 113) [.iconst 0] (by decide +kernel) ?_
            show pw_V x m_X8_fitsBy 0 Z 113 [(5, .int (nI (pw_g A 6 s))), (4, .int (nI (pw_g A 5 s))), (0, .ref 26), (1, .int (nI k)), (2, .int (nI s)), (3, .int (nI rn))] [.int (nI 0)] mm
            rw [← hZ]
            refine pw_rz (by decide +kernel) (Or.inl rfl) ?_
            refine ⟨?_, rfl⟩
            have e : pw_fit A k rn s = false := by
              have b5 := pw_b5 hok hs
              unfold pw_fit pw_fitB
              repeat' split
              all_goals first | rfl | (exfalso; omega) | exact decide_eq_true (by omega) | exact decide_eq_false (by omega)
            rw [e]
            rfl
          · refine pw_blk (pc' := 105) [.aload 0, .getfield 803, .iconst 3, .iload 1, .imul, .iconst 2, .iadd, .iaload, .iload 5] (by decide +kernel) ?_
            refine ⟨((3 * k) + 2), (show ((nI 3) * (nI k)) + (nI 2) = nI ((3 * k) + 2) from by rw [show (nI 3) * (nI k) = nI (3 * k) from pk_mul _ _, show (nI (3 * k)) + (nI 2) = nI ((3 * k) + 2) from nI_add _ _]), by first | omega | exact pw_g_lt, ?_⟩
            show pw_V x m_X8_fitsBy 0 Z 105 [(5, .int (nI (pw_g A 6 s))), (4, .int (nI (pw_g A 5 s))), (0, .ref 26), (1, .int (nI k)), (2, .int (nI s)), (3, .int (nI rn))] [.int (nI (pw_g A 6 s)), .int (mm 28 ((3 * k) + 2))] mm
            rw [show mm 28 ((3 * k) + 2) = nI (pw_g A 9 k) from mv_kh hv hok (i := k) (by omega)]
            refine pw_in_ne (tgt := 112) (off := 7) (by first | omega | exact pw_g_lt) (by first | omega | exact pw_g_lt) (by decide +kernel) (by decide) (fun h105 => ?_) (fun h105 => ?_)
            · refine pw_blk (pc' := 113) [.iconst 0] (by decide +kernel) ?_
              show pw_V x m_X8_fitsBy 0 Z 113 [(5, .int (nI (pw_g A 6 s))), (4, .int (nI (pw_g A 5 s))), (0, .ref 26), (1, .int (nI k)), (2, .int (nI s)), (3, .int (nI rn))] [.int (nI 0)] mm
              rw [← hZ]
              refine pw_rz (by decide +kernel) (Or.inl rfl) ?_
              refine ⟨?_, rfl⟩
              have e : pw_fit A k rn s = false := by
                have b5 := pw_b5 hok hs
                unfold pw_fit pw_fitB
                repeat' split
                all_goals first | rfl | (exfalso; omega) | exact decide_eq_true (by omega) | exact decide_eq_false (by omega)
              rw [e]
              rfl
            · refine pw_blk (pc' := 109) [.iconst 1] (by decide +kernel) ?_
              show pw_V x m_X8_fitsBy 0 Z 109 [(5, .int (nI (pw_g A 6 s))), (4, .int (nI (pw_g A 5 s))), (0, .ref 26), (1, .int (nI k)), (2, .int (nI s)), (3, .int (nI rn))] [.int (nI 1)] mm
              refine pw_goto (tgt := 113) (off := 4) (by decide +kernel) (by decide) ?_
              rw [← hZ]
              refine pw_rz (by decide +kernel) (Or.inr rfl) ?_
              refine ⟨?_, rfl⟩
              have e : pw_fit A k rn s = true := by
                have b5 := pw_b5 hok hs
                unfold pw_fit pw_fitB
                repeat' split
                all_goals first | rfl | (exfalso; omega) | exact decide_eq_true (by omega) | exact decide_eq_false (by omega)
              rw [e]
              rfl
        · refine pw_blk (pc' := 76) [.iload 3, .iload 5] (by decide +kernel) ?_
          show pw_V x m_X8_fitsBy 0 Z 76 [(5, .int (nI (pw_g A 6 s))), (4, .int (nI (pw_g A 5 s))), (0, .ref 26), (1, .int (nI k)), (2, .int (nI s)), (3, .int (nI rn))] [.int (nI (pw_g A 6 s)), .int (nI rn)] mm
          refine pw_in_gt (tgt := 83) (off := 7) (by first | omega | exact pw_g_lt) (by first | omega | exact pw_g_lt) (by decide +kernel) (by decide) (fun h76 => ?_) (fun h76 => ?_)
          · refine pw_blk (pc' := 84) [.iconst 0] (by decide +kernel) ?_
            show pw_V x m_X8_fitsBy 0 Z 84 [(5, .int (nI (pw_g A 6 s))), (4, .int (nI (pw_g A 5 s))), (0, .ref 26), (1, .int (nI k)), (2, .int (nI s)), (3, .int (nI rn))] [.int (nI 0)] mm
            refine pw_goto (tgt := 113) (off := 29) (by decide +kernel) (by decide) ?_
            rw [← hZ]
            refine pw_rz (by decide +kernel) (Or.inl rfl) ?_
            refine ⟨?_, rfl⟩
            have e : pw_fit A k rn s = false := by
              have b5 := pw_b5 hok hs
              unfold pw_fit pw_fitB
              repeat' split
              all_goals first | rfl | (exfalso; omega) | exact decide_eq_true (by omega) | exact decide_eq_false (by omega)
            rw [e]
            rfl
          · refine pw_blk (pc' := 80) [.iconst 1] (by decide +kernel) ?_
            show pw_V x m_X8_fitsBy 0 Z 80 [(5, .int (nI (pw_g A 6 s))), (4, .int (nI (pw_g A 5 s))), (0, .ref 26), (1, .int (nI k)), (2, .int (nI s)), (3, .int (nI rn))] [.int (nI 1)] mm
            refine pw_goto (tgt := 113) (off := 33) (by decide +kernel) (by decide) ?_
            rw [← hZ]
            refine pw_rz (by decide +kernel) (Or.inr rfl) ?_
            refine ⟨?_, rfl⟩
            have e : pw_fit A k rn s = true := by
              have b5 := pw_b5 hok hs
              unfold pw_fit pw_fitB
              repeat' split
              all_goals first | rfl | (exfalso; omega) | exact decide_eq_true (by omega) | exact decide_eq_false (by omega)
            rw [e]
            rfl
      · refine pw_blk (pc' := 56) [.iload 3, .iload 5] (by decide +kernel) ?_
        show pw_V x m_X8_fitsBy 0 Z 56 [(5, .int (nI (pw_g A 6 s))), (4, .int (nI (pw_g A 5 s))), (0, .ref 26), (1, .int (nI k)), (2, .int (nI s)), (3, .int (nI rn))] [.int (nI (pw_g A 6 s)), .int (nI rn)] mm
        refine pw_in_lt (tgt := 63) (off := 7) (by first | omega | exact pw_g_lt) (by first | omega | exact pw_g_lt) (by decide +kernel) (by decide) (fun h56 => ?_) (fun h56 => ?_)
        · refine pw_blk (pc' := 64) [.iconst 0] (by decide +kernel) ?_
          show pw_V x m_X8_fitsBy 0 Z 64 [(5, .int (nI (pw_g A 6 s))), (4, .int (nI (pw_g A 5 s))), (0, .ref 26), (1, .int (nI k)), (2, .int (nI s)), (3, .int (nI rn))] [.int (nI 0)] mm
          refine pw_goto (tgt := 113) (off := 49) (by decide +kernel) (by decide) ?_
          rw [← hZ]
          refine pw_rz (by decide +kernel) (Or.inl rfl) ?_
          refine ⟨?_, rfl⟩
          have e : pw_fit A k rn s = false := by
            have b5 := pw_b5 hok hs
            unfold pw_fit pw_fitB
            repeat' split
            all_goals first | rfl | (exfalso; omega) | exact decide_eq_true (by omega) | exact decide_eq_false (by omega)
          rw [e]
          rfl
        · refine pw_blk (pc' := 60) [.iconst 1] (by decide +kernel) ?_
          show pw_V x m_X8_fitsBy 0 Z 60 [(5, .int (nI (pw_g A 6 s))), (4, .int (nI (pw_g A 5 s))), (0, .ref 26), (1, .int (nI k)), (2, .int (nI s)), (3, .int (nI rn))] [.int (nI 1)] mm
          refine pw_goto (tgt := 113) (off := 53) (by decide +kernel) (by decide) ?_
          rw [← hZ]
          refine pw_rz (by decide +kernel) (Or.inr rfl) ?_
          refine ⟨?_, rfl⟩
          have e : pw_fit A k rn s = true := by
            have b5 := pw_b5 hok hs
            unfold pw_fit pw_fitB
            repeat' split
            all_goals first | rfl | (exfalso; omega) | exact decide_eq_true (by omega) | exact decide_eq_false (by omega)
          rw [e]
          rfl
    · refine pw_blk (pc' := 42) [.aload 0, .getfield 803, .iconst 3, .iload 1, .imul, .iaload, .iconst 2] (by decide +kernel) ?_
      refine ⟨(3 * k), (show (nI 3) * (nI k) = nI (3 * k) from by rw [show (nI 3) * (nI k) = nI (3 * k) from pk_mul _ _]), by first | omega | exact pw_g_lt, ?_⟩
      show pw_V x m_X8_fitsBy 0 Z 42 [(5, .int (nI (pw_g A 6 s))), (4, .int (nI (pw_g A 5 s))), (0, .ref 26), (1, .int (nI k)), (2, .int (nI s)), (3, .int (nI rn))] [.int (nI 2), .int (mm 28 (3 * k))] mm
      rw [show mm 28 (3 * k) = nI (pw_g A 7 k) from mv_kk hv hok (i := k) (by omega)]
      refine pw_in_ne (tgt := 47) (off := 5) (by first | omega | exact pw_g_lt) (by first | omega | exact pw_g_lt) (by decide +kernel) (by decide) (fun h42 => ?_) (fun h42 => ?_)
      · refine pw_blk (pc' := 50) [.iload 4, .iconst 1] (by decide +kernel) ?_
        show pw_V x m_X8_fitsBy 0 Z 50 [(5, .int (nI (pw_g A 6 s))), (4, .int (nI (pw_g A 5 s))), (0, .ref 26), (1, .int (nI k)), (2, .int (nI s)), (3, .int (nI rn))] [.int (nI 1), .int (nI (pw_g A 5 s))] mm
        refine pw_in_ne (tgt := 67) (off := 17) (by first | omega | exact pw_g_lt) (by first | omega | exact pw_g_lt) (by decide +kernel) (by decide) (fun h50 => ?_) (fun h50 => ?_)
        · refine pw_blk (pc' := 70) [.iload 4, .iconst 2] (by decide +kernel) ?_
          show pw_V x m_X8_fitsBy 0 Z 70 [(5, .int (nI (pw_g A 6 s))), (4, .int (nI (pw_g A 5 s))), (0, .ref 26), (1, .int (nI k)), (2, .int (nI s)), (3, .int (nI rn))] [.int (nI 2), .int (nI (pw_g A 5 s))] mm
          refine pw_in_ne (tgt := 87) (off := 17) (by first | omega | exact pw_g_lt) (by first | omega | exact pw_g_lt) (by decide +kernel) (by decide) (fun h70 => ?_) (fun h70 => ?_)
          · refine pw_blk (pc' := 90) [.iload 4, .iconst 3] (by decide +kernel) ?_
            show pw_V x m_X8_fitsBy 0 Z 90 [(5, .int (nI (pw_g A 6 s))), (4, .int (nI (pw_g A 5 s))), (0, .ref 26), (1, .int (nI k)), (2, .int (nI s)), (3, .int (nI rn))] [.int (nI 3), .int (nI (pw_g A 5 s))] mm
            refine pw_in_ne (tgt := 112) (off := 22) (by first | omega | exact pw_g_lt) (by first | omega | exact pw_g_lt) (by decide +kernel) (by decide) (fun h90 => ?_) (fun h90 => ?_)
            · refine pw_blk (pc' := 113) [.iconst 0] (by decide +kernel) ?_
              show pw_V x m_X8_fitsBy 0 Z 113 [(5, .int (nI (pw_g A 6 s))), (4, .int (nI (pw_g A 5 s))), (0, .ref 26), (1, .int (nI k)), (2, .int (nI s)), (3, .int (nI rn))] [.int (nI 0)] mm
              rw [← hZ]
              refine pw_rz (by decide +kernel) (Or.inl rfl) ?_
              refine ⟨?_, rfl⟩
              have e : pw_fit A k rn s = false := by
                have b5 := pw_b5 hok hs
                unfold pw_fit pw_fitB
                repeat' split
                all_goals first | rfl | (exfalso; omega) | exact decide_eq_true (by omega) | exact decide_eq_false (by omega)
              rw [e]
              rfl
            · refine pw_blk (pc' := 105) [.aload 0, .getfield 803, .iconst 3, .iload 1, .imul, .iconst 2, .iadd, .iaload, .iload 5] (by decide +kernel) ?_
              refine ⟨((3 * k) + 2), (show ((nI 3) * (nI k)) + (nI 2) = nI ((3 * k) + 2) from by rw [show (nI 3) * (nI k) = nI (3 * k) from pk_mul _ _, show (nI (3 * k)) + (nI 2) = nI ((3 * k) + 2) from nI_add _ _]), by first | omega | exact pw_g_lt, ?_⟩
              show pw_V x m_X8_fitsBy 0 Z 105 [(5, .int (nI (pw_g A 6 s))), (4, .int (nI (pw_g A 5 s))), (0, .ref 26), (1, .int (nI k)), (2, .int (nI s)), (3, .int (nI rn))] [.int (nI (pw_g A 6 s)), .int (mm 28 ((3 * k) + 2))] mm
              rw [show mm 28 ((3 * k) + 2) = nI (pw_g A 9 k) from mv_kh hv hok (i := k) (by omega)]
              refine pw_in_ne (tgt := 112) (off := 7) (by first | omega | exact pw_g_lt) (by first | omega | exact pw_g_lt) (by decide +kernel) (by decide) (fun h105 => ?_) (fun h105 => ?_)
              · refine pw_blk (pc' := 113) [.iconst 0] (by decide +kernel) ?_
                show pw_V x m_X8_fitsBy 0 Z 113 [(5, .int (nI (pw_g A 6 s))), (4, .int (nI (pw_g A 5 s))), (0, .ref 26), (1, .int (nI k)), (2, .int (nI s)), (3, .int (nI rn))] [.int (nI 0)] mm
                rw [← hZ]
                refine pw_rz (by decide +kernel) (Or.inl rfl) ?_
                refine ⟨?_, rfl⟩
                have e : pw_fit A k rn s = false := by
                  have b5 := pw_b5 hok hs
                  unfold pw_fit pw_fitB
                  repeat' split
                  all_goals first | rfl | (exfalso; omega) | exact decide_eq_true (by omega) | exact decide_eq_false (by omega)
                rw [e]
                rfl
              · refine pw_blk (pc' := 109) [.iconst 1] (by decide +kernel) ?_
                show pw_V x m_X8_fitsBy 0 Z 109 [(5, .int (nI (pw_g A 6 s))), (4, .int (nI (pw_g A 5 s))), (0, .ref 26), (1, .int (nI k)), (2, .int (nI s)), (3, .int (nI rn))] [.int (nI 1)] mm
                refine pw_goto (tgt := 113) (off := 4) (by decide +kernel) (by decide) ?_
                rw [← hZ]
                refine pw_rz (by decide +kernel) (Or.inr rfl) ?_
                refine ⟨?_, rfl⟩
                have e : pw_fit A k rn s = true := by
                  have b5 := pw_b5 hok hs
                  unfold pw_fit pw_fitB
                  repeat' split
                  all_goals first | rfl | (exfalso; omega) | exact decide_eq_true (by omega) | exact decide_eq_false (by omega)
                rw [e]
                rfl
          · refine pw_blk (pc' := 76) [.iload 3, .iload 5] (by decide +kernel) ?_
            show pw_V x m_X8_fitsBy 0 Z 76 [(5, .int (nI (pw_g A 6 s))), (4, .int (nI (pw_g A 5 s))), (0, .ref 26), (1, .int (nI k)), (2, .int (nI s)), (3, .int (nI rn))] [.int (nI (pw_g A 6 s)), .int (nI rn)] mm
            refine pw_in_gt (tgt := 83) (off := 7) (by first | omega | exact pw_g_lt) (by first | omega | exact pw_g_lt) (by decide +kernel) (by decide) (fun h76 => ?_) (fun h76 => ?_)
            · refine pw_blk (pc' := 84) [.iconst 0] (by decide +kernel) ?_
              show pw_V x m_X8_fitsBy 0 Z 84 [(5, .int (nI (pw_g A 6 s))), (4, .int (nI (pw_g A 5 s))), (0, .ref 26), (1, .int (nI k)), (2, .int (nI s)), (3, .int (nI rn))] [.int (nI 0)] mm
              refine pw_goto (tgt := 113) (off := 29) (by decide +kernel) (by decide) ?_
              rw [← hZ]
              refine pw_rz (by decide +kernel) (Or.inl rfl) ?_
              refine ⟨?_, rfl⟩
              have e : pw_fit A k rn s = false := by
                have b5 := pw_b5 hok hs
                unfold pw_fit pw_fitB
                repeat' split
                all_goals first | rfl | (exfalso; omega) | exact decide_eq_true (by omega) | exact decide_eq_false (by omega)
              rw [e]
              rfl
            · refine pw_blk (pc' := 80) [.iconst 1] (by decide +kernel) ?_
              show pw_V x m_X8_fitsBy 0 Z 80 [(5, .int (nI (pw_g A 6 s))), (4, .int (nI (pw_g A 5 s))), (0, .ref 26), (1, .int (nI k)), (2, .int (nI s)), (3, .int (nI rn))] [.int (nI 1)] mm
              refine pw_goto (tgt := 113) (off := 33) (by decide +kernel) (by decide) ?_
              rw [← hZ]
              refine pw_rz (by decide +kernel) (Or.inr rfl) ?_
              refine ⟨?_, rfl⟩
              have e : pw_fit A k rn s = true := by
                have b5 := pw_b5 hok hs
                unfold pw_fit pw_fitB
                repeat' split
                all_goals first | rfl | (exfalso; omega) | exact decide_eq_true (by omega) | exact decide_eq_false (by omega)
              rw [e]
              rfl
        · refine pw_blk (pc' := 56) [.iload 3, .iload 5] (by decide +kernel) ?_
          show pw_V x m_X8_fitsBy 0 Z 56 [(5, .int (nI (pw_g A 6 s))), (4, .int (nI (pw_g A 5 s))), (0, .ref 26), (1, .int (nI k)), (2, .int (nI s)), (3, .int (nI rn))] [.int (nI (pw_g A 6 s)), .int (nI rn)] mm
          refine pw_in_lt (tgt := 63) (off := 7) (by first | omega | exact pw_g_lt) (by first | omega | exact pw_g_lt) (by decide +kernel) (by decide) (fun h56 => ?_) (fun h56 => ?_)
          · refine pw_blk (pc' := 64) [.iconst 0] (by decide +kernel) ?_
            show pw_V x m_X8_fitsBy 0 Z 64 [(5, .int (nI (pw_g A 6 s))), (4, .int (nI (pw_g A 5 s))), (0, .ref 26), (1, .int (nI k)), (2, .int (nI s)), (3, .int (nI rn))] [.int (nI 0)] mm
            refine pw_goto (tgt := 113) (off := 49) (by decide +kernel) (by decide) ?_
            rw [← hZ]
            refine pw_rz (by decide +kernel) (Or.inl rfl) ?_
            refine ⟨?_, rfl⟩
            have e : pw_fit A k rn s = false := by
              have b5 := pw_b5 hok hs
              unfold pw_fit pw_fitB
              repeat' split
              all_goals first | rfl | (exfalso; omega) | exact decide_eq_true (by omega) | exact decide_eq_false (by omega)
            rw [e]
            rfl
          · refine pw_blk (pc' := 60) [.iconst 1] (by decide +kernel) ?_
            show pw_V x m_X8_fitsBy 0 Z 60 [(5, .int (nI (pw_g A 6 s))), (4, .int (nI (pw_g A 5 s))), (0, .ref 26), (1, .int (nI k)), (2, .int (nI s)), (3, .int (nI rn))] [.int (nI 1)] mm
            refine pw_goto (tgt := 113) (off := 53) (by decide +kernel) (by decide) ?_
            rw [← hZ]
            refine pw_rz (by decide +kernel) (Or.inr rfl) ?_
            refine ⟨?_, rfl⟩
            have e : pw_fit A k rn s = true := by
              have b5 := pw_b5 hok hs
              unfold pw_fit pw_fitB
              repeat' split
              all_goals first | rfl | (exfalso; omega) | exact decide_eq_true (by omega) | exact decide_eq_false (by omega)
            rw [e]
            rfl
      · refine pw_blk (pc' := 46) [.iconst 1] (by decide +kernel) ?_
        show pw_V x m_X8_fitsBy 0 Z 46 [(5, .int (nI (pw_g A 6 s))), (4, .int (nI (pw_g A 5 s))), (0, .ref 26), (1, .int (nI k)), (2, .int (nI s)), (3, .int (nI rn))] [.int (nI 1)] mm
        rw [← hZ]
        refine pw_rz (by decide +kernel) (Or.inr rfl) ?_
        refine ⟨?_, rfl⟩
        have e : pw_fit A k rn s = true := by
          have b5 := pw_b5 hok hs
          unfold pw_fit pw_fitB
          repeat' split
          all_goals first | rfl | (exfalso; omega) | exact decide_eq_true (by omega) | exact decide_eq_false (by omega)
        rw [e]
        rfl

set_option maxHeartbeats 4000000 in
set_option maxRecDepth 100000 in
theorem c_mfits {A : pw_m} (mm : pw_m) (hv : MV A mm) (hok : pw_ok A) (k s : Nat) (hk : k < 6) (hs : s < 8) : pw_Ct 1 yX8_fits m_X8_fits [.ref 26, .int (nI k), .int (nI s)] mm (fun r m' => r = some (.int (pw_b (pw_fnow A k s))) ∧ m' = mm) := by
  refine pw_ct (by decide +kernel) rfl (Nat.le_of_ble_eq_true rfl) (fun x => ?_)
  generalize hZ : pw_Z x _ = Z
  have bn := pw_bn hok
  have bk := pw_bk hok
  show pw_V x m_X8_fits 1 Z 0 [(0, .ref 26), (1, .int (nI k)), (2, .int (nI s))] [] mm
  refine pw_blk (pc' := 11) [.aload 0, .iload 1, .iload 2, .aload 0, .getfield 808, .iconst 2, .iload 1, .iadd, .iaload] (by decide +kernel) ?_
  refine ⟨(2 + k), (show (nI 2) + (nI k) = nI (2 + k) from by rw [show (nI 2) + (nI k) = nI (2 + k) from nI_add _ _]), by first | omega | exact pw_g_lt, ?_⟩
  show pw_V x m_X8_fits 1 Z 11 [(0, .ref 26), (1, .int (nI k)), (2, .int (nI s))] [.int (mm 30 (2 + k)), .int (nI s), .int (nI k), .ref 26] mm
  rw [show mm 30 (2 + k) = nI (pw_g A 43 k) from mv_rn hv hok (i := k) (by omega)]
  refine pw_cV (vs := [.int (nI k), .int (nI s), .int (nI (pw_g A 43 k))]) (rest := []) k_X8_fitsBy (c_mfitsBy mm hv hok k (pw_g A 43 k) s (by omega) (by omega) (by first | omega | exact pw_g_lt)) l_8_186 rfl rfl rfl rfl (by omega) (Nat.le_of_ble_eq_true rfl) (by decide +kernel) ?_
  rintro _ m1 ⟨rfl, e1⟩
  rw [e1]
  clear e1 m1
  show pw_V x m_X8_fits 1 Z 14 [(0, .ref 26), (1, .int (nI k)), (2, .int (nI s))] [.int (pw_b (pw_fit A k (pw_g A 43 k) s))] mm
  rw [← hZ]
  refine pw_rz (by decide +kernel) (pw_b01 _) ?_
  exact ⟨rfl, rfl⟩

set_option maxHeartbeats 4000000 in
set_option maxRecDepth 100000 in
theorem c_mperil {A : pw_m} (mm : pw_m) (hv : MV A mm) (hok : pw_ok A) : pw_Ct 0 yX8_perilOn m_X8_perilOn [.ref 26] mm (fun r m' => r = some (.int (pw_o (pw_pon A))) ∧ m' = mm) := by
  refine pw_ct (by decide +kernel) rfl (Nat.le_of_ble_eq_true rfl) (fun x => ?_)
  generalize hZ : pw_Z x _ = Z
  have bn := pw_bn hok
  have bk := pw_bk hok
  have b48 := pw_b48 hok
  have b49 := pw_b49 hok
  have b420 := pw_b420 hok
  have bm := pw_mulb b49 b420
  show pw_V x m_X8_perilOn 0 Z 0 [(0, .ref 26)] [] mm
  refine pw_blk (pc' := 4) [.aload 0, .getfield 800] (by decide +kernel) ?_
  show pw_V x m_X8_perilOn 0 Z 4 [(0, .ref 26)] [.int (mm 26 0)] mm
  rw [show mm 26 0 = nI (pw_n A) from mv_n hv hok]
  refine pw_iz_ne (tgt := 11) (off := 7) (by omega) (by decide +kernel) (by decide) (fun h4 => ?_) (fun h4 => ?_)
  · refine pw_blk (pc' := 32) [.aload 0, .getfield 805, .aload 0, .getfield 806, .aload 0, .getfield 808, .iconst 0, .iaload, .imul, .iadd, .aload 0, .getfield 800, .irem] (by decide +kernel) ?_
    refine ⟨0, rfl, by omega, ?_⟩
    refine ⟨(show ¬ mm 26 0 = 0 from by rw [show mm 26 0 = nI (pw_n A) from mv_n hv hok]; exact (show ¬ nI (pw_n A) = 0 from nI_ne0 (by omega) (by omega))), ?_⟩
    show pw_V x m_X8_perilOn 0 Z 32 [(0, .ref 26)] [.int (((mm 26 5) + ((mm 26 6) * (mm 30 0))) - ((mm 26 5) + ((mm 26 6) * (mm 30 0))) / (mm 26 0) * (mm 26 0))] mm
    rw [show mm 26 5 = nI (pw_g A 4 8) from mv_pf hv hok]
    rw [show mm 26 6 = nI (pw_g A 4 9) from mv_ps hv hok]
    rw [show mm 30 0 = nI (pw_g A 42 0) from mv_d hv hok]
    rw [show (nI (pw_g A 4 9)) * (nI (pw_g A 42 0)) = nI ((pw_g A 4 9) * (pw_g A 42 0)) from pk_mul _ _]
    rw [show (nI (pw_g A 4 8)) + (nI ((pw_g A 4 9) * (pw_g A 42 0))) = nI ((pw_g A 4 8) + ((pw_g A 4 9) * (pw_g A 42 0))) from nI_add _ _]
    rw [show mm 26 0 = nI (pw_n A) from mv_n hv hok]
    rw [show (nI ((pw_g A 4 8) + ((pw_g A 4 9) * (pw_g A 42 0)))) - (nI ((pw_g A 4 8) + ((pw_g A 4 9) * (pw_g A 42 0)))) / (nI (pw_n A)) * (nI (pw_n A)) = nI (((pw_g A 4 8) + ((pw_g A 4 9) * (pw_g A 42 0))) % (pw_n A)) from pk_rem (by omega) (by omega) (by omega)]
    rw [← hZ]
    refine pw_ri (by decide +kernel) ?_
    refine ⟨?_, rfl⟩
    simp [pw_pon, pw_per, h4]
    try rfl
  · refine pw_blk (pc' := 8) [.iconst (-1)] (by decide +kernel) ?_
    show pw_V x m_X8_perilOn 0 Z 8 [(0, .ref 26)] [.int (-1)] mm
    refine pw_goto (tgt := 32) (off := 24) (by decide +kernel) (by decide) ?_
    rw [← hZ]
    refine pw_ri (by decide +kernel) ?_
    refine ⟨?_, rfl⟩
    simp [pw_pon, pw_per, h4]
    try rfl

set_option maxHeartbeats 4000000 in
set_option maxRecDepth 100000 in
theorem c_misWrong {A : pw_m} (mm : pw_m) (hv : MV A mm) (hok : pw_ok A) (i s : Nat) (hi : i < 6) (hs : s < 8) : pw_Ct 2 yX8_isWrong m_X8_isWrong [.ref 26, .int (nI i), .int (nI s)] mm (fun r m' => r = some (.int (pw_b (!pw_fnow A i s || pw_inp A i s))) ∧ m' = mm) := by
  refine pw_ct (by decide +kernel) rfl (Nat.le_of_ble_eq_true rfl) (fun x => ?_)
  generalize hZ : pw_Z x _ = Z
  have bn := pw_bn hok
  have bk := pw_bk hok
  show pw_V x m_X8_isWrong 2 Z 0 [(0, .ref 26), (1, .int (nI i)), (2, .int (nI s))] [] mm
  refine pw_blk (pc' := 3) [.aload 0, .iload 1, .iload 2] (by decide +kernel) ?_
  show pw_V x m_X8_isWrong 2 Z 3 [(0, .ref 26), (1, .int (nI i)), (2, .int (nI s))] [.int (nI s), .int (nI i), .ref 26] mm
  refine pw_cV (vs := [.int (nI i), .int (nI s)]) (rest := []) k_X8_fits (c_mfits mm hv hok i s (by omega) (by omega)) l_8_189 rfl rfl rfl rfl (by omega) (Nat.le_of_ble_eq_true rfl) (by decide +kernel) ?_
  rintro _ m1 ⟨rfl, e1⟩
  rw [e1]
  clear e1 m1
  show pw_V x m_X8_isWrong 2 Z 6 [(0, .ref 26), (1, .int (nI i)), (2, .int (nI s))] [.int (pw_b (pw_fnow A i s))] mm
  refine pw_ib_eq (tgt := 37) (off := 31) (by decide +kernel) (by decide) (fun h6 => ?_) (fun h6 => ?_)
  · refine pw_blk (pc' := 38) [.iconst 1] (by decide +kernel) ?_
    show pw_V x m_X8_isWrong 2 Z 38 [(0, .ref 26), (1, .int (nI i)), (2, .int (nI s))] [.int (nI 1)] mm
    refine pw_goto (tgt := 42) (off := 4) (by decide +kernel) (by decide) ?_
    rw [← hZ]
    refine pw_rz (by decide +kernel) (Or.inr rfl) ?_
    refine ⟨?_, rfl⟩
    simp [pw_inp, h6]
    try rfl
  · refine pw_blk (pc' := 11) [.iload 2, .aload 0] (by decide +kernel) ?_
    show pw_V x m_X8_isWrong 2 Z 11 [(0, .ref 26), (1, .int (nI i)), (2, .int (nI s))] [.ref 26, .int (nI s)] mm
    refine pw_cV (vs := []) (rest := [.int (nI s)]) k_X8_perilOn (c_mperil mm hv hok) l_8_192 rfl rfl rfl rfl (by omega) (Nat.le_of_ble_eq_true rfl) (by decide +kernel) ?_
    rintro _ m1 ⟨rfl, e1⟩
    rw [e1]
    clear e1 m1
    show pw_V x m_X8_isWrong 2 Z 14 [(0, .ref 26), (1, .int (nI i)), (2, .int (nI s))] [.int (pw_o (pw_pon A)), .int (nI s)] mm
    refine pw_no_ne (tgt := 41) (off := 27) (by decide +kernel) (by decide) (by first | omega | exact pw_g_lt) (fun a ha => Nat.lt_trans (pw_mpon hok ha) (by omega)) (fun h14 => ?_) (fun h14 => ?_)
    · refine pw_blk (pc' := 42) [.iconst 0] (by decide +kernel) ?_
      show pw_V x m_X8_isWrong 2 Z 42 [(0, .ref 26), (1, .int (nI i)), (2, .int (nI s))] [.int (nI 0)] mm
      rw [← hZ]
      refine pw_rz (by decide +kernel) (Or.inl rfl) ?_
      refine ⟨?_, rfl⟩
      simp [pw_inp, h6, h14]
      try rfl
    · refine pw_blk (pc' := 22) [.iload 1, .aload 0, .getfield 807] (by decide +kernel) ?_
      show pw_V x m_X8_isWrong 2 Z 22 [(0, .ref 26), (1, .int (nI i)), (2, .int (nI s))] [.int (mm 26 7), .int (nI i)] mm
      rw [show mm 26 7 = pw_o (pw_mt A) from mv_mt hv hok]
      refine pw_no_eq (tgt := 41) (off := 19) (by decide +kernel) (by decide) (by first | omega | exact pw_g_lt) (fun a ha => Nat.lt_trans (pw_b410 hok ha) (by omega)) (fun h22 => ?_) (fun h22 => ?_)
      · refine pw_blk (pc' := 42) [.iconst 0] (by decide +kernel) ?_
        show pw_V x m_X8_isWrong 2 Z 42 [(0, .ref 26), (1, .int (nI i)), (2, .int (nI s))] [.int (nI 0)] mm
        rw [← hZ]
        refine pw_rz (by decide +kernel) (Or.inl rfl) ?_
        refine ⟨?_, rfl⟩
        simp [pw_inp, h6, h14, h22]
        try rfl
      · refine pw_blk (pc' := 34) [.aload 0, .getfield 803, .iconst 3, .iload 1, .imul, .iaload, .iconst 1] (by decide +kernel) ?_
        refine ⟨(3 * i), (show (nI 3) * (nI i) = nI (3 * i) from by rw [show (nI 3) * (nI i) = nI (3 * i) from pk_mul _ _]), by first | omega | exact pw_g_lt, ?_⟩
        show pw_V x m_X8_isWrong 2 Z 34 [(0, .ref 26), (1, .int (nI i)), (2, .int (nI s))] [.int (nI 1), .int (mm 28 (3 * i))] mm
        rw [show mm 28 (3 * i) = nI (pw_g A 7 i) from mv_kk hv hok (i := i) (by omega)]
        refine pw_in_eq (tgt := 41) (off := 7) (by first | omega | exact pw_g_lt) (by first | omega | exact pw_g_lt) (by decide +kernel) (by decide) (fun h34 => ?_) (fun h34 => ?_)
        · refine pw_blk (pc' := 42) [.iconst 0] (by decide +kernel) ?_
          show pw_V x m_X8_isWrong 2 Z 42 [(0, .ref 26), (1, .int (nI i)), (2, .int (nI s))] [.int (nI 0)] mm
          rw [← hZ]
          refine pw_rz (by decide +kernel) (Or.inl rfl) ?_
          refine ⟨?_, rfl⟩
          simp [pw_inp, h6, h14, h22, h34]
          try rfl
        · refine pw_blk (pc' := 38) [.iconst 1] (by decide +kernel) ?_
          show pw_V x m_X8_isWrong 2 Z 38 [(0, .ref 26), (1, .int (nI i)), (2, .int (nI s))] [.int (nI 1)] mm
          refine pw_goto (tgt := 42) (off := 4) (by decide +kernel) (by decide) ?_
          rw [← hZ]
          refine pw_rz (by decide +kernel) (Or.inr rfl) ?_
          refine ⟨?_, rfl⟩
          simp [pw_inp, h6, h14, h22, h34]
          try rfl

theorem pw_lf_b {p : Nat → Bool} {n j : Nat} (h : pw_lf p n = some j) : j < n := (pw_lf_s h).1

set_option maxHeartbeats 4000000 in
set_option maxRecDepth 100000 in
theorem c_msitter {A : pw_m} (mm : pw_m) (hv : MV A mm) (hok : pw_ok A) (s : Nat) (hs : s < 2 ^ 31) : pw_Ct 0 yX8_sitter m_X8_sitter [.ref 26, .int (nI s)] mm (fun r m' => r = some (.int (pw_o (pw_si A s))) ∧ m' = mm) := by
  refine pw_ct (by decide +kernel) rfl (Nat.le_of_ble_eq_true rfl) (fun x => ?_)
  generalize hZ : pw_Z x _ = Z
  have bn := pw_bn hok
  have bk := pw_bk hok
  show pw_V x m_X8_sitter 0 Z 0 [(0, .ref 26), (1, .int (nI s))] [] mm
  refine pw_blk (pc' := 4) [.iconst (-1), .istore 2, .iconst 0, .istore 3] (by decide +kernel) ?_
  show pw_V x m_X8_sitter 0 Z 4 [(3, .int (nI 0)), (2, .int (-1)), (0, .ref 26), (1, .int (nI s))] [] mm
  refine pw_lvp [2, 3, 1, 0] rfl ?_
  rw [show (-1) = pw_o ((pw_lf (fun j => decide (pw_pl A j = some s)) 0)) from rfl]
  suffices lo : ∀ ix : Nat, ix ≤ pw_k A → pw_V x m_X8_sitter 0 Z 4 [(0, .ref 26), (1, .int (nI s)), (2, .int (pw_o ((pw_lf (fun j => decide (pw_pl A j = some s)) ix)))), (3, .int (nI ix))] [] mm from lo 0 (by omega)
  refine pw_dn (pw_k A) (fun ix hix ih => ?_)
  refine pw_blk (pc' := 9) [.iload 3, .aload 0, .getfield 802] (by decide +kernel) ?_
  show pw_V x m_X8_sitter 0 Z 9 [(0, .ref 26), (1, .int (nI s)), (2, .int (pw_o ((pw_lf (fun j => decide (pw_pl A j = some s)) ix)))), (3, .int (nI ix))] [.int (mm 26 2), .int (nI ix)] mm
  rw [show mm 26 2 = nI (pw_k A) from mv_k hv hok]
  refine pw_in_ge (tgt := 37) (off := 28) (by omega) (by omega) (by decide +kernel) (by decide) (fun h9 => ?_) (fun h9 => ?_)
  · refine pw_blk (pc' := 38) [.iload 2] (by decide +kernel) ?_
    show pw_V x m_X8_sitter 0 Z 38 [(0, .ref 26), (1, .int (nI s)), (2, .int (pw_o ((pw_lf (fun j => decide (pw_pl A j = some s)) ix)))), (3, .int (nI ix))] [.int (pw_o ((pw_lf (fun j => decide (pw_pl A j = some s)) ix)))] mm
    rw [← hZ]
    refine pw_ri (by decide +kernel) ?_
    refine ⟨?_, rfl⟩
    rw [show ix = pw_k A by omega, pw_si_k hok]
  · refine pw_blk (pc' := 22) [.aload 0, .getfield 808, .iconst (14), .iload 3, .iadd, .iaload, .iload 1] (by decide +kernel) ?_
    refine ⟨(14 + ix), (show (nI 14) + (nI ix) = nI (14 + ix) from by rw [show (nI 14) + (nI ix) = nI (14 + ix) from nI_add _ _]), by omega, ?_⟩
    show pw_V x m_X8_sitter 0 Z 22 [(0, .ref 26), (1, .int (nI s)), (2, .int (pw_o ((pw_lf (fun j => decide (pw_pl A j = some s)) ix)))), (3, .int (nI ix))] [.int (nI s), .int (mm 30 (14 + ix))] mm
    rw [show mm 30 (14 + ix) = pw_o (pw_pl A ix) from mv_pl hv hok (i := ix) (by omega)]
    refine pw_on_ne (tgt := 29) (off := 7) (by decide +kernel) (by decide) (fun a ha => Nat.lt_trans (pw_mplb hok (i := ix) (by omega) ha) (by omega)) (by omega) (fun h22 => ?_) (fun h22 => ?_)
    · refine pw_blk (pc' := 34) [.iload 2, .istore 2, .iinc 3 1] (by decide +kernel) ?_
      show pw_V x m_X8_sitter 0 Z 34 [(3, .int ((nI ix) + (nI 1))), (2, .int (pw_o ((pw_lf (fun j => decide (pw_pl A j = some s)) ix)))), (0, .ref 26), (1, .int (nI s))] [] mm
      rw [show (nI ix) + (nI 1) = nI (ix + 1) from nI_add _ _]
      refine pw_goto (tgt := 4) (off := -30) (by decide +kernel) (by decide) ?_
      rw [show pw_o ((pw_lf (fun j => decide (pw_pl A j = some s)) ix)) = pw_o ((pw_lf (fun j => decide (pw_pl A j = some s)) (ix + 1))) from by simp [pw_lf, pw_o, h9, h22]]
      refine pw_lvp [2, 3, 1, 0] rfl ?_
      exact ih (by omega)
    · refine pw_blk (pc' := 26) [.iload 3] (by decide +kernel) ?_
      show pw_V x m_X8_sitter 0 Z 26 [(0, .ref 26), (1, .int (nI s)), (2, .int (pw_o ((pw_lf (fun j => decide (pw_pl A j = some s)) ix)))), (3, .int (nI ix))] [.int (nI ix)] mm
      refine pw_goto (tgt := 30) (off := 4) (by decide +kernel) (by decide) ?_
      refine pw_blk (pc' := 34) [.istore 2, .iinc 3 1] (by decide +kernel) ?_
      show pw_V x m_X8_sitter 0 Z 34 [(3, .int ((nI ix) + (nI 1))), (2, .int (nI ix)), (0, .ref 26), (1, .int (nI s))] [] mm
      rw [show (nI ix) + (nI 1) = nI (ix + 1) from nI_add _ _]
      refine pw_goto (tgt := 4) (off := -30) (by decide +kernel) (by decide) ?_
      rw [show nI ix = pw_o ((pw_lf (fun j => decide (pw_pl A j = some s)) (ix + 1))) from by simp [pw_lf, pw_o, h9, h22]]
      refine pw_lvp [2, 3, 1, 0] rfl ?_
      exact ih (by omega)

set_option maxHeartbeats 4000000 in
set_option maxRecDepth 100000 in
theorem c_msitting {A : pw_m} (mm : pw_m) (hv : MV A mm) (hok : pw_ok A) : pw_Ct 0 yX8_sitting m_X8_sitting [.ref 26] mm (fun r m' => r = some (.int (nI (pw_sb A))) ∧ m' = mm) := by
  refine pw_ct (by decide +kernel) rfl (Nat.le_of_ble_eq_true rfl) (fun x => ?_)
  generalize hZ : pw_Z x _ = Z
  have bn := pw_bn hok
  have bk := pw_bk hok
  show pw_V x m_X8_sitting 0 Z 0 [(0, .ref 26)] [] mm
  refine pw_blk (pc' := 4) [.iconst 0, .istore 1, .iconst 0, .istore 2] (by decide +kernel) ?_
  show pw_V x m_X8_sitting 0 Z 4 [(2, .int (nI 0)), (1, .int (nI 0)), (0, .ref 26)] [] mm
  refine pw_lvp [2, 1, 0] rfl ?_
  rw [show nI 0 = nI (pw_ob (fun j => (pw_pl A j).isSome) 0) from rfl]
  suffices lo : ∀ ix : Nat, ix ≤ pw_k A → pw_V x m_X8_sitting 0 Z 4 [(0, .ref 26), (1, .int (nI (pw_ob (fun j => (pw_pl A j).isSome) ix))), (2, .int (nI ix))] [] mm from lo 0 (by omega)
  refine pw_dn (pw_k A) (fun ix hix ih => ?_)
  refine pw_blk (pc' := 9) [.iload 2, .aload 0, .getfield 802] (by decide +kernel) ?_
  show pw_V x m_X8_sitting 0 Z 9 [(0, .ref 26), (1, .int (nI (pw_ob (fun j => (pw_pl A j).isSome) ix))), (2, .int (nI ix))] [.int (mm 26 2), .int (nI ix)] mm
  rw [show mm 26 2 = nI (pw_k A) from mv_k hv hok]
  refine pw_in_ge (tgt := 41) (off := 32) (by omega) (by omega) (by decide +kernel) (by decide) (fun h9 => ?_) (fun h9 => ?_)
  · refine pw_blk (pc' := 42) [.iload 1] (by decide +kernel) ?_
    show pw_V x m_X8_sitting 0 Z 42 [(0, .ref 26), (1, .int (nI (pw_ob (fun j => (pw_pl A j).isSome) ix))), (2, .int (nI ix))] [.int (nI (pw_ob (fun j => (pw_pl A j).isSome) ix))] mm
    rw [← hZ]
    refine pw_ri (by decide +kernel) ?_
    refine ⟨?_, rfl⟩
    rw [show ix = pw_k A by omega, pw_sb_k hok]
  · refine pw_blk (pc' := 23) [.iload 1, .aload 0, .getfield 808, .iconst (14), .iload 2, .iadd, .iaload, .iconst (-1)] (by decide +kernel) ?_
    refine ⟨(14 + ix), (show (nI 14) + (nI ix) = nI (14 + ix) from by rw [show (nI 14) + (nI ix) = nI (14 + ix) from nI_add _ _]), by omega, ?_⟩
    show pw_V x m_X8_sitting 0 Z 23 [(0, .ref 26), (1, .int (nI (pw_ob (fun j => (pw_pl A j).isSome) ix))), (2, .int (nI ix))] [.int (-1), .int (mm 30 (14 + ix)), .int (nI (pw_ob (fun j => (pw_pl A j).isSome) ix))] mm
    rw [show mm 30 (14 + ix) = pw_o (pw_pl A ix) from mv_pl hv hok (i := ix) (by omega)]
    rcases h23 : pw_pl A ix with _ | s23
    · show pw_V x m_X8_sitting 0 Z 23 [(0, .ref 26), (1, .int (nI (pw_ob (fun j => (pw_pl A j).isSome) ix))), (2, .int (nI ix))] [.int (-1), .int (-1), .int (nI (pw_ob (fun j => (pw_pl A j).isSome) ix))] mm
      refine pw_ic_ne (tgt := 30) (off := 7) (by decide +kernel) (by decide) (fun h => absurd rfl h) (fun _ => ?_)
      refine pw_blk (pc' := 27) [.iconst 0] (by decide +kernel) ?_
      show pw_V x m_X8_sitting 0 Z 27 [(0, .ref 26), (1, .int (nI (pw_ob (fun j => (pw_pl A j).isSome) ix))), (2, .int (nI ix))] [.int (nI 0), .int (nI (pw_ob (fun j => (pw_pl A j).isSome) ix))] mm
      refine pw_goto (tgt := 33) (off := 6) (by decide +kernel) (by decide) ?_
      refine pw_blk (pc' := 38) [.ior, .istore 1, .iinc 2 1] (by decide +kernel) ?_
      show pw_V x m_X8_sitting 0 Z 38 [(2, .int ((nI ix) + (nI 1))), (1, .int ((nI (pw_ob (fun j => (pw_pl A j).isSome) ix)) ||| (nI 0))), (0, .ref 26)] [] mm
      rw [show (nI ix) + (nI 1) = nI (ix + 1) from nI_add _ _]
      rw [show (nI (pw_ob (fun j => (pw_pl A j).isSome) ix)) ||| (nI 0) = nI ((pw_ob (fun j => (pw_pl A j).isSome) ix) ||| 0) from fa_or _ _]
      refine pw_goto (tgt := 4) (off := -34) (by decide +kernel) (by decide) ?_
      rw [show nI ((pw_ob (fun j => (pw_pl A j).isSome) ix) ||| 0) = nI (pw_ob (fun j => (pw_pl A j).isSome) (ix + 1)) from by simp [pw_ob, h9, h23]]
      refine pw_lvp [2, 1, 0] rfl ?_
      exact ih (by omega)
    · show pw_V x m_X8_sitting 0 Z 23 [(0, .ref 26), (1, .int (nI (pw_ob (fun j => (pw_pl A j).isSome) ix))), (2, .int (nI ix))] [.int (-1), .int (nI s23), .int (nI (pw_ob (fun j => (pw_pl A j).isSome) ix))] mm
      have b23 := pw_mplb hok (i := ix) (by omega) h23
      refine pw_ic_ne (tgt := 30) (off := 7) (by decide +kernel) (by decide) (fun _ => ?_) (fun h => absurd h (pw_n1 (by omega)))
      refine pw_blk (pc' := 38) [.iconst 1, .iload 2, .ishl, .ior, .istore 1, .iinc 2 1] (by decide +kernel) ?_
      show pw_V x m_X8_sitting 0 Z 38 [(2, .int ((nI ix) + (nI 1))), (1, .int ((nI (pw_ob (fun j => (pw_pl A j).isSome) ix)) ||| ((nI 1) <<< ((nI ix) &&& 31)))), (0, .ref 26)] [] mm
      rw [show (nI ix) + (nI 1) = nI (ix + 1) from nI_add _ _]
      rw [show (nI 1) <<< ((nI ix) &&& 31) = nI (2 ^ ix) from pw_shl1 (by omega)]
      rw [show (nI (pw_ob (fun j => (pw_pl A j).isSome) ix)) ||| (nI (2 ^ ix)) = nI ((pw_ob (fun j => (pw_pl A j).isSome) ix) ||| (2 ^ ix)) from fa_or _ _]
      refine pw_goto (tgt := 4) (off := -34) (by decide +kernel) (by decide) ?_
      rw [show nI ((pw_ob (fun j => (pw_pl A j).isSome) ix) ||| (2 ^ ix)) = nI (pw_ob (fun j => (pw_pl A j).isSome) (ix + 1)) from by simp [pw_ob, h9, h23]]
      refine pw_lvp [2, 1, 0] rfl ?_
      exact ih (by omega)

set_option maxHeartbeats 4000000 in
set_option maxRecDepth 100000 in
theorem c_mbes1 {A : pw_m} (mm : pw_m) (hv : MV A mm) (hok : pw_ok A) (s : Nat) (hs : s < pw_n A) : pw_Ct 0 yX8_beside m_X8_beside [.ref 26, .int (nI s), .int (nI 1)] mm (fun r m' => r = some (.int (nI (pw_bh (pw_n A) s))) ∧ m' = mm) := by
  refine pw_ct (by decide +kernel) rfl (Nat.le_of_ble_eq_true rfl) (fun x => ?_)
  generalize hZ : pw_Z x _ = Z
  have bn := pw_bn hok
  have bk := pw_bk hok
  show pw_V x m_X8_beside 0 Z 0 [(0, .ref 26), (1, .int (nI s)), (2, .int (nI 1))] [] mm
  refine pw_blk (pc' := 13) [.iload 1, .iload 2, .iadd, .aload 0, .getfield 800, .iadd, .aload 0, .getfield 800, .irem] (by decide +kernel) ?_
  refine ⟨(show ¬ mm 26 0 = 0 from by rw [show mm 26 0 = nI (pw_n A) from mv_n hv hok]; exact (show ¬ nI (pw_n A) = 0 from nI_ne0 (by omega) (by omega))), ?_⟩
  show pw_V x m_X8_beside 0 Z 13 [(0, .ref 26), (1, .int (nI s)), (2, .int (nI 1))] [.int ((((nI s) + (nI 1)) + (mm 26 0)) - (((nI s) + (nI 1)) + (mm 26 0)) / (mm 26 0) * (mm 26 0))] mm
  rw [show (nI s) + (nI 1) = nI (s + 1) from nI_add _ _]
  rw [show mm 26 0 = nI (pw_n A) from mv_n hv hok]
  rw [show (nI (s + 1)) + (nI (pw_n A)) = nI ((s + 1) + (pw_n A)) from nI_add _ _]
  rw [show (nI ((s + 1) + (pw_n A))) - (nI ((s + 1) + (pw_n A))) / (nI (pw_n A)) * (nI (pw_n A)) = nI (((s + 1) + (pw_n A)) % (pw_n A)) from pk_rem (by omega) (by omega) (by omega)]
  rw [← hZ]
  refine pw_ri (by decide +kernel) ?_
  refine ⟨?_, rfl⟩
  rw [pw_bes1 hs]

set_option maxHeartbeats 4000000 in
set_option maxRecDepth 100000 in
theorem c_mbesm {A : pw_m} (mm : pw_m) (hv : MV A mm) (hok : pw_ok A) (s : Nat) (hs : s < pw_n A) : pw_Ct 0 yX8_beside m_X8_beside [.ref 26, .int (nI s), .int (-1)] mm (fun r m' => r = some (.int (nI (pw_ah (pw_n A) s))) ∧ m' = mm) := by
  refine pw_ct (by decide +kernel) rfl (Nat.le_of_ble_eq_true rfl) (fun x => ?_)
  generalize hZ : pw_Z x _ = Z
  have bn := pw_bn hok
  have bk := pw_bk hok
  show pw_V x m_X8_beside 0 Z 0 [(0, .ref 26), (1, .int (nI s)), (2, .int (-1))] [] mm
  refine pw_blk (pc' := 8) [.iload 1, .iload 2, .iadd, .aload 0, .getfield 800, .iadd] (by decide +kernel) ?_
  show pw_V x m_X8_beside 0 Z 8 [(0, .ref 26), (1, .int (nI s)), (2, .int (-1))] [.int (((nI s) + (-1)) + (mm 26 0))] mm
  rw [show mm 26 0 = nI (pw_n A) from mv_n hv hok]
  rw [show ((nI s) + (-1)) + (nI (pw_n A)) = nI (s + pw_n A - 1) from pw_nIms (by omega) (by omega)]
  refine pw_blk (pc' := 13) [.aload 0, .getfield 800, .irem] (by decide +kernel) ?_
  refine ⟨(show ¬ mm 26 0 = 0 from by rw [show mm 26 0 = nI (pw_n A) from mv_n hv hok]; exact (show ¬ nI (pw_n A) = 0 from nI_ne0 (by omega) (by omega))), ?_⟩
  show pw_V x m_X8_beside 0 Z 13 [(0, .ref 26), (1, .int (nI s)), (2, .int (-1))] [.int ((nI (s + pw_n A - 1)) - (nI (s + pw_n A - 1)) / (mm 26 0) * (mm 26 0))] mm
  rw [show mm 26 0 = nI (pw_n A) from mv_n hv hok]
  rw [show (nI (s + pw_n A - 1)) - (nI (s + pw_n A - 1)) / (nI (pw_n A)) * (nI (pw_n A)) = nI ((s + pw_n A - 1) % (pw_n A)) from pk_rem (by omega) (by omega) (by omega)]
  rw [← hZ]
  refine pw_ri (by decide +kernel) ?_
  refine ⟨?_, rfl⟩
  rw [pw_besm hs]

set_option maxHeartbeats 4000000 in
set_option maxRecDepth 100000 in
theorem c_mare {A : pw_m} (mm : pw_m) (hv : MV A mm) (hok : pw_ok A) (i : Nat) (q : Option Nat) (hi : i < 6) (hq : ∀ c, q = some c → c < 6) : pw_Ct 1 yX8_areEnemies m_X8_areEnemies [.ref 26, .int (nI i), .int (pw_o (q))] mm (fun r m' => r = some (.int (pw_b (pw_en A i q))) ∧ m' = mm) := by
  refine pw_ct (by decide +kernel) rfl (Nat.le_of_ble_eq_true rfl) (fun x => ?_)
  generalize hZ : pw_Z x _ = Z
  have bn := pw_bn hok
  have bk := pw_bk hok
  show pw_V x m_X8_areEnemies 1 Z 0 [(0, .ref 26), (1, .int (nI i)), (2, .int (pw_o (q)))] [] mm
  refine pw_blk (pc' := 2) [.iload 2, .iconst (-1)] (by decide +kernel) ?_
  show pw_V x m_X8_areEnemies 1 Z 2 [(0, .ref 26), (1, .int (nI i)), (2, .int (pw_o (q)))] [.int (-1), .int (pw_o (q))] mm
  rcases h2 : q with _ | s2
  · show pw_V x m_X8_areEnemies 1 Z 2 [(0, .ref 26), (1, .int (nI i)), (2, .int (-1))] [.int (-1), .int (-1)] mm
    refine pw_ic_eq (tgt := 22) (off := 20) (by decide +kernel) (by decide) (fun _ => ?_) (fun h => absurd rfl h)
    refine pw_blk (pc' := 23) [.iconst 0] (by decide +kernel) ?_
    show pw_V x m_X8_areEnemies 1 Z 23 [(0, .ref 26), (1, .int (nI i)), (2, .int (-1))] [.int (nI 0)] mm
    rw [← hZ]
    refine pw_rz (by decide +kernel) (Or.inl rfl) ?_
    refine ⟨?_, rfl⟩
    simp [pw_en, h2]
    try rfl
  · show pw_V x m_X8_areEnemies 1 Z 2 [(0, .ref 26), (1, .int (nI i)), (2, .int (nI s2))] [.int (-1), .int (nI s2)] mm
    have b2 := hq _ h2
    refine pw_ic_eq (tgt := 22) (off := 20) (by decide +kernel) (by decide) (fun h => absurd h (pw_n1 (by first | omega | exact pw_g_lt))) (fun _ => ?_)
    refine pw_blk (pc' := 12) [.aload 0, .getfield 804, .iload 1, .iaload, .iload 2] (by decide +kernel) ?_
    refine ⟨i, rfl, by first | omega | exact pw_g_lt, ?_⟩
    show pw_V x m_X8_areEnemies 1 Z 12 [(0, .ref 26), (1, .int (nI i)), (2, .int (nI s2))] [.int (nI s2), .int (mm 29 i)] mm
    rw [show mm 29 i = nI (pw_g A 10 i) from mv_en hv hok (i := i) (by omega)]
    refine pw_cS (vs := [.int (nI (pw_g A 10 i)), .int (nI s2)]) (rest := []) k_X8_has (c_mhasN (pw_g A 10 i) s2 mm (by first | omega | exact pw_g_lt) (by first | omega | exact pw_g_lt)) l_8_86 rfl (by omega) (Nat.le_of_ble_eq_true rfl) (by decide +kernel) ?_
    rintro _ m1 ⟨rfl, e1⟩
    rw [e1]
    clear e1 m1
    show pw_V x m_X8_areEnemies 1 Z 15 [(0, .ref 26), (1, .int (nI i)), (2, .int (nI s2))] [.int (pw_b (((pw_g A 10 i)).testBit s2))] mm
    refine pw_ib_eq (tgt := 22) (off := 7) (by decide +kernel) (by decide) (fun h15 => ?_) (fun h15 => ?_)
    · refine pw_blk (pc' := 23) [.iconst 0] (by decide +kernel) ?_
      show pw_V x m_X8_areEnemies 1 Z 23 [(0, .ref 26), (1, .int (nI i)), (2, .int (nI s2))] [.int (nI 0)] mm
      rw [← hZ]
      refine pw_rz (by decide +kernel) (Or.inl rfl) ?_
      refine ⟨?_, rfl⟩
      simp [pw_en, h2, h15]
      try rfl
    · refine pw_blk (pc' := 19) [.iconst 1] (by decide +kernel) ?_
      show pw_V x m_X8_areEnemies 1 Z 19 [(0, .ref 26), (1, .int (nI i)), (2, .int (nI s2))] [.int (nI 1)] mm
      refine pw_goto (tgt := 23) (off := 4) (by decide +kernel) (by decide) ?_
      rw [← hZ]
      refine pw_rz (by decide +kernel) (Or.inr rfl) ?_
      refine ⟨?_, rfl⟩
      simp [pw_en, h2, h15]
      try rfl
