set_option maxHeartbeats 4000000 in
set_option maxRecDepth 100000 in
theorem c_mrName1 {A : pw_m} (mm : pw_m) (hx : MX A mm) (hok : pw_ok A) (X : pw_m) (hX : SD X mm) (s k : Nat) (hs : X 4 0 = nI s) (hk : X 4 1 = nI k) (hs8 : s ≤ 8) (hk6 : k ≤ 6) (e : Nat) (he2 : e ≤ pw_g A 2 1) (hT : TK A mm e) (hw1 : mm 26 21 = nI 1) : pw_Ct 4 yX8_readName m_X8_readName [.ref 26, .int (nI 1)] mm (fun r m' => r = none ∧ pw_rp A X mm m' (pw_rest A s k 1 e)) := by
  refine pw_ct (by decide +kernel) rfl (Nat.le_of_ble_eq_true rfl) (fun x => ?_)
  generalize hZ : pw_Z x _ = Z
  have b21 := pw_b21 hok
  have z0 := pw_tb1 he2
  have hle : pw_le_ 1 = 0 := rfl
  have hmf : pw_mf s k 1 = s := rfl
  have hms : pw_ms k 1 = 10 := rfl
  show pw_V x m_X8_readName 4 Z 0 [(0, .ref 26), (1, .int (nI 1))] [] mm
  refine pw_blk (pc' := 8) [.aload 0, .iconst 0, .aload 0, .getfield 823, .iconst 1, .isub] (by decide +kernel) ?_
  show pw_V x m_X8_readName 4 Z 8 [(0, .ref 26), (1, .int (nI 1))] [.int ((mm 26 23) - (nI 1)), .int (nI 0), .ref 26] mm
  rw [show mm 26 23 = nI s from (hX.1.1.trans hs)]
  refine pw_cV (vs := [.int (nI 0), .int ((nI s) - (nI 1))]) (rest := []) k_X8_number (c_mnumb (A := A) mm hx e (by omega) hT b21 hok true hw1 0 s ((nI s) - (nI 1)) rfl (by omega) (by omega)) l_8_145 rfl rfl rfl rfl (by omega) (Nat.le_of_ble_eq_true rfl) (by decide +kernel) ?_
  rintro _ m1 ⟨rfl, e1⟩
  rw [e1]
  clear e1 m1
  show pw_V x m_X8_readName 4 Z 11 [(0, .ref 26), (1, .int (nI 1))] [.int (pw_nuR A e 0 s true)] (pw_nuM A mm e 0 s true)
  by_cases c8 : pw_rgb 0 s (pw_tN A e) = true
  · obtain ⟨y8, ey8, ya8, yb8⟩ := pw_rgb_t c8 (by omega) (by omega)
    rw [show pw_nuR A e 0 s true = nI y8 from by unfold pw_nuR pw_nuC; rw [c8, ← ey8]; rfl, show pw_nuM A mm e 0 s true = pw_tok A (pw_up mm 26 21 (nI 1)) (pw_tE A e) from by unfold pw_nuM pw_nuC; rw [c8]; rfl]
    have w8 := pw_tb1 (A := A) (e := pw_tE A e) (by omega)
    obtain ⟨m8, hm8⟩ : ∃ m, m = pw_tok A (pw_up mm 26 21 (nI 1)) (pw_tE A e) := ⟨_, rfl⟩
    rw [← hm8]
    have T8 : TK A m8 (pw_tE A e) := by rw [hm8]; exact pw_tok_TK
    have W8 : m8 26 21 = nI 1 := by rw [hm8]; exact (pw_tok_6 (by omega)).trans pw_up_gs
    have X8 : MX A m8 := by rw [hm8]; exact MX.t (MX.u hx (by decide))
    have S8 : SD X m8 := by rw [hm8]; exact SD.t (SD.w hX)
    have F8 : pw_rfm mm m8 := by rw [hm8]; exact pw_rfm_k (pw_rfm_6 pw_rfm_r (by decide))
    clear hm8
    show pw_V x m_X8_readName 4 Z 11 [(0, .ref 26), (1, .int (nI 1))] [.int (nI y8)] m8
    refine pw_blk (pc' := 14) [.istore 2, .iload 1, .iconst 4] (by decide +kernel) ?_
    show pw_V x m_X8_readName 4 Z 14 [(2, .int (nI y8)), (0, .ref 26), (1, .int (nI 1))] [.int (nI 4), .int (nI 1)] m8
    refine pw_in_ne (tgt := 21) (off := 7) (by omega) (by omega) (by decide +kernel) (by decide) (fun _ => ?_) (fun h => by omega)
    refine pw_blk (pc' := 25) [.aload 0, .iconst 0, .iconst (9)] (by decide +kernel) ?_
    show pw_V x m_X8_readName 4 Z 25 [(2, .int (nI y8)), (0, .ref 26), (1, .int (nI 1))] [.int (nI 9), .int (nI 0), .ref 26] m8
    refine pw_cV (vs := [.int (nI 0), .int (nI 9)]) (rest := []) k_X8_number (c_mnumb (A := A) m8 X8 (pw_tE A e) (by omega) T8 b21 hok true W8 0 10 (nI 9) (by decide) (by omega) (by omega)) l_8_145 rfl rfl rfl rfl (by omega) (Nat.le_of_ble_eq_true rfl) (by decide +kernel) ?_
    rintro _ m1 ⟨rfl, e1⟩
    rw [e1]
    clear e1 m1
    show pw_V x m_X8_readName 4 Z 28 [(2, .int (nI y8)), (0, .ref 26), (1, .int (nI 1))] [.int (pw_nuR A (pw_tE A e) 0 10 true)] (pw_nuM A m8 (pw_tE A e) 0 10 true)
    by_cases c25 : pw_rgb 0 10 (pw_tN A (pw_tE A e)) = true
    · obtain ⟨y25, ey25, ya25, yb25⟩ := pw_rgb_t c25 (by omega) (by omega)
      rw [show pw_nuR A (pw_tE A e) 0 10 true = nI y25 from by unfold pw_nuR pw_nuC; rw [c25, ← ey25]; rfl, show pw_nuM A m8 (pw_tE A e) 0 10 true = pw_tok A (pw_up m8 26 21 (nI 1)) (pw_tE A (pw_tE A e)) from by unfold pw_nuM pw_nuC; rw [c25]; rfl]
      have w25 := pw_tb1 (A := A) (e := pw_tE A (pw_tE A e)) (by omega)
      obtain ⟨m25, hm25⟩ : ∃ m, m = pw_tok A (pw_up m8 26 21 (nI 1)) (pw_tE A (pw_tE A e)) := ⟨_, rfl⟩
      rw [← hm25]
      have T25 : TK A m25 (pw_tE A (pw_tE A e)) := by rw [hm25]; exact pw_tok_TK
      have W25 : m25 26 21 = nI 1 := by rw [hm25]; exact (pw_tok_6 (by omega)).trans pw_up_gs
      have X25 : MX A m25 := by rw [hm25]; exact MX.t (MX.u X8 (by decide))
      have S25 : SD X m25 := by rw [hm25]; exact SD.t (SD.w S8)
      have F25 : pw_rfm mm m25 := by rw [hm25]; exact pw_rfm_k (pw_rfm_6 F8 (by decide))
      clear hm25
      show pw_V x m_X8_readName 4 Z 28 [(2, .int (nI y8)), (0, .ref 26), (1, .int (nI 1))] [.int (nI y25)] m25
      refine pw_blk (pc' := 33) [.istore 3, .aload 0, .getfield 821] (by decide +kernel) ?_
      show pw_V x m_X8_readName 4 Z 33 [(3, .int (nI y25)), (2, .int (nI y8)), (0, .ref 26), (1, .int (nI 1))] [.int (m25 26 21)] m25
      rw [show m25 26 21 = nI 1 from W25]
      refine pw_iz_eq (tgt := 56) (off := 23) (by omega) (by decide +kernel) (by decide) (fun h => by omega) (fun _ => ?_)
      refine pw_blk (pc' := 56) [.aload 0, .getfield 824, .iconst 2, .iload 2, .imul, .iload 1, .iastore, .aload 0, .getfield 824, .iconst 2, .iload 2, .imul, .iconst 1, .iadd, .iload 3, .iastore] (by decide +kernel) ?_
      refine ⟨(2 * y8), (show (nI 2) * (nI y8) = nI (2 * y8) from by rw [show (nI 2) * (nI y8) = nI (2 * y8) from pk_mul _ _]), by omega, ?_⟩
      refine ⟨((2 * y8) + 1), (show ((nI 2) * (nI y8)) + (nI 1) = nI ((2 * y8) + 1) from by rw [show (nI 2) * (nI y8) = nI (2 * y8) from pk_mul _ _, show (nI (2 * y8)) + (nI 1) = nI ((2 * y8) + 1) from nI_add _ _]), by omega, ?_⟩
      show pw_V x m_X8_readName 4 Z 56 [(3, .int (nI y25)), (2, .int (nI y8)), (0, .ref 26), (1, .int (nI 1))] [] (pw_up (pw_up m25 36 (2 * y8) (nI 1)) 36 ((2 * y8) + 1) (nI y25))
      rw [← hZ]
      refine pw_rv (by decide +kernel) ?_
      have hr : pw_rest A s k 1 e = (some (1, y8, y25), (pw_tE A (pw_tE A e))) := by
        unfold pw_rest
        rw [if_neg (show ¬ pw_nb 1 < 1 from by decide), if_pos (show pw_rgb (pw_le_ 1) (pw_mf s k 1) (pw_tN A e) = true from by rw [hle, hmf]; exact c8), if_neg (show ¬ pw_nb 1 < 2 from by decide), if_pos ⟨show pw_rgb 0 (pw_ms k 1) (pw_tN A (pw_tE A e)) = true from by rw [hms]; exact c25, fun z => absurd z.1 (by decide)⟩, ey8, ey25, pw_c_nI (show y8 < 2 ^ 31 by omega), pw_c_nI (show y25 < 2 ^ 31 by omega)]
      exact ⟨rfl, pw_rp_ok hr (TK.c (TK.c T25 (by decide)) (by decide)) ((pw_up_o6 (by decide)).trans ((pw_up_o6 (by decide)).trans W25)) (pw_rfm_c (pw_rfm_c F25 (by decide)) (by decide)) (show SD (G_o1 X (1, y8, y25)) _ from by unfold G_o1; rw [show G_ob X 1 (nI y8) (nI y25) = G_ns X y8 (nI 1) (nI y25) from by show G_ns X (pw_c (nI y8)) _ _ = _; rw [pw_c_nI (by omega)]]; exact SD.ns S25 (by omega))⟩
    · rw [show pw_nuR A (pw_tE A e) 0 10 true = nI 0 from by unfold pw_nuR pw_nuC; rw [Bool.true_and, if_neg c25], show pw_nuM A m8 (pw_tE A e) 0 10 true = pw_up m8 26 21 (nI 0) from by unfold pw_nuM pw_nuC; rw [Bool.true_and, if_neg c25]]
      obtain ⟨m25, hm25⟩ : ∃ m, m = pw_up m8 26 21 (nI 0) := ⟨_, rfl⟩
      rw [← hm25]
      have T25 : TK A m25 (pw_tE A e) := by rw [hm25]; exact (TK.u T8)
      have W25 : m25 26 21 = nI 0 := by rw [hm25]; exact pw_up_gs
      have X25 : MX A m25 := by rw [hm25]; exact MX.u X8 (by decide)
      have S25 : SD X m25 := by rw [hm25]; exact SD.w S8
      have F25 : pw_rfm mm m25 := by rw [hm25]; exact pw_rfm_6 F8 (by decide)
      clear hm25
      show pw_V x m_X8_readName 4 Z 28 [(2, .int (nI y8)), (0, .ref 26), (1, .int (nI 1))] [.int (nI 0)] m25
      refine pw_blk (pc' := 33) [.istore 3, .aload 0, .getfield 821] (by decide +kernel) ?_
      show pw_V x m_X8_readName 4 Z 33 [(3, .int (nI 0)), (2, .int (nI y8)), (0, .ref 26), (1, .int (nI 1))] [.int (m25 26 21)] m25
      rw [show m25 26 21 = nI 0 from W25]
      refine pw_iz_eq (tgt := 56) (off := 23) (by omega) (by decide +kernel) (by decide) (fun _ => ?_) (fun h => by omega)
      rw [← hZ]
      refine pw_rv (by decide +kernel) ?_
      have hr : pw_rest A s k 1 e = (none, (pw_tE A e)) := by
        unfold pw_rest
        rw [if_neg (show ¬ pw_nb 1 < 1 from by decide), if_pos (show pw_rgb (pw_le_ 1) (pw_mf s k 1) (pw_tN A e) = true from by rw [hle, hmf]; exact c8), if_neg (show ¬ pw_nb 1 < 2 from by decide), if_neg (fun z => c25 (by rw [hms] at z; exact z.1))]
      exact ⟨rfl, pw_rp_no hr T25 W25 F25⟩
  · rw [show pw_nuR A e 0 s true = nI 0 from by unfold pw_nuR pw_nuC; rw [Bool.true_and, if_neg c8], show pw_nuM A mm e 0 s true = pw_up mm 26 21 (nI 0) from by unfold pw_nuM pw_nuC; rw [Bool.true_and, if_neg c8]]
    obtain ⟨m8, hm8⟩ : ∃ m, m = pw_up mm 26 21 (nI 0) := ⟨_, rfl⟩
    rw [← hm8]
    have T8 : TK A m8 e := by rw [hm8]; exact (TK.u hT)
    have W8 : m8 26 21 = nI 0 := by rw [hm8]; exact pw_up_gs
    have X8 : MX A m8 := by rw [hm8]; exact MX.u hx (by decide)
    have S8 : SD X m8 := by rw [hm8]; exact SD.w hX
    have F8 : pw_rfm mm m8 := by rw [hm8]; exact pw_rfm_6 pw_rfm_r (by decide)
    clear hm8
    show pw_V x m_X8_readName 4 Z 11 [(0, .ref 26), (1, .int (nI 1))] [.int (nI 0)] m8
    refine pw_blk (pc' := 14) [.istore 2, .iload 1, .iconst 4] (by decide +kernel) ?_
    show pw_V x m_X8_readName 4 Z 14 [(2, .int (nI 0)), (0, .ref 26), (1, .int (nI 1))] [.int (nI 4), .int (nI 1)] m8
    refine pw_in_ne (tgt := 21) (off := 7) (by omega) (by omega) (by decide +kernel) (by decide) (fun _ => ?_) (fun h => by omega)
    refine pw_blk (pc' := 25) [.aload 0, .iconst 0, .iconst (9)] (by decide +kernel) ?_
    show pw_V x m_X8_readName 4 Z 25 [(2, .int (nI 0)), (0, .ref 26), (1, .int (nI 1))] [.int (nI 9), .int (nI 0), .ref 26] m8
    refine pw_cV (vs := [.int (nI 0), .int (nI 9)]) (rest := []) k_X8_number (c_mnumb (A := A) m8 X8 e (by omega) T8 b21 hok false W8 0 10 (nI 9) (by decide) (by omega) (by omega)) l_8_145 rfl rfl rfl rfl (by omega) (Nat.le_of_ble_eq_true rfl) (by decide +kernel) ?_
    rintro _ m1 ⟨rfl, e1⟩
    rw [e1]
    clear e1 m1
    show pw_V x m_X8_readName 4 Z 28 [(2, .int (nI 0)), (0, .ref 26), (1, .int (nI 1))] [.int (pw_nuR A e 0 10 false)] (pw_nuM A m8 e 0 10 false)
    rw [show pw_nuR A e 0 10 false = nI 0 from rfl, show pw_nuM A m8 e 0 10 false = pw_up m8 26 21 (nI 0) from rfl]
    obtain ⟨m25, hm25⟩ : ∃ m, m = pw_up m8 26 21 (nI 0) := ⟨_, rfl⟩
    rw [← hm25]
    have T25 : TK A m25 e := by rw [hm25]; exact (TK.u T8)
    have W25 : m25 26 21 = nI 0 := by rw [hm25]; exact pw_up_gs
    have X25 : MX A m25 := by rw [hm25]; exact MX.u X8 (by decide)
    have S25 : SD X m25 := by rw [hm25]; exact SD.w S8
    have F25 : pw_rfm mm m25 := by rw [hm25]; exact pw_rfm_6 F8 (by decide)
    clear hm25
    refine pw_blk (pc' := 33) [.istore 3, .aload 0, .getfield 821] (by decide +kernel) ?_
    show pw_V x m_X8_readName 4 Z 33 [(3, .int (nI 0)), (2, .int (nI 0)), (0, .ref 26), (1, .int (nI 1))] [.int (m25 26 21)] m25
    rw [show m25 26 21 = nI 0 from W25]
    refine pw_iz_eq (tgt := 56) (off := 23) (by omega) (by decide +kernel) (by decide) (fun _ => ?_) (fun h => by omega)
    rw [← hZ]
    refine pw_rv (by decide +kernel) ?_
    have hr : pw_rest A s k 1 e = (none, e) := by
      unfold pw_rest
      rw [if_neg (show ¬ pw_nb 1 < 1 from by decide), if_neg (fun z => c8 (by rw [hle, hmf] at z; exact z))]
    exact ⟨rfl, pw_rp_no hr T25 W25 F25⟩

set_option maxHeartbeats 4000000 in
set_option maxRecDepth 100000 in
theorem c_mrName2 {A : pw_m} (mm : pw_m) (hx : MX A mm) (hok : pw_ok A) (X : pw_m) (hX : SD X mm) (s k : Nat) (hs : X 4 0 = nI s) (hk : X 4 1 = nI k) (hs8 : s ≤ 8) (hk6 : k ≤ 6) (e : Nat) (he2 : e ≤ pw_g A 2 1) (hT : TK A mm e) (hw1 : mm 26 21 = nI 1) : pw_Ct 4 yX8_readName m_X8_readName [.ref 26, .int (nI 2)] mm (fun r m' => r = none ∧ pw_rp A X mm m' (pw_rest A s k 2 e)) := by
  refine pw_ct (by decide +kernel) rfl (Nat.le_of_ble_eq_true rfl) (fun x => ?_)
  generalize hZ : pw_Z x _ = Z
  have b21 := pw_b21 hok
  have z0 := pw_tb1 he2
  have hle : pw_le_ 2 = 0 := rfl
  have hmf : pw_mf s k 2 = s := rfl
  have hms : pw_ms k 2 = 10 := rfl
  show pw_V x m_X8_readName 4 Z 0 [(0, .ref 26), (1, .int (nI 2))] [] mm
  refine pw_blk (pc' := 8) [.aload 0, .iconst 0, .aload 0, .getfield 823, .iconst 1, .isub] (by decide +kernel) ?_
  show pw_V x m_X8_readName 4 Z 8 [(0, .ref 26), (1, .int (nI 2))] [.int ((mm 26 23) - (nI 1)), .int (nI 0), .ref 26] mm
  rw [show mm 26 23 = nI s from (hX.1.1.trans hs)]
  refine pw_cV (vs := [.int (nI 0), .int ((nI s) - (nI 1))]) (rest := []) k_X8_number (c_mnumb (A := A) mm hx e (by omega) hT b21 hok true hw1 0 s ((nI s) - (nI 1)) rfl (by omega) (by omega)) l_8_145 rfl rfl rfl rfl (by omega) (Nat.le_of_ble_eq_true rfl) (by decide +kernel) ?_
  rintro _ m1 ⟨rfl, e1⟩
  rw [e1]
  clear e1 m1
  show pw_V x m_X8_readName 4 Z 11 [(0, .ref 26), (1, .int (nI 2))] [.int (pw_nuR A e 0 s true)] (pw_nuM A mm e 0 s true)
  by_cases c8 : pw_rgb 0 s (pw_tN A e) = true
  · obtain ⟨y8, ey8, ya8, yb8⟩ := pw_rgb_t c8 (by omega) (by omega)
    rw [show pw_nuR A e 0 s true = nI y8 from by unfold pw_nuR pw_nuC; rw [c8, ← ey8]; rfl, show pw_nuM A mm e 0 s true = pw_tok A (pw_up mm 26 21 (nI 1)) (pw_tE A e) from by unfold pw_nuM pw_nuC; rw [c8]; rfl]
    have w8 := pw_tb1 (A := A) (e := pw_tE A e) (by omega)
    obtain ⟨m8, hm8⟩ : ∃ m, m = pw_tok A (pw_up mm 26 21 (nI 1)) (pw_tE A e) := ⟨_, rfl⟩
    rw [← hm8]
    have T8 : TK A m8 (pw_tE A e) := by rw [hm8]; exact pw_tok_TK
    have W8 : m8 26 21 = nI 1 := by rw [hm8]; exact (pw_tok_6 (by omega)).trans pw_up_gs
    have X8 : MX A m8 := by rw [hm8]; exact MX.t (MX.u hx (by decide))
    have S8 : SD X m8 := by rw [hm8]; exact SD.t (SD.w hX)
    have F8 : pw_rfm mm m8 := by rw [hm8]; exact pw_rfm_k (pw_rfm_6 pw_rfm_r (by decide))
    clear hm8
    show pw_V x m_X8_readName 4 Z 11 [(0, .ref 26), (1, .int (nI 2))] [.int (nI y8)] m8
    refine pw_blk (pc' := 14) [.istore 2, .iload 1, .iconst 4] (by decide +kernel) ?_
    show pw_V x m_X8_readName 4 Z 14 [(2, .int (nI y8)), (0, .ref 26), (1, .int (nI 2))] [.int (nI 4), .int (nI 2)] m8
    refine pw_in_ne (tgt := 21) (off := 7) (by omega) (by omega) (by decide +kernel) (by decide) (fun _ => ?_) (fun h => by omega)
    refine pw_blk (pc' := 25) [.aload 0, .iconst 0, .iconst (9)] (by decide +kernel) ?_
    show pw_V x m_X8_readName 4 Z 25 [(2, .int (nI y8)), (0, .ref 26), (1, .int (nI 2))] [.int (nI 9), .int (nI 0), .ref 26] m8
    refine pw_cV (vs := [.int (nI 0), .int (nI 9)]) (rest := []) k_X8_number (c_mnumb (A := A) m8 X8 (pw_tE A e) (by omega) T8 b21 hok true W8 0 10 (nI 9) (by decide) (by omega) (by omega)) l_8_145 rfl rfl rfl rfl (by omega) (Nat.le_of_ble_eq_true rfl) (by decide +kernel) ?_
    rintro _ m1 ⟨rfl, e1⟩
    rw [e1]
    clear e1 m1
    show pw_V x m_X8_readName 4 Z 28 [(2, .int (nI y8)), (0, .ref 26), (1, .int (nI 2))] [.int (pw_nuR A (pw_tE A e) 0 10 true)] (pw_nuM A m8 (pw_tE A e) 0 10 true)
    by_cases c25 : pw_rgb 0 10 (pw_tN A (pw_tE A e)) = true
    · obtain ⟨y25, ey25, ya25, yb25⟩ := pw_rgb_t c25 (by omega) (by omega)
      rw [show pw_nuR A (pw_tE A e) 0 10 true = nI y25 from by unfold pw_nuR pw_nuC; rw [c25, ← ey25]; rfl, show pw_nuM A m8 (pw_tE A e) 0 10 true = pw_tok A (pw_up m8 26 21 (nI 1)) (pw_tE A (pw_tE A e)) from by unfold pw_nuM pw_nuC; rw [c25]; rfl]
      have w25 := pw_tb1 (A := A) (e := pw_tE A (pw_tE A e)) (by omega)
      obtain ⟨m25, hm25⟩ : ∃ m, m = pw_tok A (pw_up m8 26 21 (nI 1)) (pw_tE A (pw_tE A e)) := ⟨_, rfl⟩
      rw [← hm25]
      have T25 : TK A m25 (pw_tE A (pw_tE A e)) := by rw [hm25]; exact pw_tok_TK
      have W25 : m25 26 21 = nI 1 := by rw [hm25]; exact (pw_tok_6 (by omega)).trans pw_up_gs
      have X25 : MX A m25 := by rw [hm25]; exact MX.t (MX.u X8 (by decide))
      have S25 : SD X m25 := by rw [hm25]; exact SD.t (SD.w S8)
      have F25 : pw_rfm mm m25 := by rw [hm25]; exact pw_rfm_k (pw_rfm_6 F8 (by decide))
      clear hm25
      show pw_V x m_X8_readName 4 Z 28 [(2, .int (nI y8)), (0, .ref 26), (1, .int (nI 2))] [.int (nI y25)] m25
      refine pw_blk (pc' := 33) [.istore 3, .aload 0, .getfield 821] (by decide +kernel) ?_
      show pw_V x m_X8_readName 4 Z 33 [(3, .int (nI y25)), (2, .int (nI y8)), (0, .ref 26), (1, .int (nI 2))] [.int (m25 26 21)] m25
      rw [show m25 26 21 = nI 1 from W25]
      refine pw_iz_eq (tgt := 56) (off := 23) (by omega) (by decide +kernel) (by decide) (fun h => by omega) (fun _ => ?_)
      refine pw_blk (pc' := 56) [.aload 0, .getfield 824, .iconst 2, .iload 2, .imul, .iload 1, .iastore, .aload 0, .getfield 824, .iconst 2, .iload 2, .imul, .iconst 1, .iadd, .iload 3, .iastore] (by decide +kernel) ?_
      refine ⟨(2 * y8), (show (nI 2) * (nI y8) = nI (2 * y8) from by rw [show (nI 2) * (nI y8) = nI (2 * y8) from pk_mul _ _]), by omega, ?_⟩
      refine ⟨((2 * y8) + 1), (show ((nI 2) * (nI y8)) + (nI 1) = nI ((2 * y8) + 1) from by rw [show (nI 2) * (nI y8) = nI (2 * y8) from pk_mul _ _, show (nI (2 * y8)) + (nI 1) = nI ((2 * y8) + 1) from nI_add _ _]), by omega, ?_⟩
      show pw_V x m_X8_readName 4 Z 56 [(3, .int (nI y25)), (2, .int (nI y8)), (0, .ref 26), (1, .int (nI 2))] [] (pw_up (pw_up m25 36 (2 * y8) (nI 2)) 36 ((2 * y8) + 1) (nI y25))
      rw [← hZ]
      refine pw_rv (by decide +kernel) ?_
      have hr : pw_rest A s k 2 e = (some (2, y8, y25), (pw_tE A (pw_tE A e))) := by
        unfold pw_rest
        rw [if_neg (show ¬ pw_nb 2 < 1 from by decide), if_pos (show pw_rgb (pw_le_ 2) (pw_mf s k 2) (pw_tN A e) = true from by rw [hle, hmf]; exact c8), if_neg (show ¬ pw_nb 2 < 2 from by decide), if_pos ⟨show pw_rgb 0 (pw_ms k 2) (pw_tN A (pw_tE A e)) = true from by rw [hms]; exact c25, fun z => absurd z.1 (by decide)⟩, ey8, ey25, pw_c_nI (show y8 < 2 ^ 31 by omega), pw_c_nI (show y25 < 2 ^ 31 by omega)]
      exact ⟨rfl, pw_rp_ok hr (TK.c (TK.c T25 (by decide)) (by decide)) ((pw_up_o6 (by decide)).trans ((pw_up_o6 (by decide)).trans W25)) (pw_rfm_c (pw_rfm_c F25 (by decide)) (by decide)) (show SD (G_o1 X (2, y8, y25)) _ from by unfold G_o1; rw [show G_ob X 2 (nI y8) (nI y25) = G_ns X y8 (nI 2) (nI y25) from by show G_ns X (pw_c (nI y8)) _ _ = _; rw [pw_c_nI (by omega)]]; exact SD.ns S25 (by omega))⟩
    · rw [show pw_nuR A (pw_tE A e) 0 10 true = nI 0 from by unfold pw_nuR pw_nuC; rw [Bool.true_and, if_neg c25], show pw_nuM A m8 (pw_tE A e) 0 10 true = pw_up m8 26 21 (nI 0) from by unfold pw_nuM pw_nuC; rw [Bool.true_and, if_neg c25]]
      obtain ⟨m25, hm25⟩ : ∃ m, m = pw_up m8 26 21 (nI 0) := ⟨_, rfl⟩
      rw [← hm25]
      have T25 : TK A m25 (pw_tE A e) := by rw [hm25]; exact (TK.u T8)
      have W25 : m25 26 21 = nI 0 := by rw [hm25]; exact pw_up_gs
      have X25 : MX A m25 := by rw [hm25]; exact MX.u X8 (by decide)
      have S25 : SD X m25 := by rw [hm25]; exact SD.w S8
      have F25 : pw_rfm mm m25 := by rw [hm25]; exact pw_rfm_6 F8 (by decide)
      clear hm25
      show pw_V x m_X8_readName 4 Z 28 [(2, .int (nI y8)), (0, .ref 26), (1, .int (nI 2))] [.int (nI 0)] m25
      refine pw_blk (pc' := 33) [.istore 3, .aload 0, .getfield 821] (by decide +kernel) ?_
      show pw_V x m_X8_readName 4 Z 33 [(3, .int (nI 0)), (2, .int (nI y8)), (0, .ref 26), (1, .int (nI 2))] [.int (m25 26 21)] m25
      rw [show m25 26 21 = nI 0 from W25]
      refine pw_iz_eq (tgt := 56) (off := 23) (by omega) (by decide +kernel) (by decide) (fun _ => ?_) (fun h => by omega)
      rw [← hZ]
      refine pw_rv (by decide +kernel) ?_
      have hr : pw_rest A s k 2 e = (none, (pw_tE A e)) := by
        unfold pw_rest
        rw [if_neg (show ¬ pw_nb 2 < 1 from by decide), if_pos (show pw_rgb (pw_le_ 2) (pw_mf s k 2) (pw_tN A e) = true from by rw [hle, hmf]; exact c8), if_neg (show ¬ pw_nb 2 < 2 from by decide), if_neg (fun z => c25 (by rw [hms] at z; exact z.1))]
      exact ⟨rfl, pw_rp_no hr T25 W25 F25⟩
  · rw [show pw_nuR A e 0 s true = nI 0 from by unfold pw_nuR pw_nuC; rw [Bool.true_and, if_neg c8], show pw_nuM A mm e 0 s true = pw_up mm 26 21 (nI 0) from by unfold pw_nuM pw_nuC; rw [Bool.true_and, if_neg c8]]
    obtain ⟨m8, hm8⟩ : ∃ m, m = pw_up mm 26 21 (nI 0) := ⟨_, rfl⟩
    rw [← hm8]
    have T8 : TK A m8 e := by rw [hm8]; exact (TK.u hT)
    have W8 : m8 26 21 = nI 0 := by rw [hm8]; exact pw_up_gs
    have X8 : MX A m8 := by rw [hm8]; exact MX.u hx (by decide)
    have S8 : SD X m8 := by rw [hm8]; exact SD.w hX
    have F8 : pw_rfm mm m8 := by rw [hm8]; exact pw_rfm_6 pw_rfm_r (by decide)
    clear hm8
    show pw_V x m_X8_readName 4 Z 11 [(0, .ref 26), (1, .int (nI 2))] [.int (nI 0)] m8
    refine pw_blk (pc' := 14) [.istore 2, .iload 1, .iconst 4] (by decide +kernel) ?_
    show pw_V x m_X8_readName 4 Z 14 [(2, .int (nI 0)), (0, .ref 26), (1, .int (nI 2))] [.int (nI 4), .int (nI 2)] m8
    refine pw_in_ne (tgt := 21) (off := 7) (by omega) (by omega) (by decide +kernel) (by decide) (fun _ => ?_) (fun h => by omega)
    refine pw_blk (pc' := 25) [.aload 0, .iconst 0, .iconst (9)] (by decide +kernel) ?_
    show pw_V x m_X8_readName 4 Z 25 [(2, .int (nI 0)), (0, .ref 26), (1, .int (nI 2))] [.int (nI 9), .int (nI 0), .ref 26] m8
    refine pw_cV (vs := [.int (nI 0), .int (nI 9)]) (rest := []) k_X8_number (c_mnumb (A := A) m8 X8 e (by omega) T8 b21 hok false W8 0 10 (nI 9) (by decide) (by omega) (by omega)) l_8_145 rfl rfl rfl rfl (by omega) (Nat.le_of_ble_eq_true rfl) (by decide +kernel) ?_
    rintro _ m1 ⟨rfl, e1⟩
    rw [e1]
    clear e1 m1
    show pw_V x m_X8_readName 4 Z 28 [(2, .int (nI 0)), (0, .ref 26), (1, .int (nI 2))] [.int (pw_nuR A e 0 10 false)] (pw_nuM A m8 e 0 10 false)
    rw [show pw_nuR A e 0 10 false = nI 0 from rfl, show pw_nuM A m8 e 0 10 false = pw_up m8 26 21 (nI 0) from rfl]
    obtain ⟨m25, hm25⟩ : ∃ m, m = pw_up m8 26 21 (nI 0) := ⟨_, rfl⟩
    rw [← hm25]
    have T25 : TK A m25 e := by rw [hm25]; exact (TK.u T8)
    have W25 : m25 26 21 = nI 0 := by rw [hm25]; exact pw_up_gs
    have X25 : MX A m25 := by rw [hm25]; exact MX.u X8 (by decide)
    have S25 : SD X m25 := by rw [hm25]; exact SD.w S8
    have F25 : pw_rfm mm m25 := by rw [hm25]; exact pw_rfm_6 F8 (by decide)
    clear hm25
    refine pw_blk (pc' := 33) [.istore 3, .aload 0, .getfield 821] (by decide +kernel) ?_
    show pw_V x m_X8_readName 4 Z 33 [(3, .int (nI 0)), (2, .int (nI 0)), (0, .ref 26), (1, .int (nI 2))] [.int (m25 26 21)] m25
    rw [show m25 26 21 = nI 0 from W25]
    refine pw_iz_eq (tgt := 56) (off := 23) (by omega) (by decide +kernel) (by decide) (fun _ => ?_) (fun h => by omega)
    rw [← hZ]
    refine pw_rv (by decide +kernel) ?_
    have hr : pw_rest A s k 2 e = (none, e) := by
      unfold pw_rest
      rw [if_neg (show ¬ pw_nb 2 < 1 from by decide), if_neg (fun z => c8 (by rw [hle, hmf] at z; exact z))]
    exact ⟨rfl, pw_rp_no hr T25 W25 F25⟩

set_option maxHeartbeats 4000000 in
set_option maxRecDepth 100000 in
theorem c_mrName3 {A : pw_m} (mm : pw_m) (hx : MX A mm) (hok : pw_ok A) (X : pw_m) (hX : SD X mm) (s k : Nat) (hs : X 4 0 = nI s) (hk : X 4 1 = nI k) (hs8 : s ≤ 8) (hk6 : k ≤ 6) (e : Nat) (he2 : e ≤ pw_g A 2 1) (hT : TK A mm e) (hw1 : mm 26 21 = nI 1) : pw_Ct 4 yX8_readName m_X8_readName [.ref 26, .int (nI 3)] mm (fun r m' => r = none ∧ pw_rp A X mm m' (pw_rest A s k 3 e)) := by
  refine pw_ct (by decide +kernel) rfl (Nat.le_of_ble_eq_true rfl) (fun x => ?_)
  generalize hZ : pw_Z x _ = Z
  have b21 := pw_b21 hok
  have z0 := pw_tb1 he2
  have hle : pw_le_ 3 = 0 := rfl
  have hmf : pw_mf s k 3 = s := rfl
  have hms : pw_ms k 3 = 10 := rfl
  show pw_V x m_X8_readName 4 Z 0 [(0, .ref 26), (1, .int (nI 3))] [] mm
  refine pw_blk (pc' := 8) [.aload 0, .iconst 0, .aload 0, .getfield 823, .iconst 1, .isub] (by decide +kernel) ?_
  show pw_V x m_X8_readName 4 Z 8 [(0, .ref 26), (1, .int (nI 3))] [.int ((mm 26 23) - (nI 1)), .int (nI 0), .ref 26] mm
  rw [show mm 26 23 = nI s from (hX.1.1.trans hs)]
  refine pw_cV (vs := [.int (nI 0), .int ((nI s) - (nI 1))]) (rest := []) k_X8_number (c_mnumb (A := A) mm hx e (by omega) hT b21 hok true hw1 0 s ((nI s) - (nI 1)) rfl (by omega) (by omega)) l_8_145 rfl rfl rfl rfl (by omega) (Nat.le_of_ble_eq_true rfl) (by decide +kernel) ?_
  rintro _ m1 ⟨rfl, e1⟩
  rw [e1]
  clear e1 m1
  show pw_V x m_X8_readName 4 Z 11 [(0, .ref 26), (1, .int (nI 3))] [.int (pw_nuR A e 0 s true)] (pw_nuM A mm e 0 s true)
  by_cases c8 : pw_rgb 0 s (pw_tN A e) = true
  · obtain ⟨y8, ey8, ya8, yb8⟩ := pw_rgb_t c8 (by omega) (by omega)
    rw [show pw_nuR A e 0 s true = nI y8 from by unfold pw_nuR pw_nuC; rw [c8, ← ey8]; rfl, show pw_nuM A mm e 0 s true = pw_tok A (pw_up mm 26 21 (nI 1)) (pw_tE A e) from by unfold pw_nuM pw_nuC; rw [c8]; rfl]
    have w8 := pw_tb1 (A := A) (e := pw_tE A e) (by omega)
    obtain ⟨m8, hm8⟩ : ∃ m, m = pw_tok A (pw_up mm 26 21 (nI 1)) (pw_tE A e) := ⟨_, rfl⟩
    rw [← hm8]
    have T8 : TK A m8 (pw_tE A e) := by rw [hm8]; exact pw_tok_TK
    have W8 : m8 26 21 = nI 1 := by rw [hm8]; exact (pw_tok_6 (by omega)).trans pw_up_gs
    have X8 : MX A m8 := by rw [hm8]; exact MX.t (MX.u hx (by decide))
    have S8 : SD X m8 := by rw [hm8]; exact SD.t (SD.w hX)
    have F8 : pw_rfm mm m8 := by rw [hm8]; exact pw_rfm_k (pw_rfm_6 pw_rfm_r (by decide))
    clear hm8
    show pw_V x m_X8_readName 4 Z 11 [(0, .ref 26), (1, .int (nI 3))] [.int (nI y8)] m8
    refine pw_blk (pc' := 14) [.istore 2, .iload 1, .iconst 4] (by decide +kernel) ?_
    show pw_V x m_X8_readName 4 Z 14 [(2, .int (nI y8)), (0, .ref 26), (1, .int (nI 3))] [.int (nI 4), .int (nI 3)] m8
    refine pw_in_ne (tgt := 21) (off := 7) (by omega) (by omega) (by decide +kernel) (by decide) (fun _ => ?_) (fun h => by omega)
    refine pw_blk (pc' := 25) [.aload 0, .iconst 0, .iconst (9)] (by decide +kernel) ?_
    show pw_V x m_X8_readName 4 Z 25 [(2, .int (nI y8)), (0, .ref 26), (1, .int (nI 3))] [.int (nI 9), .int (nI 0), .ref 26] m8
    refine pw_cV (vs := [.int (nI 0), .int (nI 9)]) (rest := []) k_X8_number (c_mnumb (A := A) m8 X8 (pw_tE A e) (by omega) T8 b21 hok true W8 0 10 (nI 9) (by decide) (by omega) (by omega)) l_8_145 rfl rfl rfl rfl (by omega) (Nat.le_of_ble_eq_true rfl) (by decide +kernel) ?_
    rintro _ m1 ⟨rfl, e1⟩
    rw [e1]
    clear e1 m1
    show pw_V x m_X8_readName 4 Z 28 [(2, .int (nI y8)), (0, .ref 26), (1, .int (nI 3))] [.int (pw_nuR A (pw_tE A e) 0 10 true)] (pw_nuM A m8 (pw_tE A e) 0 10 true)
    by_cases c25 : pw_rgb 0 10 (pw_tN A (pw_tE A e)) = true
    · obtain ⟨y25, ey25, ya25, yb25⟩ := pw_rgb_t c25 (by omega) (by omega)
      rw [show pw_nuR A (pw_tE A e) 0 10 true = nI y25 from by unfold pw_nuR pw_nuC; rw [c25, ← ey25]; rfl, show pw_nuM A m8 (pw_tE A e) 0 10 true = pw_tok A (pw_up m8 26 21 (nI 1)) (pw_tE A (pw_tE A e)) from by unfold pw_nuM pw_nuC; rw [c25]; rfl]
      have w25 := pw_tb1 (A := A) (e := pw_tE A (pw_tE A e)) (by omega)
      obtain ⟨m25, hm25⟩ : ∃ m, m = pw_tok A (pw_up m8 26 21 (nI 1)) (pw_tE A (pw_tE A e)) := ⟨_, rfl⟩
      rw [← hm25]
      have T25 : TK A m25 (pw_tE A (pw_tE A e)) := by rw [hm25]; exact pw_tok_TK
      have W25 : m25 26 21 = nI 1 := by rw [hm25]; exact (pw_tok_6 (by omega)).trans pw_up_gs
      have X25 : MX A m25 := by rw [hm25]; exact MX.t (MX.u X8 (by decide))
      have S25 : SD X m25 := by rw [hm25]; exact SD.t (SD.w S8)
      have F25 : pw_rfm mm m25 := by rw [hm25]; exact pw_rfm_k (pw_rfm_6 F8 (by decide))
      clear hm25
      show pw_V x m_X8_readName 4 Z 28 [(2, .int (nI y8)), (0, .ref 26), (1, .int (nI 3))] [.int (nI y25)] m25
      refine pw_blk (pc' := 33) [.istore 3, .aload 0, .getfield 821] (by decide +kernel) ?_
      show pw_V x m_X8_readName 4 Z 33 [(3, .int (nI y25)), (2, .int (nI y8)), (0, .ref 26), (1, .int (nI 3))] [.int (m25 26 21)] m25
      rw [show m25 26 21 = nI 1 from W25]
      refine pw_iz_eq (tgt := 56) (off := 23) (by omega) (by decide +kernel) (by decide) (fun h => by omega) (fun _ => ?_)
      refine pw_blk (pc' := 56) [.aload 0, .getfield 824, .iconst 2, .iload 2, .imul, .iload 1, .iastore, .aload 0, .getfield 824, .iconst 2, .iload 2, .imul, .iconst 1, .iadd, .iload 3, .iastore] (by decide +kernel) ?_
      refine ⟨(2 * y8), (show (nI 2) * (nI y8) = nI (2 * y8) from by rw [show (nI 2) * (nI y8) = nI (2 * y8) from pk_mul _ _]), by omega, ?_⟩
      refine ⟨((2 * y8) + 1), (show ((nI 2) * (nI y8)) + (nI 1) = nI ((2 * y8) + 1) from by rw [show (nI 2) * (nI y8) = nI (2 * y8) from pk_mul _ _, show (nI (2 * y8)) + (nI 1) = nI ((2 * y8) + 1) from nI_add _ _]), by omega, ?_⟩
      show pw_V x m_X8_readName 4 Z 56 [(3, .int (nI y25)), (2, .int (nI y8)), (0, .ref 26), (1, .int (nI 3))] [] (pw_up (pw_up m25 36 (2 * y8) (nI 3)) 36 ((2 * y8) + 1) (nI y25))
      rw [← hZ]
      refine pw_rv (by decide +kernel) ?_
      have hr : pw_rest A s k 3 e = (some (3, y8, y25), (pw_tE A (pw_tE A e))) := by
        unfold pw_rest
        rw [if_neg (show ¬ pw_nb 3 < 1 from by decide), if_pos (show pw_rgb (pw_le_ 3) (pw_mf s k 3) (pw_tN A e) = true from by rw [hle, hmf]; exact c8), if_neg (show ¬ pw_nb 3 < 2 from by decide), if_pos ⟨show pw_rgb 0 (pw_ms k 3) (pw_tN A (pw_tE A e)) = true from by rw [hms]; exact c25, fun z => absurd z.1 (by decide)⟩, ey8, ey25, pw_c_nI (show y8 < 2 ^ 31 by omega), pw_c_nI (show y25 < 2 ^ 31 by omega)]
      exact ⟨rfl, pw_rp_ok hr (TK.c (TK.c T25 (by decide)) (by decide)) ((pw_up_o6 (by decide)).trans ((pw_up_o6 (by decide)).trans W25)) (pw_rfm_c (pw_rfm_c F25 (by decide)) (by decide)) (show SD (G_o1 X (3, y8, y25)) _ from by unfold G_o1; rw [show G_ob X 3 (nI y8) (nI y25) = G_ns X y8 (nI 3) (nI y25) from by show G_ns X (pw_c (nI y8)) _ _ = _; rw [pw_c_nI (by omega)]]; exact SD.ns S25 (by omega))⟩
    · rw [show pw_nuR A (pw_tE A e) 0 10 true = nI 0 from by unfold pw_nuR pw_nuC; rw [Bool.true_and, if_neg c25], show pw_nuM A m8 (pw_tE A e) 0 10 true = pw_up m8 26 21 (nI 0) from by unfold pw_nuM pw_nuC; rw [Bool.true_and, if_neg c25]]
      obtain ⟨m25, hm25⟩ : ∃ m, m = pw_up m8 26 21 (nI 0) := ⟨_, rfl⟩
      rw [← hm25]
      have T25 : TK A m25 (pw_tE A e) := by rw [hm25]; exact (TK.u T8)
      have W25 : m25 26 21 = nI 0 := by rw [hm25]; exact pw_up_gs
      have X25 : MX A m25 := by rw [hm25]; exact MX.u X8 (by decide)
      have S25 : SD X m25 := by rw [hm25]; exact SD.w S8
      have F25 : pw_rfm mm m25 := by rw [hm25]; exact pw_rfm_6 F8 (by decide)
      clear hm25
      show pw_V x m_X8_readName 4 Z 28 [(2, .int (nI y8)), (0, .ref 26), (1, .int (nI 3))] [.int (nI 0)] m25
      refine pw_blk (pc' := 33) [.istore 3, .aload 0, .getfield 821] (by decide +kernel) ?_
      show pw_V x m_X8_readName 4 Z 33 [(3, .int (nI 0)), (2, .int (nI y8)), (0, .ref 26), (1, .int (nI 3))] [.int (m25 26 21)] m25
      rw [show m25 26 21 = nI 0 from W25]
      refine pw_iz_eq (tgt := 56) (off := 23) (by omega) (by decide +kernel) (by decide) (fun _ => ?_) (fun h => by omega)
      rw [← hZ]
      refine pw_rv (by decide +kernel) ?_
      have hr : pw_rest A s k 3 e = (none, (pw_tE A e)) := by
        unfold pw_rest
        rw [if_neg (show ¬ pw_nb 3 < 1 from by decide), if_pos (show pw_rgb (pw_le_ 3) (pw_mf s k 3) (pw_tN A e) = true from by rw [hle, hmf]; exact c8), if_neg (show ¬ pw_nb 3 < 2 from by decide), if_neg (fun z => c25 (by rw [hms] at z; exact z.1))]
      exact ⟨rfl, pw_rp_no hr T25 W25 F25⟩
  · rw [show pw_nuR A e 0 s true = nI 0 from by unfold pw_nuR pw_nuC; rw [Bool.true_and, if_neg c8], show pw_nuM A mm e 0 s true = pw_up mm 26 21 (nI 0) from by unfold pw_nuM pw_nuC; rw [Bool.true_and, if_neg c8]]
    obtain ⟨m8, hm8⟩ : ∃ m, m = pw_up mm 26 21 (nI 0) := ⟨_, rfl⟩
    rw [← hm8]
    have T8 : TK A m8 e := by rw [hm8]; exact (TK.u hT)
    have W8 : m8 26 21 = nI 0 := by rw [hm8]; exact pw_up_gs
    have X8 : MX A m8 := by rw [hm8]; exact MX.u hx (by decide)
    have S8 : SD X m8 := by rw [hm8]; exact SD.w hX
    have F8 : pw_rfm mm m8 := by rw [hm8]; exact pw_rfm_6 pw_rfm_r (by decide)
    clear hm8
    show pw_V x m_X8_readName 4 Z 11 [(0, .ref 26), (1, .int (nI 3))] [.int (nI 0)] m8
    refine pw_blk (pc' := 14) [.istore 2, .iload 1, .iconst 4] (by decide +kernel) ?_
    show pw_V x m_X8_readName 4 Z 14 [(2, .int (nI 0)), (0, .ref 26), (1, .int (nI 3))] [.int (nI 4), .int (nI 3)] m8
    refine pw_in_ne (tgt := 21) (off := 7) (by omega) (by omega) (by decide +kernel) (by decide) (fun _ => ?_) (fun h => by omega)
    refine pw_blk (pc' := 25) [.aload 0, .iconst 0, .iconst (9)] (by decide +kernel) ?_
    show pw_V x m_X8_readName 4 Z 25 [(2, .int (nI 0)), (0, .ref 26), (1, .int (nI 3))] [.int (nI 9), .int (nI 0), .ref 26] m8
    refine pw_cV (vs := [.int (nI 0), .int (nI 9)]) (rest := []) k_X8_number (c_mnumb (A := A) m8 X8 e (by omega) T8 b21 hok false W8 0 10 (nI 9) (by decide) (by omega) (by omega)) l_8_145 rfl rfl rfl rfl (by omega) (Nat.le_of_ble_eq_true rfl) (by decide +kernel) ?_
    rintro _ m1 ⟨rfl, e1⟩
    rw [e1]
    clear e1 m1
    show pw_V x m_X8_readName 4 Z 28 [(2, .int (nI 0)), (0, .ref 26), (1, .int (nI 3))] [.int (pw_nuR A e 0 10 false)] (pw_nuM A m8 e 0 10 false)
    rw [show pw_nuR A e 0 10 false = nI 0 from rfl, show pw_nuM A m8 e 0 10 false = pw_up m8 26 21 (nI 0) from rfl]
    obtain ⟨m25, hm25⟩ : ∃ m, m = pw_up m8 26 21 (nI 0) := ⟨_, rfl⟩
    rw [← hm25]
    have T25 : TK A m25 e := by rw [hm25]; exact (TK.u T8)
    have W25 : m25 26 21 = nI 0 := by rw [hm25]; exact pw_up_gs
    have X25 : MX A m25 := by rw [hm25]; exact MX.u X8 (by decide)
    have S25 : SD X m25 := by rw [hm25]; exact SD.w S8
    have F25 : pw_rfm mm m25 := by rw [hm25]; exact pw_rfm_6 F8 (by decide)
    clear hm25
    refine pw_blk (pc' := 33) [.istore 3, .aload 0, .getfield 821] (by decide +kernel) ?_
    show pw_V x m_X8_readName 4 Z 33 [(3, .int (nI 0)), (2, .int (nI 0)), (0, .ref 26), (1, .int (nI 3))] [.int (m25 26 21)] m25
    rw [show m25 26 21 = nI 0 from W25]
    refine pw_iz_eq (tgt := 56) (off := 23) (by omega) (by decide +kernel) (by decide) (fun _ => ?_) (fun h => by omega)
    rw [← hZ]
    refine pw_rv (by decide +kernel) ?_
    have hr : pw_rest A s k 3 e = (none, e) := by
      unfold pw_rest
      rw [if_neg (show ¬ pw_nb 3 < 1 from by decide), if_neg (fun z => c8 (by rw [hle, hmf] at z; exact z))]
    exact ⟨rfl, pw_rp_no hr T25 W25 F25⟩

set_option maxHeartbeats 4000000 in
set_option maxRecDepth 100000 in
theorem c_mrName4 {A : pw_m} (mm : pw_m) (hx : MX A mm) (hok : pw_ok A) (X : pw_m) (hX : SD X mm) (s k : Nat) (hs : X 4 0 = nI s) (hk : X 4 1 = nI k) (hs8 : s ≤ 8) (hk6 : k ≤ 6) (e : Nat) (he2 : e ≤ pw_g A 2 1) (hT : TK A mm e) (hw1 : mm 26 21 = nI 1) : pw_Ct 4 yX8_readName m_X8_readName [.ref 26, .int (nI 4)] mm (fun r m' => r = none ∧ pw_rp A X mm m' (pw_rest A s k 4 e)) := by
  refine pw_ct (by decide +kernel) rfl (Nat.le_of_ble_eq_true rfl) (fun x => ?_)
  generalize hZ : pw_Z x _ = Z
  have b21 := pw_b21 hok
  have z0 := pw_tb1 he2
  have hle : pw_le_ 4 = 0 := rfl
  have hmf : pw_mf s k 4 = s := rfl
  have hms : pw_ms k 4 = 10 := rfl
  show pw_V x m_X8_readName 4 Z 0 [(0, .ref 26), (1, .int (nI 4))] [] mm
  refine pw_blk (pc' := 8) [.aload 0, .iconst 0, .aload 0, .getfield 823, .iconst 1, .isub] (by decide +kernel) ?_
  show pw_V x m_X8_readName 4 Z 8 [(0, .ref 26), (1, .int (nI 4))] [.int ((mm 26 23) - (nI 1)), .int (nI 0), .ref 26] mm
  rw [show mm 26 23 = nI s from (hX.1.1.trans hs)]
  refine pw_cV (vs := [.int (nI 0), .int ((nI s) - (nI 1))]) (rest := []) k_X8_number (c_mnumb (A := A) mm hx e (by omega) hT b21 hok true hw1 0 s ((nI s) - (nI 1)) rfl (by omega) (by omega)) l_8_145 rfl rfl rfl rfl (by omega) (Nat.le_of_ble_eq_true rfl) (by decide +kernel) ?_
  rintro _ m1 ⟨rfl, e1⟩
  rw [e1]
  clear e1 m1
  show pw_V x m_X8_readName 4 Z 11 [(0, .ref 26), (1, .int (nI 4))] [.int (pw_nuR A e 0 s true)] (pw_nuM A mm e 0 s true)
  by_cases c8 : pw_rgb 0 s (pw_tN A e) = true
  · obtain ⟨y8, ey8, ya8, yb8⟩ := pw_rgb_t c8 (by omega) (by omega)
    rw [show pw_nuR A e 0 s true = nI y8 from by unfold pw_nuR pw_nuC; rw [c8, ← ey8]; rfl, show pw_nuM A mm e 0 s true = pw_tok A (pw_up mm 26 21 (nI 1)) (pw_tE A e) from by unfold pw_nuM pw_nuC; rw [c8]; rfl]
    have w8 := pw_tb1 (A := A) (e := pw_tE A e) (by omega)
    obtain ⟨m8, hm8⟩ : ∃ m, m = pw_tok A (pw_up mm 26 21 (nI 1)) (pw_tE A e) := ⟨_, rfl⟩
    rw [← hm8]
    have T8 : TK A m8 (pw_tE A e) := by rw [hm8]; exact pw_tok_TK
    have W8 : m8 26 21 = nI 1 := by rw [hm8]; exact (pw_tok_6 (by omega)).trans pw_up_gs
    have X8 : MX A m8 := by rw [hm8]; exact MX.t (MX.u hx (by decide))
    have S8 : SD X m8 := by rw [hm8]; exact SD.t (SD.w hX)
    have F8 : pw_rfm mm m8 := by rw [hm8]; exact pw_rfm_k (pw_rfm_6 pw_rfm_r (by decide))
    clear hm8
    show pw_V x m_X8_readName 4 Z 11 [(0, .ref 26), (1, .int (nI 4))] [.int (nI y8)] m8
    refine pw_blk (pc' := 14) [.istore 2, .iload 1, .iconst 4] (by decide +kernel) ?_
    show pw_V x m_X8_readName 4 Z 14 [(2, .int (nI y8)), (0, .ref 26), (1, .int (nI 4))] [.int (nI 4), .int (nI 4)] m8
    refine pw_in_ne (tgt := 21) (off := 7) (by omega) (by omega) (by decide +kernel) (by decide) (fun h => by omega) (fun _ => ?_)
    refine pw_blk (pc' := 18) [.iconst 0] (by decide +kernel) ?_
    show pw_V x m_X8_readName 4 Z 18 [(2, .int (nI y8)), (0, .ref 26), (1, .int (nI 4))] [.int (nI 0)] m8
    refine pw_goto (tgt := 28) (off := 10) (by decide +kernel) (by decide) ?_
    refine pw_blk (pc' := 33) [.istore 3, .aload 0, .getfield 821] (by decide +kernel) ?_
    show pw_V x m_X8_readName 4 Z 33 [(3, .int (nI 0)), (2, .int (nI y8)), (0, .ref 26), (1, .int (nI 4))] [.int (m8 26 21)] m8
    rw [show m8 26 21 = nI 1 from W8]
    refine pw_iz_eq (tgt := 56) (off := 23) (by omega) (by decide +kernel) (by decide) (fun h => by omega) (fun _ => ?_)
    refine pw_blk (pc' := 56) [.aload 0, .getfield 824, .iconst 2, .iload 2, .imul, .iload 1, .iastore, .aload 0, .getfield 824, .iconst 2, .iload 2, .imul, .iconst 1, .iadd, .iload 3, .iastore] (by decide +kernel) ?_
    refine ⟨(2 * y8), (show (nI 2) * (nI y8) = nI (2 * y8) from by rw [show (nI 2) * (nI y8) = nI (2 * y8) from pk_mul _ _]), by omega, ?_⟩
    refine ⟨((2 * y8) + 1), (show ((nI 2) * (nI y8)) + (nI 1) = nI ((2 * y8) + 1) from by rw [show (nI 2) * (nI y8) = nI (2 * y8) from pk_mul _ _, show (nI (2 * y8)) + (nI 1) = nI ((2 * y8) + 1) from nI_add _ _]), by omega, ?_⟩
    show pw_V x m_X8_readName 4 Z 56 [(3, .int (nI 0)), (2, .int (nI y8)), (0, .ref 26), (1, .int (nI 4))] [] (pw_up (pw_up m8 36 (2 * y8) (nI 4)) 36 ((2 * y8) + 1) (nI 0))
    rw [← hZ]
    refine pw_rv (by decide +kernel) ?_
    have hr : pw_rest A s k 4 e = (some (4, y8, 0), (pw_tE A e)) := by
      unfold pw_rest
      rw [if_neg (show ¬ pw_nb 4 < 1 from by decide), if_pos (show pw_rgb (pw_le_ 4) (pw_mf s k 4) (pw_tN A e) = true from by rw [hle, hmf]; exact c8), if_pos (show pw_nb 4 < 2 from by decide), ey8, pw_c_nI (show y8 < 2 ^ 31 by omega)]
    exact ⟨rfl, pw_rp_ok hr (TK.c (TK.c T8 (by decide)) (by decide)) ((pw_up_o6 (by decide)).trans ((pw_up_o6 (by decide)).trans W8)) (pw_rfm_c (pw_rfm_c F8 (by decide)) (by decide)) (show SD (G_o1 X (4, y8, 0)) _ from by unfold G_o1; rw [show G_ob X 4 (nI y8) (nI 0) = G_ns X y8 (nI 4) (nI 0) from by show G_ns X (pw_c (nI y8)) _ _ = _; rw [pw_c_nI (by omega)]]; exact SD.ns S8 (by omega))⟩
  · rw [show pw_nuR A e 0 s true = nI 0 from by unfold pw_nuR pw_nuC; rw [Bool.true_and, if_neg c8], show pw_nuM A mm e 0 s true = pw_up mm 26 21 (nI 0) from by unfold pw_nuM pw_nuC; rw [Bool.true_and, if_neg c8]]
    obtain ⟨m8, hm8⟩ : ∃ m, m = pw_up mm 26 21 (nI 0) := ⟨_, rfl⟩
    rw [← hm8]
    have T8 : TK A m8 e := by rw [hm8]; exact (TK.u hT)
    have W8 : m8 26 21 = nI 0 := by rw [hm8]; exact pw_up_gs
    have X8 : MX A m8 := by rw [hm8]; exact MX.u hx (by decide)
    have S8 : SD X m8 := by rw [hm8]; exact SD.w hX
    have F8 : pw_rfm mm m8 := by rw [hm8]; exact pw_rfm_6 pw_rfm_r (by decide)
    clear hm8
    show pw_V x m_X8_readName 4 Z 11 [(0, .ref 26), (1, .int (nI 4))] [.int (nI 0)] m8
    refine pw_blk (pc' := 14) [.istore 2, .iload 1, .iconst 4] (by decide +kernel) ?_
    show pw_V x m_X8_readName 4 Z 14 [(2, .int (nI 0)), (0, .ref 26), (1, .int (nI 4))] [.int (nI 4), .int (nI 4)] m8
    refine pw_in_ne (tgt := 21) (off := 7) (by omega) (by omega) (by decide +kernel) (by decide) (fun h => by omega) (fun _ => ?_)
    refine pw_blk (pc' := 18) [.iconst 0] (by decide +kernel) ?_
    show pw_V x m_X8_readName 4 Z 18 [(2, .int (nI 0)), (0, .ref 26), (1, .int (nI 4))] [.int (nI 0)] m8
    refine pw_goto (tgt := 28) (off := 10) (by decide +kernel) (by decide) ?_
    refine pw_blk (pc' := 33) [.istore 3, .aload 0, .getfield 821] (by decide +kernel) ?_
    show pw_V x m_X8_readName 4 Z 33 [(3, .int (nI 0)), (2, .int (nI 0)), (0, .ref 26), (1, .int (nI 4))] [.int (m8 26 21)] m8
    rw [show m8 26 21 = nI 0 from W8]
    refine pw_iz_eq (tgt := 56) (off := 23) (by omega) (by decide +kernel) (by decide) (fun _ => ?_) (fun h => by omega)
    rw [← hZ]
    refine pw_rv (by decide +kernel) ?_
    have hr : pw_rest A s k 4 e = (none, e) := by
      unfold pw_rest
      rw [if_neg (show ¬ pw_nb 4 < 1 from by decide), if_neg (fun z => c8 (by rw [hle, hmf] at z; exact z))]
    exact ⟨rfl, pw_rp_no hr T8 W8 F8⟩

set_option maxHeartbeats 4000000 in
set_option maxRecDepth 100000 in
theorem c_mrKnight0 {A : pw_m} (mm : pw_m) (hx : MX A mm) (hok : pw_ok A) (X : pw_m) (hX : SD X mm) (s k : Nat) (hs : X 4 0 = nI s) (hk : X 4 1 = nI k) (hs8 : s ≤ 8) (hk6 : k ≤ 6) (e : Nat) (he2 : e ≤ pw_g A 2 1) (hT : TK A mm e) (hw1 : mm 26 21 = nI 1) (hkk : k < 6) : pw_Ct 4 yX8_readKnight m_X8_readKnight [.ref 26, .int (nI 0)] mm (fun r m' => r = none ∧ pw_rp A X mm m' (pw_rest A s k 5 e)) := by
  refine pw_ct (by decide +kernel) rfl (Nat.le_of_ble_eq_true rfl) (fun x => ?_)
  generalize hZ : pw_Z x _ = Z
  have b21 := pw_b21 hok
  have z0 := pw_tb1 he2
  have hle : pw_le_ 5 = 0 := rfl
  have hmf : pw_mf s k 5 = 10 := rfl
  have hms : pw_ms k 5 = 10 := rfl
  show pw_V x m_X8_readKnight 4 Z 0 [(0, .ref 26), (1, .int (nI 0))] [] mm
  refine pw_blk (pc' := 4) [.aload 0, .iconst 0, .iconst (9)] (by decide +kernel) ?_
  show pw_V x m_X8_readKnight 4 Z 4 [(0, .ref 26), (1, .int (nI 0))] [.int (nI 9), .int (nI 0), .ref 26] mm
  refine pw_cV (vs := [.int (nI 0), .int (nI 9)]) (rest := []) k_X8_number (c_mnumb (A := A) mm hx e (by omega) hT b21 hok true hw1 0 10 (nI 9) (by decide) (by omega) (by omega)) l_8_145 rfl rfl rfl rfl (by omega) (Nat.le_of_ble_eq_true rfl) (by decide +kernel) ?_
  rintro _ m1 ⟨rfl, e1⟩
  rw [e1]
  clear e1 m1
  show pw_V x m_X8_readKnight 4 Z 7 [(0, .ref 26), (1, .int (nI 0))] [.int (pw_nuR A e 0 10 true)] (pw_nuM A mm e 0 10 true)
  by_cases c4 : pw_rgb 0 10 (pw_tN A e) = true
  · obtain ⟨y4, ey4, ya4, yb4⟩ := pw_rgb_t c4 (by omega) (by omega)
    rw [show pw_nuR A e 0 10 true = nI y4 from by unfold pw_nuR pw_nuC; rw [c4, ← ey4]; rfl, show pw_nuM A mm e 0 10 true = pw_tok A (pw_up mm 26 21 (nI 1)) (pw_tE A e) from by unfold pw_nuM pw_nuC; rw [c4]; rfl]
    have w4 := pw_tb1 (A := A) (e := pw_tE A e) (by omega)
    obtain ⟨m4, hm4⟩ : ∃ m, m = pw_tok A (pw_up mm 26 21 (nI 1)) (pw_tE A e) := ⟨_, rfl⟩
    rw [← hm4]
    have T4 : TK A m4 (pw_tE A e) := by rw [hm4]; exact pw_tok_TK
    have W4 : m4 26 21 = nI 1 := by rw [hm4]; exact (pw_tok_6 (by omega)).trans pw_up_gs
    have X4 : MX A m4 := by rw [hm4]; exact MX.t (MX.u hx (by decide))
    have S4 : SD X m4 := by rw [hm4]; exact SD.t (SD.w hX)
    have F4 : pw_rfm mm m4 := by rw [hm4]; exact pw_rfm_k (pw_rfm_6 pw_rfm_r (by decide))
    clear hm4
    show pw_V x m_X8_readKnight 4 Z 7 [(0, .ref 26), (1, .int (nI 0))] [.int (nI y4)] m4
    refine pw_blk (pc' := 12) [.istore 2, .aload 0, .iconst 0, .iconst (9)] (by decide +kernel) ?_
    show pw_V x m_X8_readKnight 4 Z 12 [(2, .int (nI y4)), (0, .ref 26), (1, .int (nI 0))] [.int (nI 9), .int (nI 0), .ref 26] m4
    refine pw_cV (vs := [.int (nI 0), .int (nI 9)]) (rest := []) k_X8_number (c_mnumb (A := A) m4 X4 (pw_tE A e) (by omega) T4 b21 hok true W4 0 10 (nI 9) (by decide) (by omega) (by omega)) l_8_145 rfl rfl rfl rfl (by omega) (Nat.le_of_ble_eq_true rfl) (by decide +kernel) ?_
    rintro _ m1 ⟨rfl, e1⟩
    rw [e1]
    clear e1 m1
    show pw_V x m_X8_readKnight 4 Z 15 [(2, .int (nI y4)), (0, .ref 26), (1, .int (nI 0))] [.int (pw_nuR A (pw_tE A e) 0 10 true)] (pw_nuM A m4 (pw_tE A e) 0 10 true)
    by_cases c12 : pw_rgb 0 10 (pw_tN A (pw_tE A e)) = true
    · obtain ⟨y12, ey12, ya12, yb12⟩ := pw_rgb_t c12 (by omega) (by omega)
      rw [show pw_nuR A (pw_tE A e) 0 10 true = nI y12 from by unfold pw_nuR pw_nuC; rw [c12, ← ey12]; rfl, show pw_nuM A m4 (pw_tE A e) 0 10 true = pw_tok A (pw_up m4 26 21 (nI 1)) (pw_tE A (pw_tE A e)) from by unfold pw_nuM pw_nuC; rw [c12]; rfl]
      have w12 := pw_tb1 (A := A) (e := pw_tE A (pw_tE A e)) (by omega)
      obtain ⟨m12, hm12⟩ : ∃ m, m = pw_tok A (pw_up m4 26 21 (nI 1)) (pw_tE A (pw_tE A e)) := ⟨_, rfl⟩
      rw [← hm12]
      have T12 : TK A m12 (pw_tE A (pw_tE A e)) := by rw [hm12]; exact pw_tok_TK
      have W12 : m12 26 21 = nI 1 := by rw [hm12]; exact (pw_tok_6 (by omega)).trans pw_up_gs
      have X12 : MX A m12 := by rw [hm12]; exact MX.t (MX.u X4 (by decide))
      have S12 : SD X m12 := by rw [hm12]; exact SD.t (SD.w S4)
      have F12 : pw_rfm mm m12 := by rw [hm12]; exact pw_rfm_k (pw_rfm_6 F4 (by decide))
      clear hm12
      show pw_V x m_X8_readKnight 4 Z 15 [(2, .int (nI y4)), (0, .ref 26), (1, .int (nI 0))] [.int (nI y12)] m12
      refine pw_blk (pc' := 20) [.istore 3, .aload 0, .getfield 821] (by decide +kernel) ?_
      show pw_V x m_X8_readKnight 4 Z 20 [(3, .int (nI y12)), (2, .int (nI y4)), (0, .ref 26), (1, .int (nI 0))] [.int (m12 26 21)] m12
      rw [show m12 26 21 = nI 1 from W12]
      refine pw_iz_eq (tgt := 73) (off := 53) (by omega) (by decide +kernel) (by decide) (fun h => by omega) (fun _ => ?_)
      refine pw_blk (pc' := 73) [.aload 0, .getfield 826, .iconst 3, .aload 0, .getfield 825, .imul, .iload 1, .iastore, .aload 0, .getfield 826, .iconst 3, .aload 0, .getfield 825, .imul, .iconst 1, .iadd, .iload 2, .iastore, .aload 0, .getfield 826, .iconst 3, .aload 0, .getfield 825, .imul, .iconst 2, .iadd, .iload 3, .iastore, .aload 0, .dup, .getfield 825, .iconst 1, .iadd, .putfield 825] (by decide +kernel) ?_
      refine ⟨(3 * k), (show (nI 3) * (m12 26 25) = nI (3 * k) from by rw [show m12 26 25 = nI k from (S12.1.2.trans hk), show (nI 3) * (nI k) = nI (3 * k) from pk_mul _ _]), by omega, ?_⟩
      refine ⟨((3 * k) + 1), (show ((nI 3) * (m12 26 25)) + (nI 1) = nI ((3 * k) + 1) from by rw [show m12 26 25 = nI k from (S12.1.2.trans hk), show (nI 3) * (nI k) = nI (3 * k) from pk_mul _ _, show (nI (3 * k)) + (nI 1) = nI ((3 * k) + 1) from nI_add _ _]), by omega, ?_⟩
      refine ⟨((3 * k) + 2), (show ((nI 3) * (m12 26 25)) + (nI 2) = nI ((3 * k) + 2) from by rw [show m12 26 25 = nI k from (S12.1.2.trans hk), show (nI 3) * (nI k) = nI (3 * k) from pk_mul _ _, show (nI (3 * k)) + (nI 2) = nI ((3 * k) + 2) from nI_add _ _]), by omega, ?_⟩
      show pw_V x m_X8_readKnight 4 Z 73 [(3, .int (nI y12)), (2, .int (nI y4)), (0, .ref 26), (1, .int (nI 0))] [] (pw_up (pw_up (pw_up (pw_up m12 37 (3 * k) (nI 0)) 37 ((3 * k) + 1) (nI y4)) 37 ((3 * k) + 2) (nI y12)) 26 25 ((m12 26 25) + (nI 1)))
      rw [show m12 26 25 = nI k from (S12.1.2.trans hk)]
      rw [show (nI k) + (nI 1) = nI (k + 1) from nI_add _ _]
      rw [← hZ]
      refine pw_rv (by decide +kernel) ?_
      have hr : pw_rest A s k 5 e = (some (5, y4, y12), (pw_tE A (pw_tE A e))) := by
        unfold pw_rest
        rw [if_neg (show ¬ pw_nb 5 < 1 from by decide), if_pos (show pw_rgb (pw_le_ 5) (pw_mf s k 5) (pw_tN A e) = true from by rw [hle, hmf]; exact c4), if_neg (show ¬ pw_nb 5 < 2 from by decide), if_pos ⟨show pw_rgb 0 (pw_ms k 5) (pw_tN A (pw_tE A e)) = true from by rw [hms]; exact c12, fun z => absurd z.1 (by decide)⟩, ey4, ey12, pw_c_nI (show y4 < 2 ^ 31 by omega), pw_c_nI (show y12 < 2 ^ 31 by omega)]
      exact ⟨rfl, pw_rp_ok hr (TK.v (TK.c (TK.c (TK.c T12 (by decide)) (by decide)) (by decide)) (by decide)) ((pw_up_26 (by decide)).trans ((pw_up_o6 (by decide)).trans ((pw_up_o6 (by decide)).trans ((pw_up_o6 (by decide)).trans W12)))) (pw_rfm_6 (pw_rfm_c (pw_rfm_c (pw_rfm_c F12 (by decide)) (by decide)) (by decide)) (by decide)) (show SD (G_o1 X (5, y4, y12)) _ from by unfold G_o1; rw [show G_ob X 5 (nI y4) (nI y12) = G_ak X k (nI 0) (nI y4) (nI y12) from by show G_ak X (pw_c (X 4 1)) _ _ _ = _; rw [hk, pw_c_nI (by omega)]]; exact SD.ak S12 hkk)⟩
    · rw [show pw_nuR A (pw_tE A e) 0 10 true = nI 0 from by unfold pw_nuR pw_nuC; rw [Bool.true_and, if_neg c12], show pw_nuM A m4 (pw_tE A e) 0 10 true = pw_up m4 26 21 (nI 0) from by unfold pw_nuM pw_nuC; rw [Bool.true_and, if_neg c12]]
      obtain ⟨m12, hm12⟩ : ∃ m, m = pw_up m4 26 21 (nI 0) := ⟨_, rfl⟩
      rw [← hm12]
      have T12 : TK A m12 (pw_tE A e) := by rw [hm12]; exact (TK.u T4)
      have W12 : m12 26 21 = nI 0 := by rw [hm12]; exact pw_up_gs
      have X12 : MX A m12 := by rw [hm12]; exact MX.u X4 (by decide)
      have S12 : SD X m12 := by rw [hm12]; exact SD.w S4
      have F12 : pw_rfm mm m12 := by rw [hm12]; exact pw_rfm_6 F4 (by decide)
      clear hm12
      show pw_V x m_X8_readKnight 4 Z 15 [(2, .int (nI y4)), (0, .ref 26), (1, .int (nI 0))] [.int (nI 0)] m12
      refine pw_blk (pc' := 20) [.istore 3, .aload 0, .getfield 821] (by decide +kernel) ?_
      show pw_V x m_X8_readKnight 4 Z 20 [(3, .int (nI 0)), (2, .int (nI y4)), (0, .ref 26), (1, .int (nI 0))] [.int (m12 26 21)] m12
      rw [show m12 26 21 = nI 0 from W12]
      refine pw_iz_eq (tgt := 73) (off := 53) (by omega) (by decide +kernel) (by decide) (fun _ => ?_) (fun h => by omega)
      rw [← hZ]
      refine pw_rv (by decide +kernel) ?_
      have hr : pw_rest A s k 5 e = (none, (pw_tE A e)) := by
        unfold pw_rest
        rw [if_neg (show ¬ pw_nb 5 < 1 from by decide), if_pos (show pw_rgb (pw_le_ 5) (pw_mf s k 5) (pw_tN A e) = true from by rw [hle, hmf]; exact c4), if_neg (show ¬ pw_nb 5 < 2 from by decide), if_neg (fun z => c12 (by rw [hms] at z; exact z.1))]
      exact ⟨rfl, pw_rp_no hr T12 W12 F12⟩
  · rw [show pw_nuR A e 0 10 true = nI 0 from by unfold pw_nuR pw_nuC; rw [Bool.true_and, if_neg c4], show pw_nuM A mm e 0 10 true = pw_up mm 26 21 (nI 0) from by unfold pw_nuM pw_nuC; rw [Bool.true_and, if_neg c4]]
    obtain ⟨m4, hm4⟩ : ∃ m, m = pw_up mm 26 21 (nI 0) := ⟨_, rfl⟩
    rw [← hm4]
    have T4 : TK A m4 e := by rw [hm4]; exact (TK.u hT)
    have W4 : m4 26 21 = nI 0 := by rw [hm4]; exact pw_up_gs
    have X4 : MX A m4 := by rw [hm4]; exact MX.u hx (by decide)
    have S4 : SD X m4 := by rw [hm4]; exact SD.w hX
    have F4 : pw_rfm mm m4 := by rw [hm4]; exact pw_rfm_6 pw_rfm_r (by decide)
    clear hm4
    show pw_V x m_X8_readKnight 4 Z 7 [(0, .ref 26), (1, .int (nI 0))] [.int (nI 0)] m4
    refine pw_blk (pc' := 12) [.istore 2, .aload 0, .iconst 0, .iconst (9)] (by decide +kernel) ?_
    show pw_V x m_X8_readKnight 4 Z 12 [(2, .int (nI 0)), (0, .ref 26), (1, .int (nI 0))] [.int (nI 9), .int (nI 0), .ref 26] m4
    refine pw_cV (vs := [.int (nI 0), .int (nI 9)]) (rest := []) k_X8_number (c_mnumb (A := A) m4 X4 e (by omega) T4 b21 hok false W4 0 10 (nI 9) (by decide) (by omega) (by omega)) l_8_145 rfl rfl rfl rfl (by omega) (Nat.le_of_ble_eq_true rfl) (by decide +kernel) ?_
    rintro _ m1 ⟨rfl, e1⟩
    rw [e1]
    clear e1 m1
    show pw_V x m_X8_readKnight 4 Z 15 [(2, .int (nI 0)), (0, .ref 26), (1, .int (nI 0))] [.int (pw_nuR A e 0 10 false)] (pw_nuM A m4 e 0 10 false)
    rw [show pw_nuR A e 0 10 false = nI 0 from rfl, show pw_nuM A m4 e 0 10 false = pw_up m4 26 21 (nI 0) from rfl]
    obtain ⟨m12, hm12⟩ : ∃ m, m = pw_up m4 26 21 (nI 0) := ⟨_, rfl⟩
    rw [← hm12]
    have T12 : TK A m12 e := by rw [hm12]; exact (TK.u T4)
    have W12 : m12 26 21 = nI 0 := by rw [hm12]; exact pw_up_gs
    have X12 : MX A m12 := by rw [hm12]; exact MX.u X4 (by decide)
    have S12 : SD X m12 := by rw [hm12]; exact SD.w S4
    have F12 : pw_rfm mm m12 := by rw [hm12]; exact pw_rfm_6 F4 (by decide)
    clear hm12
    refine pw_blk (pc' := 20) [.istore 3, .aload 0, .getfield 821] (by decide +kernel) ?_
    show pw_V x m_X8_readKnight 4 Z 20 [(3, .int (nI 0)), (2, .int (nI 0)), (0, .ref 26), (1, .int (nI 0))] [.int (m12 26 21)] m12
    rw [show m12 26 21 = nI 0 from W12]
    refine pw_iz_eq (tgt := 73) (off := 53) (by omega) (by decide +kernel) (by decide) (fun _ => ?_) (fun h => by omega)
    rw [← hZ]
    refine pw_rv (by decide +kernel) ?_
    have hr : pw_rest A s k 5 e = (none, e) := by
      unfold pw_rest
      rw [if_neg (show ¬ pw_nb 5 < 1 from by decide), if_neg (fun z => c4 (by rw [hle, hmf] at z; exact z))]
    exact ⟨rfl, pw_rp_no hr T12 W12 F12⟩

set_option maxHeartbeats 4000000 in
set_option maxRecDepth 100000 in
theorem c_mrKnight1 {A : pw_m} (mm : pw_m) (hx : MX A mm) (hok : pw_ok A) (X : pw_m) (hX : SD X mm) (s k : Nat) (hs : X 4 0 = nI s) (hk : X 4 1 = nI k) (hs8 : s ≤ 8) (hk6 : k ≤ 6) (e : Nat) (he2 : e ≤ pw_g A 2 1) (hT : TK A mm e) (hw1 : mm 26 21 = nI 1) (hkk : k < 6) : pw_Ct 4 yX8_readKnight m_X8_readKnight [.ref 26, .int (nI 1)] mm (fun r m' => r = none ∧ pw_rp A X mm m' (pw_rest A s k 6 e)) := by
  refine pw_ct (by decide +kernel) rfl (Nat.le_of_ble_eq_true rfl) (fun x => ?_)
  generalize hZ : pw_Z x _ = Z
  have b21 := pw_b21 hok
  have z0 := pw_tb1 he2
  have hle : pw_le_ 6 = 0 := rfl
  have hmf : pw_mf s k 6 = 10 := rfl
  have hms : pw_ms k 6 = 10 := rfl
  show pw_V x m_X8_readKnight 4 Z 0 [(0, .ref 26), (1, .int (nI 1))] [] mm
  refine pw_blk (pc' := 4) [.aload 0, .iconst 0, .iconst (9)] (by decide +kernel) ?_
  show pw_V x m_X8_readKnight 4 Z 4 [(0, .ref 26), (1, .int (nI 1))] [.int (nI 9), .int (nI 0), .ref 26] mm
  refine pw_cV (vs := [.int (nI 0), .int (nI 9)]) (rest := []) k_X8_number (c_mnumb (A := A) mm hx e (by omega) hT b21 hok true hw1 0 10 (nI 9) (by decide) (by omega) (by omega)) l_8_145 rfl rfl rfl rfl (by omega) (Nat.le_of_ble_eq_true rfl) (by decide +kernel) ?_
  rintro _ m1 ⟨rfl, e1⟩
  rw [e1]
  clear e1 m1
  show pw_V x m_X8_readKnight 4 Z 7 [(0, .ref 26), (1, .int (nI 1))] [.int (pw_nuR A e 0 10 true)] (pw_nuM A mm e 0 10 true)
  by_cases c4 : pw_rgb 0 10 (pw_tN A e) = true
  · obtain ⟨y4, ey4, ya4, yb4⟩ := pw_rgb_t c4 (by omega) (by omega)
    rw [show pw_nuR A e 0 10 true = nI y4 from by unfold pw_nuR pw_nuC; rw [c4, ← ey4]; rfl, show pw_nuM A mm e 0 10 true = pw_tok A (pw_up mm 26 21 (nI 1)) (pw_tE A e) from by unfold pw_nuM pw_nuC; rw [c4]; rfl]
    have w4 := pw_tb1 (A := A) (e := pw_tE A e) (by omega)
    obtain ⟨m4, hm4⟩ : ∃ m, m = pw_tok A (pw_up mm 26 21 (nI 1)) (pw_tE A e) := ⟨_, rfl⟩
    rw [← hm4]
    have T4 : TK A m4 (pw_tE A e) := by rw [hm4]; exact pw_tok_TK
    have W4 : m4 26 21 = nI 1 := by rw [hm4]; exact (pw_tok_6 (by omega)).trans pw_up_gs
    have X4 : MX A m4 := by rw [hm4]; exact MX.t (MX.u hx (by decide))
    have S4 : SD X m4 := by rw [hm4]; exact SD.t (SD.w hX)
    have F4 : pw_rfm mm m4 := by rw [hm4]; exact pw_rfm_k (pw_rfm_6 pw_rfm_r (by decide))
    clear hm4
    show pw_V x m_X8_readKnight 4 Z 7 [(0, .ref 26), (1, .int (nI 1))] [.int (nI y4)] m4
    refine pw_blk (pc' := 12) [.istore 2, .aload 0, .iconst 0, .iconst (9)] (by decide +kernel) ?_
    show pw_V x m_X8_readKnight 4 Z 12 [(2, .int (nI y4)), (0, .ref 26), (1, .int (nI 1))] [.int (nI 9), .int (nI 0), .ref 26] m4
    refine pw_cV (vs := [.int (nI 0), .int (nI 9)]) (rest := []) k_X8_number (c_mnumb (A := A) m4 X4 (pw_tE A e) (by omega) T4 b21 hok true W4 0 10 (nI 9) (by decide) (by omega) (by omega)) l_8_145 rfl rfl rfl rfl (by omega) (Nat.le_of_ble_eq_true rfl) (by decide +kernel) ?_
    rintro _ m1 ⟨rfl, e1⟩
    rw [e1]
    clear e1 m1
    show pw_V x m_X8_readKnight 4 Z 15 [(2, .int (nI y4)), (0, .ref 26), (1, .int (nI 1))] [.int (pw_nuR A (pw_tE A e) 0 10 true)] (pw_nuM A m4 (pw_tE A e) 0 10 true)
    by_cases c12 : pw_rgb 0 10 (pw_tN A (pw_tE A e)) = true
    · obtain ⟨y12, ey12, ya12, yb12⟩ := pw_rgb_t c12 (by omega) (by omega)
      rw [show pw_nuR A (pw_tE A e) 0 10 true = nI y12 from by unfold pw_nuR pw_nuC; rw [c12, ← ey12]; rfl, show pw_nuM A m4 (pw_tE A e) 0 10 true = pw_tok A (pw_up m4 26 21 (nI 1)) (pw_tE A (pw_tE A e)) from by unfold pw_nuM pw_nuC; rw [c12]; rfl]
      have w12 := pw_tb1 (A := A) (e := pw_tE A (pw_tE A e)) (by omega)
      obtain ⟨m12, hm12⟩ : ∃ m, m = pw_tok A (pw_up m4 26 21 (nI 1)) (pw_tE A (pw_tE A e)) := ⟨_, rfl⟩
      rw [← hm12]
      have T12 : TK A m12 (pw_tE A (pw_tE A e)) := by rw [hm12]; exact pw_tok_TK
      have W12 : m12 26 21 = nI 1 := by rw [hm12]; exact (pw_tok_6 (by omega)).trans pw_up_gs
      have X12 : MX A m12 := by rw [hm12]; exact MX.t (MX.u X4 (by decide))
      have S12 : SD X m12 := by rw [hm12]; exact SD.t (SD.w S4)
      have F12 : pw_rfm mm m12 := by rw [hm12]; exact pw_rfm_k (pw_rfm_6 F4 (by decide))
      clear hm12
      show pw_V x m_X8_readKnight 4 Z 15 [(2, .int (nI y4)), (0, .ref 26), (1, .int (nI 1))] [.int (nI y12)] m12
      refine pw_blk (pc' := 20) [.istore 3, .aload 0, .getfield 821] (by decide +kernel) ?_
      show pw_V x m_X8_readKnight 4 Z 20 [(3, .int (nI y12)), (2, .int (nI y4)), (0, .ref 26), (1, .int (nI 1))] [.int (m12 26 21)] m12
      rw [show m12 26 21 = nI 1 from W12]
      refine pw_iz_eq (tgt := 73) (off := 53) (by omega) (by decide +kernel) (by decide) (fun h => by omega) (fun _ => ?_)
      refine pw_blk (pc' := 73) [.aload 0, .getfield 826, .iconst 3, .aload 0, .getfield 825, .imul, .iload 1, .iastore, .aload 0, .getfield 826, .iconst 3, .aload 0, .getfield 825, .imul, .iconst 1, .iadd, .iload 2, .iastore, .aload 0, .getfield 826, .iconst 3, .aload 0, .getfield 825, .imul, .iconst 2, .iadd, .iload 3, .iastore, .aload 0, .dup, .getfield 825, .iconst 1, .iadd, .putfield 825] (by decide +kernel) ?_
      refine ⟨(3 * k), (show (nI 3) * (m12 26 25) = nI (3 * k) from by rw [show m12 26 25 = nI k from (S12.1.2.trans hk), show (nI 3) * (nI k) = nI (3 * k) from pk_mul _ _]), by omega, ?_⟩
      refine ⟨((3 * k) + 1), (show ((nI 3) * (m12 26 25)) + (nI 1) = nI ((3 * k) + 1) from by rw [show m12 26 25 = nI k from (S12.1.2.trans hk), show (nI 3) * (nI k) = nI (3 * k) from pk_mul _ _, show (nI (3 * k)) + (nI 1) = nI ((3 * k) + 1) from nI_add _ _]), by omega, ?_⟩
      refine ⟨((3 * k) + 2), (show ((nI 3) * (m12 26 25)) + (nI 2) = nI ((3 * k) + 2) from by rw [show m12 26 25 = nI k from (S12.1.2.trans hk), show (nI 3) * (nI k) = nI (3 * k) from pk_mul _ _, show (nI (3 * k)) + (nI 2) = nI ((3 * k) + 2) from nI_add _ _]), by omega, ?_⟩
      show pw_V x m_X8_readKnight 4 Z 73 [(3, .int (nI y12)), (2, .int (nI y4)), (0, .ref 26), (1, .int (nI 1))] [] (pw_up (pw_up (pw_up (pw_up m12 37 (3 * k) (nI 1)) 37 ((3 * k) + 1) (nI y4)) 37 ((3 * k) + 2) (nI y12)) 26 25 ((m12 26 25) + (nI 1)))
      rw [show m12 26 25 = nI k from (S12.1.2.trans hk)]
      rw [show (nI k) + (nI 1) = nI (k + 1) from nI_add _ _]
      rw [← hZ]
      refine pw_rv (by decide +kernel) ?_
      have hr : pw_rest A s k 6 e = (some (6, y4, y12), (pw_tE A (pw_tE A e))) := by
        unfold pw_rest
        rw [if_neg (show ¬ pw_nb 6 < 1 from by decide), if_pos (show pw_rgb (pw_le_ 6) (pw_mf s k 6) (pw_tN A e) = true from by rw [hle, hmf]; exact c4), if_neg (show ¬ pw_nb 6 < 2 from by decide), if_pos ⟨show pw_rgb 0 (pw_ms k 6) (pw_tN A (pw_tE A e)) = true from by rw [hms]; exact c12, fun z => absurd z.1 (by decide)⟩, ey4, ey12, pw_c_nI (show y4 < 2 ^ 31 by omega), pw_c_nI (show y12 < 2 ^ 31 by omega)]
      exact ⟨rfl, pw_rp_ok hr (TK.v (TK.c (TK.c (TK.c T12 (by decide)) (by decide)) (by decide)) (by decide)) ((pw_up_26 (by decide)).trans ((pw_up_o6 (by decide)).trans ((pw_up_o6 (by decide)).trans ((pw_up_o6 (by decide)).trans W12)))) (pw_rfm_6 (pw_rfm_c (pw_rfm_c (pw_rfm_c F12 (by decide)) (by decide)) (by decide)) (by decide)) (show SD (G_o1 X (6, y4, y12)) _ from by unfold G_o1; rw [show G_ob X 6 (nI y4) (nI y12) = G_ak X k (nI 1) (nI y4) (nI y12) from by show G_ak X (pw_c (X 4 1)) _ _ _ = _; rw [hk, pw_c_nI (by omega)]]; exact SD.ak S12 hkk)⟩
    · rw [show pw_nuR A (pw_tE A e) 0 10 true = nI 0 from by unfold pw_nuR pw_nuC; rw [Bool.true_and, if_neg c12], show pw_nuM A m4 (pw_tE A e) 0 10 true = pw_up m4 26 21 (nI 0) from by unfold pw_nuM pw_nuC; rw [Bool.true_and, if_neg c12]]
      obtain ⟨m12, hm12⟩ : ∃ m, m = pw_up m4 26 21 (nI 0) := ⟨_, rfl⟩
      rw [← hm12]
      have T12 : TK A m12 (pw_tE A e) := by rw [hm12]; exact (TK.u T4)
      have W12 : m12 26 21 = nI 0 := by rw [hm12]; exact pw_up_gs
      have X12 : MX A m12 := by rw [hm12]; exact MX.u X4 (by decide)
      have S12 : SD X m12 := by rw [hm12]; exact SD.w S4
      have F12 : pw_rfm mm m12 := by rw [hm12]; exact pw_rfm_6 F4 (by decide)
      clear hm12
      show pw_V x m_X8_readKnight 4 Z 15 [(2, .int (nI y4)), (0, .ref 26), (1, .int (nI 1))] [.int (nI 0)] m12
      refine pw_blk (pc' := 20) [.istore 3, .aload 0, .getfield 821] (by decide +kernel) ?_
      show pw_V x m_X8_readKnight 4 Z 20 [(3, .int (nI 0)), (2, .int (nI y4)), (0, .ref 26), (1, .int (nI 1))] [.int (m12 26 21)] m12
      rw [show m12 26 21 = nI 0 from W12]
      refine pw_iz_eq (tgt := 73) (off := 53) (by omega) (by decide +kernel) (by decide) (fun _ => ?_) (fun h => by omega)
      rw [← hZ]
      refine pw_rv (by decide +kernel) ?_
      have hr : pw_rest A s k 6 e = (none, (pw_tE A e)) := by
        unfold pw_rest
        rw [if_neg (show ¬ pw_nb 6 < 1 from by decide), if_pos (show pw_rgb (pw_le_ 6) (pw_mf s k 6) (pw_tN A e) = true from by rw [hle, hmf]; exact c4), if_neg (show ¬ pw_nb 6 < 2 from by decide), if_neg (fun z => c12 (by rw [hms] at z; exact z.1))]
      exact ⟨rfl, pw_rp_no hr T12 W12 F12⟩
  · rw [show pw_nuR A e 0 10 true = nI 0 from by unfold pw_nuR pw_nuC; rw [Bool.true_and, if_neg c4], show pw_nuM A mm e 0 10 true = pw_up mm 26 21 (nI 0) from by unfold pw_nuM pw_nuC; rw [Bool.true_and, if_neg c4]]
    obtain ⟨m4, hm4⟩ : ∃ m, m = pw_up mm 26 21 (nI 0) := ⟨_, rfl⟩
    rw [← hm4]
    have T4 : TK A m4 e := by rw [hm4]; exact (TK.u hT)
    have W4 : m4 26 21 = nI 0 := by rw [hm4]; exact pw_up_gs
    have X4 : MX A m4 := by rw [hm4]; exact MX.u hx (by decide)
    have S4 : SD X m4 := by rw [hm4]; exact SD.w hX
    have F4 : pw_rfm mm m4 := by rw [hm4]; exact pw_rfm_6 pw_rfm_r (by decide)
    clear hm4
    show pw_V x m_X8_readKnight 4 Z 7 [(0, .ref 26), (1, .int (nI 1))] [.int (nI 0)] m4
    refine pw_blk (pc' := 12) [.istore 2, .aload 0, .iconst 0, .iconst (9)] (by decide +kernel) ?_
    show pw_V x m_X8_readKnight 4 Z 12 [(2, .int (nI 0)), (0, .ref 26), (1, .int (nI 1))] [.int (nI 9), .int (nI 0), .ref 26] m4
    refine pw_cV (vs := [.int (nI 0), .int (nI 9)]) (rest := []) k_X8_number (c_mnumb (A := A) m4 X4 e (by omega) T4 b21 hok false W4 0 10 (nI 9) (by decide) (by omega) (by omega)) l_8_145 rfl rfl rfl rfl (by omega) (Nat.le_of_ble_eq_true rfl) (by decide +kernel) ?_
    rintro _ m1 ⟨rfl, e1⟩
    rw [e1]
    clear e1 m1
    show pw_V x m_X8_readKnight 4 Z 15 [(2, .int (nI 0)), (0, .ref 26), (1, .int (nI 1))] [.int (pw_nuR A e 0 10 false)] (pw_nuM A m4 e 0 10 false)
    rw [show pw_nuR A e 0 10 false = nI 0 from rfl, show pw_nuM A m4 e 0 10 false = pw_up m4 26 21 (nI 0) from rfl]
    obtain ⟨m12, hm12⟩ : ∃ m, m = pw_up m4 26 21 (nI 0) := ⟨_, rfl⟩
    rw [← hm12]
    have T12 : TK A m12 e := by rw [hm12]; exact (TK.u T4)
    have W12 : m12 26 21 = nI 0 := by rw [hm12]; exact pw_up_gs
    have X12 : MX A m12 := by rw [hm12]; exact MX.u X4 (by decide)
    have S12 : SD X m12 := by rw [hm12]; exact SD.w S4
    have F12 : pw_rfm mm m12 := by rw [hm12]; exact pw_rfm_6 F4 (by decide)
    clear hm12
    refine pw_blk (pc' := 20) [.istore 3, .aload 0, .getfield 821] (by decide +kernel) ?_
    show pw_V x m_X8_readKnight 4 Z 20 [(3, .int (nI 0)), (2, .int (nI 0)), (0, .ref 26), (1, .int (nI 1))] [.int (m12 26 21)] m12
    rw [show m12 26 21 = nI 0 from W12]
    refine pw_iz_eq (tgt := 73) (off := 53) (by omega) (by decide +kernel) (by decide) (fun _ => ?_) (fun h => by omega)
    rw [← hZ]
    refine pw_rv (by decide +kernel) ?_
    have hr : pw_rest A s k 6 e = (none, e) := by
      unfold pw_rest
      rw [if_neg (show ¬ pw_nb 6 < 1 from by decide), if_neg (fun z => c4 (by rw [hle, hmf] at z; exact z))]
    exact ⟨rfl, pw_rp_no hr T12 W12 F12⟩

set_option maxHeartbeats 4000000 in
set_option maxRecDepth 100000 in
theorem c_mrKnight2 {A : pw_m} (mm : pw_m) (hx : MX A mm) (hok : pw_ok A) (X : pw_m) (hX : SD X mm) (s k : Nat) (hs : X 4 0 = nI s) (hk : X 4 1 = nI k) (hs8 : s ≤ 8) (hk6 : k ≤ 6) (e : Nat) (he2 : e ≤ pw_g A 2 1) (hT : TK A mm e) (hw1 : mm 26 21 = nI 1) (hkk : k < 6) : pw_Ct 4 yX8_readKnight m_X8_readKnight [.ref 26, .int (nI 2)] mm (fun r m' => r = none ∧ pw_rp A X mm m' (pw_rest A s k 7 e)) := by
  refine pw_ct (by decide +kernel) rfl (Nat.le_of_ble_eq_true rfl) (fun x => ?_)
  generalize hZ : pw_Z x _ = Z
  have b21 := pw_b21 hok
  have z0 := pw_tb1 he2
  have hle : pw_le_ 7 = 0 := rfl
  have hmf : pw_mf s k 7 = 10 := rfl
  have hms : pw_ms k 7 = 10 := rfl
  show pw_V x m_X8_readKnight 4 Z 0 [(0, .ref 26), (1, .int (nI 2))] [] mm
  refine pw_blk (pc' := 4) [.aload 0, .iconst 0, .iconst (9)] (by decide +kernel) ?_
  show pw_V x m_X8_readKnight 4 Z 4 [(0, .ref 26), (1, .int (nI 2))] [.int (nI 9), .int (nI 0), .ref 26] mm
  refine pw_cV (vs := [.int (nI 0), .int (nI 9)]) (rest := []) k_X8_number (c_mnumb (A := A) mm hx e (by omega) hT b21 hok true hw1 0 10 (nI 9) (by decide) (by omega) (by omega)) l_8_145 rfl rfl rfl rfl (by omega) (Nat.le_of_ble_eq_true rfl) (by decide +kernel) ?_
  rintro _ m1 ⟨rfl, e1⟩
  rw [e1]
  clear e1 m1
  show pw_V x m_X8_readKnight 4 Z 7 [(0, .ref 26), (1, .int (nI 2))] [.int (pw_nuR A e 0 10 true)] (pw_nuM A mm e 0 10 true)
  by_cases c4 : pw_rgb 0 10 (pw_tN A e) = true
  · obtain ⟨y4, ey4, ya4, yb4⟩ := pw_rgb_t c4 (by omega) (by omega)
    rw [show pw_nuR A e 0 10 true = nI y4 from by unfold pw_nuR pw_nuC; rw [c4, ← ey4]; rfl, show pw_nuM A mm e 0 10 true = pw_tok A (pw_up mm 26 21 (nI 1)) (pw_tE A e) from by unfold pw_nuM pw_nuC; rw [c4]; rfl]
    have w4 := pw_tb1 (A := A) (e := pw_tE A e) (by omega)
    obtain ⟨m4, hm4⟩ : ∃ m, m = pw_tok A (pw_up mm 26 21 (nI 1)) (pw_tE A e) := ⟨_, rfl⟩
    rw [← hm4]
    have T4 : TK A m4 (pw_tE A e) := by rw [hm4]; exact pw_tok_TK
    have W4 : m4 26 21 = nI 1 := by rw [hm4]; exact (pw_tok_6 (by omega)).trans pw_up_gs
    have X4 : MX A m4 := by rw [hm4]; exact MX.t (MX.u hx (by decide))
    have S4 : SD X m4 := by rw [hm4]; exact SD.t (SD.w hX)
    have F4 : pw_rfm mm m4 := by rw [hm4]; exact pw_rfm_k (pw_rfm_6 pw_rfm_r (by decide))
    clear hm4
    show pw_V x m_X8_readKnight 4 Z 7 [(0, .ref 26), (1, .int (nI 2))] [.int (nI y4)] m4
    refine pw_blk (pc' := 12) [.istore 2, .aload 0, .iconst 0, .iconst (9)] (by decide +kernel) ?_
    show pw_V x m_X8_readKnight 4 Z 12 [(2, .int (nI y4)), (0, .ref 26), (1, .int (nI 2))] [.int (nI 9), .int (nI 0), .ref 26] m4
    refine pw_cV (vs := [.int (nI 0), .int (nI 9)]) (rest := []) k_X8_number (c_mnumb (A := A) m4 X4 (pw_tE A e) (by omega) T4 b21 hok true W4 0 10 (nI 9) (by decide) (by omega) (by omega)) l_8_145 rfl rfl rfl rfl (by omega) (Nat.le_of_ble_eq_true rfl) (by decide +kernel) ?_
    rintro _ m1 ⟨rfl, e1⟩
    rw [e1]
    clear e1 m1
    show pw_V x m_X8_readKnight 4 Z 15 [(2, .int (nI y4)), (0, .ref 26), (1, .int (nI 2))] [.int (pw_nuR A (pw_tE A e) 0 10 true)] (pw_nuM A m4 (pw_tE A e) 0 10 true)
    by_cases c12 : pw_rgb 0 10 (pw_tN A (pw_tE A e)) = true
    · obtain ⟨y12, ey12, ya12, yb12⟩ := pw_rgb_t c12 (by omega) (by omega)
      rw [show pw_nuR A (pw_tE A e) 0 10 true = nI y12 from by unfold pw_nuR pw_nuC; rw [c12, ← ey12]; rfl, show pw_nuM A m4 (pw_tE A e) 0 10 true = pw_tok A (pw_up m4 26 21 (nI 1)) (pw_tE A (pw_tE A e)) from by unfold pw_nuM pw_nuC; rw [c12]; rfl]
      have w12 := pw_tb1 (A := A) (e := pw_tE A (pw_tE A e)) (by omega)
      obtain ⟨m12, hm12⟩ : ∃ m, m = pw_tok A (pw_up m4 26 21 (nI 1)) (pw_tE A (pw_tE A e)) := ⟨_, rfl⟩
      rw [← hm12]
      have T12 : TK A m12 (pw_tE A (pw_tE A e)) := by rw [hm12]; exact pw_tok_TK
      have W12 : m12 26 21 = nI 1 := by rw [hm12]; exact (pw_tok_6 (by omega)).trans pw_up_gs
      have X12 : MX A m12 := by rw [hm12]; exact MX.t (MX.u X4 (by decide))
      have S12 : SD X m12 := by rw [hm12]; exact SD.t (SD.w S4)
      have F12 : pw_rfm mm m12 := by rw [hm12]; exact pw_rfm_k (pw_rfm_6 F4 (by decide))
      clear hm12
      show pw_V x m_X8_readKnight 4 Z 15 [(2, .int (nI y4)), (0, .ref 26), (1, .int (nI 2))] [.int (nI y12)] m12
      refine pw_blk (pc' := 20) [.istore 3, .aload 0, .getfield 821] (by decide +kernel) ?_
      show pw_V x m_X8_readKnight 4 Z 20 [(3, .int (nI y12)), (2, .int (nI y4)), (0, .ref 26), (1, .int (nI 2))] [.int (m12 26 21)] m12
      rw [show m12 26 21 = nI 1 from W12]
      refine pw_iz_eq (tgt := 73) (off := 53) (by omega) (by decide +kernel) (by decide) (fun h => by omega) (fun _ => ?_)
      refine pw_blk (pc' := 73) [.aload 0, .getfield 826, .iconst 3, .aload 0, .getfield 825, .imul, .iload 1, .iastore, .aload 0, .getfield 826, .iconst 3, .aload 0, .getfield 825, .imul, .iconst 1, .iadd, .iload 2, .iastore, .aload 0, .getfield 826, .iconst 3, .aload 0, .getfield 825, .imul, .iconst 2, .iadd, .iload 3, .iastore, .aload 0, .dup, .getfield 825, .iconst 1, .iadd, .putfield 825] (by decide +kernel) ?_
      refine ⟨(3 * k), (show (nI 3) * (m12 26 25) = nI (3 * k) from by rw [show m12 26 25 = nI k from (S12.1.2.trans hk), show (nI 3) * (nI k) = nI (3 * k) from pk_mul _ _]), by omega, ?_⟩
      refine ⟨((3 * k) + 1), (show ((nI 3) * (m12 26 25)) + (nI 1) = nI ((3 * k) + 1) from by rw [show m12 26 25 = nI k from (S12.1.2.trans hk), show (nI 3) * (nI k) = nI (3 * k) from pk_mul _ _, show (nI (3 * k)) + (nI 1) = nI ((3 * k) + 1) from nI_add _ _]), by omega, ?_⟩
      refine ⟨((3 * k) + 2), (show ((nI 3) * (m12 26 25)) + (nI 2) = nI ((3 * k) + 2) from by rw [show m12 26 25 = nI k from (S12.1.2.trans hk), show (nI 3) * (nI k) = nI (3 * k) from pk_mul _ _, show (nI (3 * k)) + (nI 2) = nI ((3 * k) + 2) from nI_add _ _]), by omega, ?_⟩
      show pw_V x m_X8_readKnight 4 Z 73 [(3, .int (nI y12)), (2, .int (nI y4)), (0, .ref 26), (1, .int (nI 2))] [] (pw_up (pw_up (pw_up (pw_up m12 37 (3 * k) (nI 2)) 37 ((3 * k) + 1) (nI y4)) 37 ((3 * k) + 2) (nI y12)) 26 25 ((m12 26 25) + (nI 1)))
      rw [show m12 26 25 = nI k from (S12.1.2.trans hk)]
      rw [show (nI k) + (nI 1) = nI (k + 1) from nI_add _ _]
      rw [← hZ]
      refine pw_rv (by decide +kernel) ?_
      have hr : pw_rest A s k 7 e = (some (7, y4, y12), (pw_tE A (pw_tE A e))) := by
        unfold pw_rest
        rw [if_neg (show ¬ pw_nb 7 < 1 from by decide), if_pos (show pw_rgb (pw_le_ 7) (pw_mf s k 7) (pw_tN A e) = true from by rw [hle, hmf]; exact c4), if_neg (show ¬ pw_nb 7 < 2 from by decide), if_pos ⟨show pw_rgb 0 (pw_ms k 7) (pw_tN A (pw_tE A e)) = true from by rw [hms]; exact c12, fun z => absurd z.1 (by decide)⟩, ey4, ey12, pw_c_nI (show y4 < 2 ^ 31 by omega), pw_c_nI (show y12 < 2 ^ 31 by omega)]
      exact ⟨rfl, pw_rp_ok hr (TK.v (TK.c (TK.c (TK.c T12 (by decide)) (by decide)) (by decide)) (by decide)) ((pw_up_26 (by decide)).trans ((pw_up_o6 (by decide)).trans ((pw_up_o6 (by decide)).trans ((pw_up_o6 (by decide)).trans W12)))) (pw_rfm_6 (pw_rfm_c (pw_rfm_c (pw_rfm_c F12 (by decide)) (by decide)) (by decide)) (by decide)) (show SD (G_o1 X (7, y4, y12)) _ from by unfold G_o1; rw [show G_ob X 7 (nI y4) (nI y12) = G_ak X k (nI 2) (nI y4) (nI y12) from by show G_ak X (pw_c (X 4 1)) _ _ _ = _; rw [hk, pw_c_nI (by omega)]]; exact SD.ak S12 hkk)⟩
    · rw [show pw_nuR A (pw_tE A e) 0 10 true = nI 0 from by unfold pw_nuR pw_nuC; rw [Bool.true_and, if_neg c12], show pw_nuM A m4 (pw_tE A e) 0 10 true = pw_up m4 26 21 (nI 0) from by unfold pw_nuM pw_nuC; rw [Bool.true_and, if_neg c12]]
      obtain ⟨m12, hm12⟩ : ∃ m, m = pw_up m4 26 21 (nI 0) := ⟨_, rfl⟩
      rw [← hm12]
      have T12 : TK A m12 (pw_tE A e) := by rw [hm12]; exact (TK.u T4)
      have W12 : m12 26 21 = nI 0 := by rw [hm12]; exact pw_up_gs
      have X12 : MX A m12 := by rw [hm12]; exact MX.u X4 (by decide)
      have S12 : SD X m12 := by rw [hm12]; exact SD.w S4
      have F12 : pw_rfm mm m12 := by rw [hm12]; exact pw_rfm_6 F4 (by decide)
      clear hm12
      show pw_V x m_X8_readKnight 4 Z 15 [(2, .int (nI y4)), (0, .ref 26), (1, .int (nI 2))] [.int (nI 0)] m12
      refine pw_blk (pc' := 20) [.istore 3, .aload 0, .getfield 821] (by decide +kernel) ?_
      show pw_V x m_X8_readKnight 4 Z 20 [(3, .int (nI 0)), (2, .int (nI y4)), (0, .ref 26), (1, .int (nI 2))] [.int (m12 26 21)] m12
      rw [show m12 26 21 = nI 0 from W12]
      refine pw_iz_eq (tgt := 73) (off := 53) (by omega) (by decide +kernel) (by decide) (fun _ => ?_) (fun h => by omega)
      rw [← hZ]
      refine pw_rv (by decide +kernel) ?_
      have hr : pw_rest A s k 7 e = (none, (pw_tE A e)) := by
        unfold pw_rest
        rw [if_neg (show ¬ pw_nb 7 < 1 from by decide), if_pos (show pw_rgb (pw_le_ 7) (pw_mf s k 7) (pw_tN A e) = true from by rw [hle, hmf]; exact c4), if_neg (show ¬ pw_nb 7 < 2 from by decide), if_neg (fun z => c12 (by rw [hms] at z; exact z.1))]
      exact ⟨rfl, pw_rp_no hr T12 W12 F12⟩
  · rw [show pw_nuR A e 0 10 true = nI 0 from by unfold pw_nuR pw_nuC; rw [Bool.true_and, if_neg c4], show pw_nuM A mm e 0 10 true = pw_up mm 26 21 (nI 0) from by unfold pw_nuM pw_nuC; rw [Bool.true_and, if_neg c4]]
    obtain ⟨m4, hm4⟩ : ∃ m, m = pw_up mm 26 21 (nI 0) := ⟨_, rfl⟩
    rw [← hm4]
    have T4 : TK A m4 e := by rw [hm4]; exact (TK.u hT)
    have W4 : m4 26 21 = nI 0 := by rw [hm4]; exact pw_up_gs
    have X4 : MX A m4 := by rw [hm4]; exact MX.u hx (by decide)
    have S4 : SD X m4 := by rw [hm4]; exact SD.w hX
    have F4 : pw_rfm mm m4 := by rw [hm4]; exact pw_rfm_6 pw_rfm_r (by decide)
    clear hm4
    show pw_V x m_X8_readKnight 4 Z 7 [(0, .ref 26), (1, .int (nI 2))] [.int (nI 0)] m4
    refine pw_blk (pc' := 12) [.istore 2, .aload 0, .iconst 0, .iconst (9)] (by decide +kernel) ?_
    show pw_V x m_X8_readKnight 4 Z 12 [(2, .int (nI 0)), (0, .ref 26), (1, .int (nI 2))] [.int (nI 9), .int (nI 0), .ref 26] m4
    refine pw_cV (vs := [.int (nI 0), .int (nI 9)]) (rest := []) k_X8_number (c_mnumb (A := A) m4 X4 e (by omega) T4 b21 hok false W4 0 10 (nI 9) (by decide) (by omega) (by omega)) l_8_145 rfl rfl rfl rfl (by omega) (Nat.le_of_ble_eq_true rfl) (by decide +kernel) ?_
    rintro _ m1 ⟨rfl, e1⟩
    rw [e1]
    clear e1 m1
    show pw_V x m_X8_readKnight 4 Z 15 [(2, .int (nI 0)), (0, .ref 26), (1, .int (nI 2))] [.int (pw_nuR A e 0 10 false)] (pw_nuM A m4 e 0 10 false)
    rw [show pw_nuR A e 0 10 false = nI 0 from rfl, show pw_nuM A m4 e 0 10 false = pw_up m4 26 21 (nI 0) from rfl]
    obtain ⟨m12, hm12⟩ : ∃ m, m = pw_up m4 26 21 (nI 0) := ⟨_, rfl⟩
    rw [← hm12]
    have T12 : TK A m12 e := by rw [hm12]; exact (TK.u T4)
    have W12 : m12 26 21 = nI 0 := by rw [hm12]; exact pw_up_gs
    have X12 : MX A m12 := by rw [hm12]; exact MX.u X4 (by decide)
    have S12 : SD X m12 := by rw [hm12]; exact SD.w S4
    have F12 : pw_rfm mm m12 := by rw [hm12]; exact pw_rfm_6 F4 (by decide)
    clear hm12
    refine pw_blk (pc' := 20) [.istore 3, .aload 0, .getfield 821] (by decide +kernel) ?_
    show pw_V x m_X8_readKnight 4 Z 20 [(3, .int (nI 0)), (2, .int (nI 0)), (0, .ref 26), (1, .int (nI 2))] [.int (m12 26 21)] m12
    rw [show m12 26 21 = nI 0 from W12]
    refine pw_iz_eq (tgt := 73) (off := 53) (by omega) (by decide +kernel) (by decide) (fun _ => ?_) (fun h => by omega)
    rw [← hZ]
    refine pw_rv (by decide +kernel) ?_
    have hr : pw_rest A s k 7 e = (none, e) := by
      unfold pw_rest
      rw [if_neg (show ¬ pw_nb 7 < 1 from by decide), if_neg (fun z => c4 (by rw [hle, hmf] at z; exact z))]
    exact ⟨rfl, pw_rp_no hr T12 W12 F12⟩

set_option maxHeartbeats 4000000 in
set_option maxRecDepth 100000 in
theorem c_mrPeril {A : pw_m} (mm : pw_m) (hx : MX A mm) (hok : pw_ok A) (X : pw_m) (hX : SD X mm) (s k : Nat) (hs : X 4 0 = nI s) (hk : X 4 1 = nI k) (hs8 : s ≤ 8) (hk6 : k ≤ 6) (e : Nat) (he2 : e ≤ pw_g A 2 1) (hT : TK A mm e) (hw1 : mm 26 21 = nI 1) : pw_Ct 4 yX8_readPeril m_X8_readPeril [.ref 26] mm (fun r m' => r = none ∧ pw_rp A X mm m' (pw_rest A s k 9 e)) := by
  refine pw_ct (by decide +kernel) rfl (Nat.le_of_ble_eq_true rfl) (fun x => ?_)
  generalize hZ : pw_Z x _ = Z
  have b21 := pw_b21 hok
  have z0 := pw_tb1 he2
  have hle : pw_le_ 9 = 0 := rfl
  have hmf : pw_mf s k 9 = s := rfl
  have hms : pw_ms k 9 = 8 := rfl
  show pw_V x m_X8_readPeril 4 Z 0 [(0, .ref 26)] [] mm
  refine pw_blk (pc' := 8) [.aload 0, .iconst 0, .aload 0, .getfield 823, .iconst 1, .isub] (by decide +kernel) ?_
  show pw_V x m_X8_readPeril 4 Z 8 [(0, .ref 26)] [.int ((mm 26 23) - (nI 1)), .int (nI 0), .ref 26] mm
  rw [show mm 26 23 = nI s from (hX.1.1.trans hs)]
  refine pw_cV (vs := [.int (nI 0), .int ((nI s) - (nI 1))]) (rest := []) k_X8_number (c_mnumb (A := A) mm hx e (by omega) hT b21 hok true hw1 0 s ((nI s) - (nI 1)) rfl (by omega) (by omega)) l_8_145 rfl rfl rfl rfl (by omega) (Nat.le_of_ble_eq_true rfl) (by decide +kernel) ?_
  rintro _ m1 ⟨rfl, e1⟩
  rw [e1]
  clear e1 m1
  show pw_V x m_X8_readPeril 4 Z 11 [(0, .ref 26)] [.int (pw_nuR A e 0 s true)] (pw_nuM A mm e 0 s true)
  by_cases c8 : pw_rgb 0 s (pw_tN A e) = true
  · obtain ⟨y8, ey8, ya8, yb8⟩ := pw_rgb_t c8 (by omega) (by omega)
    rw [show pw_nuR A e 0 s true = nI y8 from by unfold pw_nuR pw_nuC; rw [c8, ← ey8]; rfl, show pw_nuM A mm e 0 s true = pw_tok A (pw_up mm 26 21 (nI 1)) (pw_tE A e) from by unfold pw_nuM pw_nuC; rw [c8]; rfl]
    have w8 := pw_tb1 (A := A) (e := pw_tE A e) (by omega)
    obtain ⟨m8, hm8⟩ : ∃ m, m = pw_tok A (pw_up mm 26 21 (nI 1)) (pw_tE A e) := ⟨_, rfl⟩
    rw [← hm8]
    have T8 : TK A m8 (pw_tE A e) := by rw [hm8]; exact pw_tok_TK
    have W8 : m8 26 21 = nI 1 := by rw [hm8]; exact (pw_tok_6 (by omega)).trans pw_up_gs
    have X8 : MX A m8 := by rw [hm8]; exact MX.t (MX.u hx (by decide))
    have S8 : SD X m8 := by rw [hm8]; exact SD.t (SD.w hX)
    have F8 : pw_rfm mm m8 := by rw [hm8]; exact pw_rfm_k (pw_rfm_6 pw_rfm_r (by decide))
    clear hm8
    show pw_V x m_X8_readPeril 4 Z 11 [(0, .ref 26)] [.int (nI y8)] m8
    refine pw_blk (pc' := 16) [.istore 1, .aload 0, .iconst 0, .iconst (7)] (by decide +kernel) ?_
    show pw_V x m_X8_readPeril 4 Z 16 [(1, .int (nI y8)), (0, .ref 26)] [.int (nI 7), .int (nI 0), .ref 26] m8
    refine pw_cV (vs := [.int (nI 0), .int (nI 7)]) (rest := []) k_X8_number (c_mnumb (A := A) m8 X8 (pw_tE A e) (by omega) T8 b21 hok true W8 0 8 (nI 7) (by decide) (by omega) (by omega)) l_8_145 rfl rfl rfl rfl (by omega) (Nat.le_of_ble_eq_true rfl) (by decide +kernel) ?_
    rintro _ m1 ⟨rfl, e1⟩
    rw [e1]
    clear e1 m1
    show pw_V x m_X8_readPeril 4 Z 19 [(1, .int (nI y8)), (0, .ref 26)] [.int (pw_nuR A (pw_tE A e) 0 8 true)] (pw_nuM A m8 (pw_tE A e) 0 8 true)
    by_cases c16 : pw_rgb 0 8 (pw_tN A (pw_tE A e)) = true
    · obtain ⟨y16, ey16, ya16, yb16⟩ := pw_rgb_t c16 (by omega) (by omega)
      rw [show pw_nuR A (pw_tE A e) 0 8 true = nI y16 from by unfold pw_nuR pw_nuC; rw [c16, ← ey16]; rfl, show pw_nuM A m8 (pw_tE A e) 0 8 true = pw_tok A (pw_up m8 26 21 (nI 1)) (pw_tE A (pw_tE A e)) from by unfold pw_nuM pw_nuC; rw [c16]; rfl]
      have w16 := pw_tb1 (A := A) (e := pw_tE A (pw_tE A e)) (by omega)
      obtain ⟨m16, hm16⟩ : ∃ m, m = pw_tok A (pw_up m8 26 21 (nI 1)) (pw_tE A (pw_tE A e)) := ⟨_, rfl⟩
      rw [← hm16]
      have T16 : TK A m16 (pw_tE A (pw_tE A e)) := by rw [hm16]; exact pw_tok_TK
      have W16 : m16 26 21 = nI 1 := by rw [hm16]; exact (pw_tok_6 (by omega)).trans pw_up_gs
      have X16 : MX A m16 := by rw [hm16]; exact MX.t (MX.u X8 (by decide))
      have S16 : SD X m16 := by rw [hm16]; exact SD.t (SD.w S8)
      have F16 : pw_rfm mm m16 := by rw [hm16]; exact pw_rfm_k (pw_rfm_6 F8 (by decide))
      clear hm16
      show pw_V x m_X8_readPeril 4 Z 19 [(1, .int (nI y8)), (0, .ref 26)] [.int (nI y16)] m16
      refine pw_blk (pc' := 24) [.istore 2, .aload 0, .getfield 821] (by decide +kernel) ?_
      show pw_V x m_X8_readPeril 4 Z 24 [(2, .int (nI y16)), (1, .int (nI y8)), (0, .ref 26)] [.int (m16 26 21)] m16
      rw [show m16 26 21 = nI 1 from W16]
      refine pw_iz_eq (tgt := 37) (off := 13) (by omega) (by decide +kernel) (by decide) (fun h => by omega) (fun _ => ?_)
      refine pw_blk (pc' := 37) [.aload 0, .iload 1, .putfield 828, .aload 0, .iload 2, .putfield 829] (by decide +kernel) ?_
      show pw_V x m_X8_readPeril 4 Z 37 [(2, .int (nI y16)), (1, .int (nI y8)), (0, .ref 26)] [] (pw_up (pw_up m16 26 28 (nI y8)) 26 29 (nI y16))
      rw [← hZ]
      refine pw_rv (by decide +kernel) ?_
      have hr : pw_rest A s k 9 e = (some (9, y8, y16), (pw_tE A (pw_tE A e))) := by
        unfold pw_rest
        rw [if_neg (show ¬ pw_nb 9 < 1 from by decide), if_pos (show pw_rgb (pw_le_ 9) (pw_mf s k 9) (pw_tN A e) = true from by rw [hle, hmf]; exact c8), if_neg (show ¬ pw_nb 9 < 2 from by decide), if_pos ⟨show pw_rgb 0 (pw_ms k 9) (pw_tN A (pw_tE A e)) = true from by rw [hms]; exact c16, fun z => absurd z.1 (by decide)⟩, ey8, ey16, pw_c_nI (show y8 < 2 ^ 31 by omega), pw_c_nI (show y16 < 2 ^ 31 by omega)]
      exact ⟨rfl, pw_rp_ok hr (TK.v (TK.v T16 (by decide)) (by decide)) ((pw_up_26 (by decide)).trans ((pw_up_26 (by decide)).trans W16)) (pw_rfm_6 (pw_rfm_6 F16 (by decide)) (by decide)) (show SD (G_o1 X (9, y8, y16)) _ from SD.p4 S16)⟩
    · rw [show pw_nuR A (pw_tE A e) 0 8 true = nI 0 from by unfold pw_nuR pw_nuC; rw [Bool.true_and, if_neg c16], show pw_nuM A m8 (pw_tE A e) 0 8 true = pw_up m8 26 21 (nI 0) from by unfold pw_nuM pw_nuC; rw [Bool.true_and, if_neg c16]]
      obtain ⟨m16, hm16⟩ : ∃ m, m = pw_up m8 26 21 (nI 0) := ⟨_, rfl⟩
      rw [← hm16]
      have T16 : TK A m16 (pw_tE A e) := by rw [hm16]; exact (TK.u T8)
      have W16 : m16 26 21 = nI 0 := by rw [hm16]; exact pw_up_gs
      have X16 : MX A m16 := by rw [hm16]; exact MX.u X8 (by decide)
      have S16 : SD X m16 := by rw [hm16]; exact SD.w S8
      have F16 : pw_rfm mm m16 := by rw [hm16]; exact pw_rfm_6 F8 (by decide)
      clear hm16
      show pw_V x m_X8_readPeril 4 Z 19 [(1, .int (nI y8)), (0, .ref 26)] [.int (nI 0)] m16
      refine pw_blk (pc' := 24) [.istore 2, .aload 0, .getfield 821] (by decide +kernel) ?_
      show pw_V x m_X8_readPeril 4 Z 24 [(2, .int (nI 0)), (1, .int (nI y8)), (0, .ref 26)] [.int (m16 26 21)] m16
      rw [show m16 26 21 = nI 0 from W16]
      refine pw_iz_eq (tgt := 37) (off := 13) (by omega) (by decide +kernel) (by decide) (fun _ => ?_) (fun h => by omega)
      rw [← hZ]
      refine pw_rv (by decide +kernel) ?_
      have hr : pw_rest A s k 9 e = (none, (pw_tE A e)) := by
        unfold pw_rest
        rw [if_neg (show ¬ pw_nb 9 < 1 from by decide), if_pos (show pw_rgb (pw_le_ 9) (pw_mf s k 9) (pw_tN A e) = true from by rw [hle, hmf]; exact c8), if_neg (show ¬ pw_nb 9 < 2 from by decide), if_neg (fun z => c16 (by rw [hms] at z; exact z.1))]
      exact ⟨rfl, pw_rp_no hr T16 W16 F16⟩
  · rw [show pw_nuR A e 0 s true = nI 0 from by unfold pw_nuR pw_nuC; rw [Bool.true_and, if_neg c8], show pw_nuM A mm e 0 s true = pw_up mm 26 21 (nI 0) from by unfold pw_nuM pw_nuC; rw [Bool.true_and, if_neg c8]]
    obtain ⟨m8, hm8⟩ : ∃ m, m = pw_up mm 26 21 (nI 0) := ⟨_, rfl⟩
    rw [← hm8]
    have T8 : TK A m8 e := by rw [hm8]; exact (TK.u hT)
    have W8 : m8 26 21 = nI 0 := by rw [hm8]; exact pw_up_gs
    have X8 : MX A m8 := by rw [hm8]; exact MX.u hx (by decide)
    have S8 : SD X m8 := by rw [hm8]; exact SD.w hX
    have F8 : pw_rfm mm m8 := by rw [hm8]; exact pw_rfm_6 pw_rfm_r (by decide)
    clear hm8
    show pw_V x m_X8_readPeril 4 Z 11 [(0, .ref 26)] [.int (nI 0)] m8
    refine pw_blk (pc' := 16) [.istore 1, .aload 0, .iconst 0, .iconst (7)] (by decide +kernel) ?_
    show pw_V x m_X8_readPeril 4 Z 16 [(1, .int (nI 0)), (0, .ref 26)] [.int (nI 7), .int (nI 0), .ref 26] m8
    refine pw_cV (vs := [.int (nI 0), .int (nI 7)]) (rest := []) k_X8_number (c_mnumb (A := A) m8 X8 e (by omega) T8 b21 hok false W8 0 8 (nI 7) (by decide) (by omega) (by omega)) l_8_145 rfl rfl rfl rfl (by omega) (Nat.le_of_ble_eq_true rfl) (by decide +kernel) ?_
    rintro _ m1 ⟨rfl, e1⟩
    rw [e1]
    clear e1 m1
    show pw_V x m_X8_readPeril 4 Z 19 [(1, .int (nI 0)), (0, .ref 26)] [.int (pw_nuR A e 0 8 false)] (pw_nuM A m8 e 0 8 false)
    rw [show pw_nuR A e 0 8 false = nI 0 from rfl, show pw_nuM A m8 e 0 8 false = pw_up m8 26 21 (nI 0) from rfl]
    obtain ⟨m16, hm16⟩ : ∃ m, m = pw_up m8 26 21 (nI 0) := ⟨_, rfl⟩
    rw [← hm16]
    have T16 : TK A m16 e := by rw [hm16]; exact (TK.u T8)
    have W16 : m16 26 21 = nI 0 := by rw [hm16]; exact pw_up_gs
    have X16 : MX A m16 := by rw [hm16]; exact MX.u X8 (by decide)
    have S16 : SD X m16 := by rw [hm16]; exact SD.w S8
    have F16 : pw_rfm mm m16 := by rw [hm16]; exact pw_rfm_6 F8 (by decide)
    clear hm16
    refine pw_blk (pc' := 24) [.istore 2, .aload 0, .getfield 821] (by decide +kernel) ?_
    show pw_V x m_X8_readPeril 4 Z 24 [(2, .int (nI 0)), (1, .int (nI 0)), (0, .ref 26)] [.int (m16 26 21)] m16
    rw [show m16 26 21 = nI 0 from W16]
    refine pw_iz_eq (tgt := 37) (off := 13) (by omega) (by decide +kernel) (by decide) (fun _ => ?_) (fun h => by omega)
    rw [← hZ]
    refine pw_rv (by decide +kernel) ?_
    have hr : pw_rest A s k 9 e = (none, e) := by
      unfold pw_rest
      rw [if_neg (show ¬ pw_nb 9 < 1 from by decide), if_neg (fun z => c8 (by rw [hle, hmf] at z; exact z))]
    exact ⟨rfl, pw_rp_no hr T16 W16 F16⟩

set_option maxHeartbeats 4000000 in
set_option maxRecDepth 100000 in
theorem c_mrEnemies {A : pw_m} (mm : pw_m) (hx : MX A mm) (hok : pw_ok A) (X : pw_m) (hX : SD X mm) (s k : Nat) (hs : X 4 0 = nI s) (hk : X 4 1 = nI k) (hs8 : s ≤ 8) (hk6 : k ≤ 6) (e : Nat) (he2 : e ≤ pw_g A 2 1) (hT : TK A mm e) (hw1 : mm 26 21 = nI 1) : pw_Ct 4 yX8_readEnemies m_X8_readEnemies [.ref 26] mm (fun r m' => r = none ∧ pw_rp A X mm m' (pw_rest A s k 8 e)) := by
  refine pw_ct (by decide +kernel) rfl (Nat.le_of_ble_eq_true rfl) (fun x => ?_)
  generalize hZ : pw_Z x _ = Z
  have b21 := pw_b21 hok
  have z0 := pw_tb1 he2
  have hle : pw_le_ 8 = 0 := rfl
  have hmf : pw_mf s k 8 = k := rfl
  have hms : pw_ms k 8 = k := rfl
  show pw_V x m_X8_readEnemies 4 Z 0 [(0, .ref 26)] [] mm
  refine pw_blk (pc' := 8) [.aload 0, .iconst 0, .aload 0, .getfield 825, .iconst 1, .isub] (by decide +kernel) ?_
  show pw_V x m_X8_readEnemies 4 Z 8 [(0, .ref 26)] [.int ((mm 26 25) - (nI 1)), .int (nI 0), .ref 26] mm
  rw [show mm 26 25 = nI k from (hX.1.2.trans hk)]
  refine pw_cV (vs := [.int (nI 0), .int ((nI k) - (nI 1))]) (rest := []) k_X8_number (c_mnumb (A := A) mm hx e (by omega) hT b21 hok true hw1 0 k ((nI k) - (nI 1)) rfl (by omega) (by omega)) l_8_145 rfl rfl rfl rfl (by omega) (Nat.le_of_ble_eq_true rfl) (by decide +kernel) ?_
  rintro _ m1 ⟨rfl, e1⟩
  rw [e1]
  clear e1 m1
  show pw_V x m_X8_readEnemies 4 Z 11 [(0, .ref 26)] [.int (pw_nuR A e 0 k true)] (pw_nuM A mm e 0 k true)
  by_cases c8 : pw_rgb 0 k (pw_tN A e) = true
  · obtain ⟨y8, ey8, ya8, yb8⟩ := pw_rgb_t c8 (by omega) (by omega)
    rw [show pw_nuR A e 0 k true = nI y8 from by unfold pw_nuR pw_nuC; rw [c8, ← ey8]; rfl, show pw_nuM A mm e 0 k true = pw_tok A (pw_up mm 26 21 (nI 1)) (pw_tE A e) from by unfold pw_nuM pw_nuC; rw [c8]; rfl]
    have w8 := pw_tb1 (A := A) (e := pw_tE A e) (by omega)
    obtain ⟨m8, hm8⟩ : ∃ m, m = pw_tok A (pw_up mm 26 21 (nI 1)) (pw_tE A e) := ⟨_, rfl⟩
    rw [← hm8]
    have T8 : TK A m8 (pw_tE A e) := by rw [hm8]; exact pw_tok_TK
    have W8 : m8 26 21 = nI 1 := by rw [hm8]; exact (pw_tok_6 (by omega)).trans pw_up_gs
    have X8 : MX A m8 := by rw [hm8]; exact MX.t (MX.u hx (by decide))
    have S8 : SD X m8 := by rw [hm8]; exact SD.t (SD.w hX)
    have F8 : pw_rfm mm m8 := by rw [hm8]; exact pw_rfm_k (pw_rfm_6 pw_rfm_r (by decide))
    clear hm8
    show pw_V x m_X8_readEnemies 4 Z 11 [(0, .ref 26)] [.int (nI y8)] m8
    refine pw_blk (pc' := 16) [.istore 1, .aload 0, .getfield 821] (by decide +kernel) ?_
    show pw_V x m_X8_readEnemies 4 Z 16 [(1, .int (nI y8)), (0, .ref 26)] [.int (m8 26 21)] m8
    rw [show m8 26 21 = nI 1 from W8]
    refine pw_iz_eq (tgt := 40) (off := 24) (by omega) (by decide +kernel) (by decide) (fun h => by omega) (fun _ => ?_)
    refine pw_blk (pc' := 24) [.aload 0, .getfield 819, .iconst 2] (by decide +kernel) ?_
    show pw_V x m_X8_readEnemies 4 Z 24 [(1, .int (nI y8)), (0, .ref 26)] [.int (nI 2), .int (m8 26 19)] m8
    rw [show m8 26 19 = nI (pw_mT A (pw_tE A e)) from T8.2.2.1]
    refine pw_in_ne (tgt := 40) (off := 16) (by first | omega | (have := pw_mT_b (A := A) (e := pw_tE A e); omega)) (by first | omega | (have := pw_mT_b (A := A) (e := pw_tE A e); omega)) (by decide +kernel) (by decide) (fun h24 => ?_) (fun h24 => ?_)
    · refine pw_blk (pc' := 48) [.aload 0, .iconst 0, .aload 0, .getfield 825, .iconst 1, .isub] (by decide +kernel) ?_
      show pw_V x m_X8_readEnemies 4 Z 48 [(1, .int (nI y8)), (0, .ref 26)] [.int ((m8 26 25) - (nI 1)), .int (nI 0), .ref 26] m8
      rw [show m8 26 25 = nI k from (S8.1.2.trans hk)]
      refine pw_cV (vs := [.int (nI 0), .int ((nI k) - (nI 1))]) (rest := []) k_X8_number (c_mnumb (A := A) m8 X8 (pw_tE A e) (by omega) T8 b21 hok true W8 0 k ((nI k) - (nI 1)) rfl (by omega) (by omega)) l_8_145 rfl rfl rfl rfl (by omega) (Nat.le_of_ble_eq_true rfl) (by decide +kernel) ?_
      rintro _ m1 ⟨rfl, e1⟩
      rw [e1]
      clear e1 m1
      show pw_V x m_X8_readEnemies 4 Z 51 [(1, .int (nI y8)), (0, .ref 26)] [.int (pw_nuR A (pw_tE A e) 0 k true)] (pw_nuM A m8 (pw_tE A e) 0 k true)
      by_cases c48 : pw_rgb 0 k (pw_tN A (pw_tE A e)) = true
      · obtain ⟨y48, ey48, ya48, yb48⟩ := pw_rgb_t c48 (by omega) (by omega)
        rw [show pw_nuR A (pw_tE A e) 0 k true = nI y48 from by unfold pw_nuR pw_nuC; rw [c48, ← ey48]; rfl, show pw_nuM A m8 (pw_tE A e) 0 k true = pw_tok A (pw_up m8 26 21 (nI 1)) (pw_tE A (pw_tE A e)) from by unfold pw_nuM pw_nuC; rw [c48]; rfl]
        have w48 := pw_tb1 (A := A) (e := pw_tE A (pw_tE A e)) (by omega)
        obtain ⟨m48, hm48⟩ : ∃ m, m = pw_tok A (pw_up m8 26 21 (nI 1)) (pw_tE A (pw_tE A e)) := ⟨_, rfl⟩
        rw [← hm48]
        have T48 : TK A m48 (pw_tE A (pw_tE A e)) := by rw [hm48]; exact pw_tok_TK
        have W48 : m48 26 21 = nI 1 := by rw [hm48]; exact (pw_tok_6 (by omega)).trans pw_up_gs
        have X48 : MX A m48 := by rw [hm48]; exact MX.t (MX.u X8 (by decide))
        have S48 : SD X m48 := by rw [hm48]; exact SD.t (SD.w S8)
        have F48 : pw_rfm mm m48 := by rw [hm48]; exact pw_rfm_k (pw_rfm_6 F8 (by decide))
        clear hm48
        show pw_V x m_X8_readEnemies 4 Z 51 [(1, .int (nI y8)), (0, .ref 26)] [.int (nI y48)] m48
        refine pw_blk (pc' := 56) [.istore 2, .aload 0, .getfield 821] (by decide +kernel) ?_
        show pw_V x m_X8_readEnemies 4 Z 56 [(2, .int (nI y48)), (1, .int (nI y8)), (0, .ref 26)] [.int (m48 26 21)] m48
        rw [show m48 26 21 = nI 1 from W48]
        refine pw_iz_eq (tgt := 83) (off := 27) (by omega) (by decide +kernel) (by decide) (fun h => by omega) (fun _ => ?_)
        refine pw_blk (pc' := 83) [.aload 0, .getfield 827, .iload 1, .dup2, .iaload, .iconst 1, .iload 2, .ishl, .ior, .iastore, .aload 0, .getfield 827, .iload 2, .dup2, .iaload, .iconst 1, .iload 1, .ishl, .ior, .iastore] (by decide +kernel) ?_
        refine ⟨y8, rfl, by first | omega | (have := pw_mT_b (A := A) (e := pw_tE A e); omega), ?_⟩
        refine ⟨y8, rfl, by first | omega | (have := pw_mT_b (A := A) (e := pw_tE A e); omega), ?_⟩
        refine ⟨y48, rfl, by first | omega | (have := pw_mT_b (A := A) (e := pw_tE A e); omega), ?_⟩
        refine ⟨y48, rfl, by first | omega | (have := pw_mT_b (A := A) (e := pw_tE A e); omega), ?_⟩
        show pw_V x m_X8_readEnemies 4 Z 83 [(2, .int (nI y48)), (1, .int (nI y8)), (0, .ref 26)] [] (pw_up (pw_up m48 38 y8 ((m48 38 y8) ||| ((nI 1) <<< ((nI y48) &&& 31)))) 38 y48 (((pw_up m48 38 y8 ((m48 38 y8) ||| ((nI 1) <<< ((nI y48) &&& 31)))) 38 y48) ||| ((nI 1) <<< ((nI y8) &&& 31))))
        rw [show (nI 1) <<< ((nI y48) &&& 31) = nI (2 ^ y48) from pw_shl1 (by first | omega | (have := pw_mT_b (A := A) (e := pw_tE A e); omega))]
        rw [show (nI 1) <<< ((nI y8) &&& 31) = nI (2 ^ y8) from pw_shl1 (by first | omega | (have := pw_mT_b (A := A) (e := pw_tE A e); omega))]
        rw [← hZ]
        refine pw_rv (by decide +kernel) ?_
        have hr : pw_rest A s k 8 e = (some (8, y8, y48), (pw_tE A (pw_tE A e))) := by
          unfold pw_rest
          rw [if_neg (show ¬ pw_nb 8 < 1 from by decide), if_pos (show pw_rgb (pw_le_ 8) (pw_mf s k 8) (pw_tN A e) = true from by rw [hle, hmf]; exact c8), if_neg (show ¬ pw_nb 8 < 2 from by decide), if_pos ⟨show pw_rgb 0 (pw_ms k 8) (pw_tN A (pw_tE A e)) = true from by rw [hms]; exact c48, fun z => by have q := pw_num_v (by omega) (by omega) c48; have q2 := (pw_num_in (by omega) (by omega)).mpr c48; exact absurd q2.1 h24⟩, ey8, ey48, pw_c_nI (show y8 < 2 ^ 31 by omega), pw_c_nI (show y48 < 2 ^ 31 by omega)]
        exact ⟨rfl, pw_rp_ok hr (TK.c (TK.c T48 (by decide)) (by decide)) ((pw_up_o6 (by decide)).trans ((pw_up_o6 (by decide)).trans W48)) (pw_rfm_c (pw_rfm_c F48 (by decide)) (by decide)) (show SD (G_o1 X (8, y8, y48)) _ from by unfold G_o1; rw [show G_ob X 8 (nI y8) (nI y48) = G_me X y8 y48 from by show G_me X (pw_c (nI y8)) (pw_c (nI y48)) = _; rw [pw_c_nI (by omega), pw_c_nI (by omega)]]; exact SD.me1 (SD.me1 S48 (by omega)) (by omega))⟩
      · rw [show pw_nuR A (pw_tE A e) 0 k true = nI 0 from by unfold pw_nuR pw_nuC; rw [Bool.true_and, if_neg c48], show pw_nuM A m8 (pw_tE A e) 0 k true = pw_up m8 26 21 (nI 0) from by unfold pw_nuM pw_nuC; rw [Bool.true_and, if_neg c48]]
        obtain ⟨m48, hm48⟩ : ∃ m, m = pw_up m8 26 21 (nI 0) := ⟨_, rfl⟩
        rw [← hm48]
        have T48 : TK A m48 (pw_tE A e) := by rw [hm48]; exact (TK.u T8)
        have W48 : m48 26 21 = nI 0 := by rw [hm48]; exact pw_up_gs
        have X48 : MX A m48 := by rw [hm48]; exact MX.u X8 (by decide)
        have S48 : SD X m48 := by rw [hm48]; exact SD.w S8
        have F48 : pw_rfm mm m48 := by rw [hm48]; exact pw_rfm_6 F8 (by decide)
        clear hm48
        show pw_V x m_X8_readEnemies 4 Z 51 [(1, .int (nI y8)), (0, .ref 26)] [.int (nI 0)] m48
        refine pw_blk (pc' := 56) [.istore 2, .aload 0, .getfield 821] (by decide +kernel) ?_
        show pw_V x m_X8_readEnemies 4 Z 56 [(2, .int (nI 0)), (1, .int (nI y8)), (0, .ref 26)] [.int (m48 26 21)] m48
        rw [show m48 26 21 = nI 0 from W48]
        refine pw_iz_eq (tgt := 83) (off := 27) (by omega) (by decide +kernel) (by decide) (fun _ => ?_) (fun h => by omega)
        rw [← hZ]
        refine pw_rv (by decide +kernel) ?_
        have hr : pw_rest A s k 8 e = (none, (pw_tE A e)) := by
          unfold pw_rest
          rw [if_neg (show ¬ pw_nb 8 < 1 from by decide), if_pos (show pw_rgb (pw_le_ 8) (pw_mf s k 8) (pw_tN A e) = true from by rw [hle, hmf]; exact c8), if_neg (show ¬ pw_nb 8 < 2 from by decide), if_neg (fun z => c48 (by rw [hms] at z; exact z.1))]
        exact ⟨rfl, pw_rp_no hr T48 W48 F48⟩
    · refine pw_blk (pc' := 32) [.aload 0, .getfield 820, .iload 1] (by decide +kernel) ?_
      show pw_V x m_X8_readEnemies 4 Z 32 [(1, .int (nI y8)), (0, .ref 26)] [.int (nI y8), .int (m8 26 20)] m8
      rw [show m8 26 20 = pw_mV A (pw_tE A e) from T8.2.2.2]
      refine pw_ic_ne (tgt := 40) (off := 8) (by decide +kernel) (by decide) (fun h32 => ?_) (fun h32 => ?_)
      · refine pw_blk (pc' := 48) [.aload 0, .iconst 0, .aload 0, .getfield 825, .iconst 1, .isub] (by decide +kernel) ?_
        show pw_V x m_X8_readEnemies 4 Z 48 [(1, .int (nI y8)), (0, .ref 26)] [.int ((m8 26 25) - (nI 1)), .int (nI 0), .ref 26] m8
        rw [show m8 26 25 = nI k from (S8.1.2.trans hk)]
        refine pw_cV (vs := [.int (nI 0), .int ((nI k) - (nI 1))]) (rest := []) k_X8_number (c_mnumb (A := A) m8 X8 (pw_tE A e) (by omega) T8 b21 hok true W8 0 k ((nI k) - (nI 1)) rfl (by omega) (by omega)) l_8_145 rfl rfl rfl rfl (by omega) (Nat.le_of_ble_eq_true rfl) (by decide +kernel) ?_
        rintro _ m1 ⟨rfl, e1⟩
        rw [e1]
        clear e1 m1
        show pw_V x m_X8_readEnemies 4 Z 51 [(1, .int (nI y8)), (0, .ref 26)] [.int (pw_nuR A (pw_tE A e) 0 k true)] (pw_nuM A m8 (pw_tE A e) 0 k true)
        by_cases c48 : pw_rgb 0 k (pw_tN A (pw_tE A e)) = true
        · obtain ⟨y48, ey48, ya48, yb48⟩ := pw_rgb_t c48 (by omega) (by omega)
          rw [show pw_nuR A (pw_tE A e) 0 k true = nI y48 from by unfold pw_nuR pw_nuC; rw [c48, ← ey48]; rfl, show pw_nuM A m8 (pw_tE A e) 0 k true = pw_tok A (pw_up m8 26 21 (nI 1)) (pw_tE A (pw_tE A e)) from by unfold pw_nuM pw_nuC; rw [c48]; rfl]
          have w48 := pw_tb1 (A := A) (e := pw_tE A (pw_tE A e)) (by omega)
          obtain ⟨m48, hm48⟩ : ∃ m, m = pw_tok A (pw_up m8 26 21 (nI 1)) (pw_tE A (pw_tE A e)) := ⟨_, rfl⟩
          rw [← hm48]
          have T48 : TK A m48 (pw_tE A (pw_tE A e)) := by rw [hm48]; exact pw_tok_TK
          have W48 : m48 26 21 = nI 1 := by rw [hm48]; exact (pw_tok_6 (by omega)).trans pw_up_gs
          have X48 : MX A m48 := by rw [hm48]; exact MX.t (MX.u X8 (by decide))
          have S48 : SD X m48 := by rw [hm48]; exact SD.t (SD.w S8)
          have F48 : pw_rfm mm m48 := by rw [hm48]; exact pw_rfm_k (pw_rfm_6 F8 (by decide))
          clear hm48
          show pw_V x m_X8_readEnemies 4 Z 51 [(1, .int (nI y8)), (0, .ref 26)] [.int (nI y48)] m48
          refine pw_blk (pc' := 56) [.istore 2, .aload 0, .getfield 821] (by decide +kernel) ?_
          show pw_V x m_X8_readEnemies 4 Z 56 [(2, .int (nI y48)), (1, .int (nI y8)), (0, .ref 26)] [.int (m48 26 21)] m48
          rw [show m48 26 21 = nI 1 from W48]
          refine pw_iz_eq (tgt := 83) (off := 27) (by omega) (by decide +kernel) (by decide) (fun h => by omega) (fun _ => ?_)
          refine pw_blk (pc' := 83) [.aload 0, .getfield 827, .iload 1, .dup2, .iaload, .iconst 1, .iload 2, .ishl, .ior, .iastore, .aload 0, .getfield 827, .iload 2, .dup2, .iaload, .iconst 1, .iload 1, .ishl, .ior, .iastore] (by decide +kernel) ?_
          refine ⟨y8, rfl, by first | omega | (have := pw_mT_b (A := A) (e := pw_tE A e); omega), ?_⟩
          refine ⟨y8, rfl, by first | omega | (have := pw_mT_b (A := A) (e := pw_tE A e); omega), ?_⟩
          refine ⟨y48, rfl, by first | omega | (have := pw_mT_b (A := A) (e := pw_tE A e); omega), ?_⟩
          refine ⟨y48, rfl, by first | omega | (have := pw_mT_b (A := A) (e := pw_tE A e); omega), ?_⟩
          show pw_V x m_X8_readEnemies 4 Z 83 [(2, .int (nI y48)), (1, .int (nI y8)), (0, .ref 26)] [] (pw_up (pw_up m48 38 y8 ((m48 38 y8) ||| ((nI 1) <<< ((nI y48) &&& 31)))) 38 y48 (((pw_up m48 38 y8 ((m48 38 y8) ||| ((nI 1) <<< ((nI y48) &&& 31)))) 38 y48) ||| ((nI 1) <<< ((nI y8) &&& 31))))
          rw [show (nI 1) <<< ((nI y48) &&& 31) = nI (2 ^ y48) from pw_shl1 (by first | omega | (have := pw_mT_b (A := A) (e := pw_tE A e); omega))]
          rw [show (nI 1) <<< ((nI y8) &&& 31) = nI (2 ^ y8) from pw_shl1 (by first | omega | (have := pw_mT_b (A := A) (e := pw_tE A e); omega))]
          rw [← hZ]
          refine pw_rv (by decide +kernel) ?_
          have hr : pw_rest A s k 8 e = (some (8, y8, y48), (pw_tE A (pw_tE A e))) := by
            unfold pw_rest
            rw [if_neg (show ¬ pw_nb 8 < 1 from by decide), if_pos (show pw_rgb (pw_le_ 8) (pw_mf s k 8) (pw_tN A e) = true from by rw [hle, hmf]; exact c8), if_neg (show ¬ pw_nb 8 < 2 from by decide), if_pos ⟨show pw_rgb 0 (pw_ms k 8) (pw_tN A (pw_tE A e)) = true from by rw [hms]; exact c48, fun z => by have q := pw_num_v (by omega) (by omega) c48; have q2 := (pw_num_in (by omega) (by omega)).mpr c48; exact h32 (by rw [q, z.2, ey8])⟩, ey8, ey48, pw_c_nI (show y8 < 2 ^ 31 by omega), pw_c_nI (show y48 < 2 ^ 31 by omega)]
          exact ⟨rfl, pw_rp_ok hr (TK.c (TK.c T48 (by decide)) (by decide)) ((pw_up_o6 (by decide)).trans ((pw_up_o6 (by decide)).trans W48)) (pw_rfm_c (pw_rfm_c F48 (by decide)) (by decide)) (show SD (G_o1 X (8, y8, y48)) _ from by unfold G_o1; rw [show G_ob X 8 (nI y8) (nI y48) = G_me X y8 y48 from by show G_me X (pw_c (nI y8)) (pw_c (nI y48)) = _; rw [pw_c_nI (by omega), pw_c_nI (by omega)]]; exact SD.me1 (SD.me1 S48 (by omega)) (by omega))⟩
        · rw [show pw_nuR A (pw_tE A e) 0 k true = nI 0 from by unfold pw_nuR pw_nuC; rw [Bool.true_and, if_neg c48], show pw_nuM A m8 (pw_tE A e) 0 k true = pw_up m8 26 21 (nI 0) from by unfold pw_nuM pw_nuC; rw [Bool.true_and, if_neg c48]]
          obtain ⟨m48, hm48⟩ : ∃ m, m = pw_up m8 26 21 (nI 0) := ⟨_, rfl⟩
          rw [← hm48]
          have T48 : TK A m48 (pw_tE A e) := by rw [hm48]; exact (TK.u T8)
          have W48 : m48 26 21 = nI 0 := by rw [hm48]; exact pw_up_gs
          have X48 : MX A m48 := by rw [hm48]; exact MX.u X8 (by decide)
          have S48 : SD X m48 := by rw [hm48]; exact SD.w S8
          have F48 : pw_rfm mm m48 := by rw [hm48]; exact pw_rfm_6 F8 (by decide)
          clear hm48
          show pw_V x m_X8_readEnemies 4 Z 51 [(1, .int (nI y8)), (0, .ref 26)] [.int (nI 0)] m48
          refine pw_blk (pc' := 56) [.istore 2, .aload 0, .getfield 821] (by decide +kernel) ?_
          show pw_V x m_X8_readEnemies 4 Z 56 [(2, .int (nI 0)), (1, .int (nI y8)), (0, .ref 26)] [.int (m48 26 21)] m48
          rw [show m48 26 21 = nI 0 from W48]
          refine pw_iz_eq (tgt := 83) (off := 27) (by omega) (by decide +kernel) (by decide) (fun _ => ?_) (fun h => by omega)
          rw [← hZ]
          refine pw_rv (by decide +kernel) ?_
          have hr : pw_rest A s k 8 e = (none, (pw_tE A e)) := by
            unfold pw_rest
            rw [if_neg (show ¬ pw_nb 8 < 1 from by decide), if_pos (show pw_rgb (pw_le_ 8) (pw_mf s k 8) (pw_tN A e) = true from by rw [hle, hmf]; exact c8), if_neg (show ¬ pw_nb 8 < 2 from by decide), if_neg (fun z => c48 (by rw [hms] at z; exact z.1))]
          exact ⟨rfl, pw_rp_no hr T48 W48 F48⟩
      · refine pw_blk (pc' := 48) [.aload 0, .iconst 0, .putfield 821, .aload 0, .iconst 0, .aload 0, .getfield 825, .iconst 1, .isub] (by decide +kernel) ?_
        refine ⟨Or.inl rfl, ?_⟩
        show pw_V x m_X8_readEnemies 4 Z 48 [(1, .int (nI y8)), (0, .ref 26)] [.int ((m8 26 25) - (nI 1)), .int (nI 0), .ref 26] (pw_up m8 26 21 (nI 0))
        rw [show m8 26 25 = nI k from (S8.1.2.trans hk)]
        refine pw_cV (vs := [.int (nI 0), .int ((nI k) - (nI 1))]) (rest := []) k_X8_number (c_mnumb (A := A) (pw_up m8 26 21 (nI 0)) (MX.u X8 (by decide)) (pw_tE A e) (by omega) (TK.u T8) b21 hok false pw_up_gs 0 k ((nI k) - (nI 1)) rfl (by omega) (by omega)) l_8_145 rfl rfl rfl rfl (by omega) (Nat.le_of_ble_eq_true rfl) (by decide +kernel) ?_
        rintro _ m1 ⟨rfl, e1⟩
        rw [e1]
        clear e1 m1
        show pw_V x m_X8_readEnemies 4 Z 51 [(1, .int (nI y8)), (0, .ref 26)] [.int (pw_nuR A (pw_tE A e) 0 k false)] (pw_nuM A (pw_up m8 26 21 (nI 0)) (pw_tE A e) 0 k false)
        rw [show pw_nuR A (pw_tE A e) 0 k false = nI 0 from rfl, show pw_nuM A (pw_up m8 26 21 (nI 0)) (pw_tE A e) 0 k false = pw_up (pw_up m8 26 21 (nI 0)) 26 21 (nI 0) from rfl]
        obtain ⟨m48, hm48⟩ : ∃ m, m = pw_up (pw_up m8 26 21 (nI 0)) 26 21 (nI 0) := ⟨_, rfl⟩
        rw [← hm48]
        have T48 : TK A m48 (pw_tE A e) := by rw [hm48]; exact (TK.u (TK.u T8))
        have W48 : m48 26 21 = nI 0 := by rw [hm48]; exact pw_up_gs
        have X48 : MX A m48 := by rw [hm48]; exact MX.u (MX.u X8 (by decide)) (by decide)
        have S48 : SD X m48 := by rw [hm48]; exact SD.w (SD.w S8)
        have F48 : pw_rfm mm m48 := by rw [hm48]; exact pw_rfm_6 (pw_rfm_6 F8 (by decide)) (by decide)
        clear hm48
        refine pw_blk (pc' := 56) [.istore 2, .aload 0, .getfield 821] (by decide +kernel) ?_
        show pw_V x m_X8_readEnemies 4 Z 56 [(2, .int (nI 0)), (1, .int (nI y8)), (0, .ref 26)] [.int (m48 26 21)] m48
        rw [show m48 26 21 = nI 0 from W48]
        refine pw_iz_eq (tgt := 83) (off := 27) (by omega) (by decide +kernel) (by decide) (fun _ => ?_) (fun h => by omega)
        rw [← hZ]
        refine pw_rv (by decide +kernel) ?_
        have hr : pw_rest A s k 8 e = (none, (pw_tE A e)) := by
          unfold pw_rest
          rw [if_neg (show ¬ pw_nb 8 < 1 from by decide), if_pos (show pw_rgb (pw_le_ 8) (pw_mf s k 8) (pw_tN A e) = true from by rw [hle, hmf]; exact c8), if_neg (show ¬ pw_nb 8 < 2 from by decide), if_neg (fun z => z.2 ⟨rfl, by have q := pw_num_v (by omega) (by omega) z.1; rw [← q, h32, ey8]⟩)]
        exact ⟨rfl, pw_rp_no hr T48 W48 F48⟩
  · rw [show pw_nuR A e 0 k true = nI 0 from by unfold pw_nuR pw_nuC; rw [Bool.true_and, if_neg c8], show pw_nuM A mm e 0 k true = pw_up mm 26 21 (nI 0) from by unfold pw_nuM pw_nuC; rw [Bool.true_and, if_neg c8]]
    obtain ⟨m8, hm8⟩ : ∃ m, m = pw_up mm 26 21 (nI 0) := ⟨_, rfl⟩
    rw [← hm8]
    have T8 : TK A m8 e := by rw [hm8]; exact (TK.u hT)
    have W8 : m8 26 21 = nI 0 := by rw [hm8]; exact pw_up_gs
    have X8 : MX A m8 := by rw [hm8]; exact MX.u hx (by decide)
    have S8 : SD X m8 := by rw [hm8]; exact SD.w hX
    have F8 : pw_rfm mm m8 := by rw [hm8]; exact pw_rfm_6 pw_rfm_r (by decide)
    clear hm8
    show pw_V x m_X8_readEnemies 4 Z 11 [(0, .ref 26)] [.int (nI 0)] m8
    refine pw_blk (pc' := 16) [.istore 1, .aload 0, .getfield 821] (by decide +kernel) ?_
    show pw_V x m_X8_readEnemies 4 Z 16 [(1, .int (nI 0)), (0, .ref 26)] [.int (m8 26 21)] m8
    rw [show m8 26 21 = nI 0 from W8]
    refine pw_iz_eq (tgt := 40) (off := 24) (by omega) (by decide +kernel) (by decide) (fun _ => ?_) (fun h => by omega)
    refine pw_blk (pc' := 48) [.aload 0, .iconst 0, .aload 0, .getfield 825, .iconst 1, .isub] (by decide +kernel) ?_
    show pw_V x m_X8_readEnemies 4 Z 48 [(1, .int (nI 0)), (0, .ref 26)] [.int ((m8 26 25) - (nI 1)), .int (nI 0), .ref 26] m8
    rw [show m8 26 25 = nI k from (S8.1.2.trans hk)]
    refine pw_cV (vs := [.int (nI 0), .int ((nI k) - (nI 1))]) (rest := []) k_X8_number (c_mnumb (A := A) m8 X8 e (by omega) T8 b21 hok false W8 0 k ((nI k) - (nI 1)) rfl (by omega) (by omega)) l_8_145 rfl rfl rfl rfl (by omega) (Nat.le_of_ble_eq_true rfl) (by decide +kernel) ?_
    rintro _ m1 ⟨rfl, e1⟩
    rw [e1]
    clear e1 m1
    show pw_V x m_X8_readEnemies 4 Z 51 [(1, .int (nI 0)), (0, .ref 26)] [.int (pw_nuR A e 0 k false)] (pw_nuM A m8 e 0 k false)
    rw [show pw_nuR A e 0 k false = nI 0 from rfl, show pw_nuM A m8 e 0 k false = pw_up m8 26 21 (nI 0) from rfl]
    obtain ⟨m48, hm48⟩ : ∃ m, m = pw_up m8 26 21 (nI 0) := ⟨_, rfl⟩
    rw [← hm48]
    have T48 : TK A m48 e := by rw [hm48]; exact (TK.u T8)
    have W48 : m48 26 21 = nI 0 := by rw [hm48]; exact pw_up_gs
    have X48 : MX A m48 := by rw [hm48]; exact MX.u X8 (by decide)
    have S48 : SD X m48 := by rw [hm48]; exact SD.w S8
    have F48 : pw_rfm mm m48 := by rw [hm48]; exact pw_rfm_6 F8 (by decide)
    clear hm48
    refine pw_blk (pc' := 56) [.istore 2, .aload 0, .getfield 821] (by decide +kernel) ?_
    show pw_V x m_X8_readEnemies 4 Z 56 [(2, .int (nI 0)), (1, .int (nI 0)), (0, .ref 26)] [.int (m48 26 21)] m48
    rw [show m48 26 21 = nI 0 from W48]
    refine pw_iz_eq (tgt := 83) (off := 27) (by omega) (by decide +kernel) (by decide) (fun _ => ?_) (fun h => by omega)
    rw [← hZ]
    refine pw_rv (by decide +kernel) ?_
    have hr : pw_rest A s k 8 e = (none, e) := by
      unfold pw_rest
      rw [if_neg (show ¬ pw_nb 8 < 1 from by decide), if_neg (fun z => c8 (by rw [hle, hmf] at z; exact z))]
    exact ⟨rfl, pw_rp_no hr T48 W48 F48⟩
