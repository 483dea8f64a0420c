set_option maxHeartbeats 4000000 in
set_option maxRecDepth 100000 in
theorem c_mknows {A : pw_m} (mm : pw_m) (hv : MV A mm) (hok : pw_ok A) (n : Int32) : pw_Ct 5 yX8_knows m_X8_knows [.ref 26, .int n] mm (fun r m' => r = some (.int (F_knows A n)) ∧ MV (A) m' ∧ pw_mf_ mm m') := by
  refine pw_ct (by decide +kernel) rfl (Nat.le_of_ble_eq_true rfl) (fun x => ?_)
  generalize hZ : pw_Z x _ = Z
  have bn := pw_bn hok
  have bk := pw_bk hok
  have hla := pw_LA_len (A := A) (q := none) bn (pw_k A) (fun _ => 0) 0 (Nat.le_refl _)
  have h86 : 8 ^ pw_k A ≤ 8 ^ 6 := Nat.pow_le_pow_right (by omega) bk
  show pw_V x m_X8_knows 5 Z 0 [(0, .ref 26), (1, .int n)] [] mm
  refine pw_blk (pc' := 3) [.iload 1, .iconst 0, .iconst 3] (by decide +kernel) ?_
  show pw_V x m_X8_knows 5 Z 3 [(0, .ref 26), (1, .int n)] [.int (nI 3), .int (nI 0), .int n] mm
  refine pw_cS (vs := [.int n, .int (nI 0), .int (nI 3)]) (rest := []) k_X8_in (c_in0 n 3 mm (by first | omega | exact pw_g_lt)) l_8_78 rfl (by omega) (Nat.le_of_ble_eq_true rfl) (by decide +kernel) ?_
  rintro _ m1 ⟨rfl, e1⟩
  rw [e1]
  clear e1 m1
  show pw_V x m_X8_knows 5 Z 6 [(0, .ref 26), (1, .int n)] [.int (pw_b (pw_inr n 4))] mm
  refine pw_ib_ne (tgt := 12) (off := 6) (by decide +kernel) (by decide) (fun h6 => ?_) (fun h6 => ?_)
  · obtain ⟨j6, b6, e6⟩ := pw_inr_t (by omega) h6
    subst e6
    refine pw_blk (pc' := 14) [.aload 0, .iload 1] (by decide +kernel) ?_
    show pw_V x m_X8_knows 5 Z 14 [(0, .ref 26), (1, .int (nI j6))] [.int (nI j6), .ref 26] mm
    refine pw_cV (vs := [.int (nI j6)]) (rest := []) k_X8_findSeatings (cL_mfind mm (mvL_i hv) hok none hv.2.2.2.2.2 pw_none8 j6 b6) l_8_249 rfl rfl rfl rfl (by omega) (Nat.le_of_ble_eq_true rfl) (by decide +kernel) ?_
    rintro _ m1 ⟨rfl, gz, hm1⟩
    show pw_V x m_X8_knows 5 Z 17 [(0, .ref 26), (1, .int (nI j6))] [] m1
    refine pw_blk (pc' := 21) [.aload 0, .getfield 834] (by decide +kernel) ?_
    show pw_V x m_X8_knows 5 Z 21 [(0, .ref 26), (1, .int (nI j6))] [.int (m1 26 34)] m1
    rw [show m1 26 34 = nI ((pw_acc A j6 ((0, 0, 0, fun _ => none) : pw_ac) (pw_LA A none (pw_k A) (fun _ => 0) 0)).1) from (by rw [hm1]; rfl)]
    refine pw_iz_ne (tgt := 28) (off := 7) (by first | omega | (rw [pw_acc_1]; show 0 + _ < _; omega)) (by decide +kernel) (by decide) (fun h21 => ?_) (fun h21 => ?_)
    · refine pw_blk (pc' := 32) [.aload 0, .getfield 837] (by decide +kernel) ?_
      show pw_V x m_X8_knows 5 Z 32 [(0, .ref 26), (1, .int (nI j6))] [.int (m1 26 37)] m1
      rw [show m1 26 37 = nI ((pw_acc A j6 ((0, 0, 0, fun _ => none) : pw_ac) (pw_LA A none (pw_k A) (fun _ => 0) 0)).2.2.1) from (by rw [hm1]; rfl)]
      rw [← hZ]
      refine pw_ri (by decide +kernel) ?_
      refine ⟨?_, by rw [hm1]; exact pw_mvF hv, by rw [hm1]; exact pw_mfF⟩
      rw [pw_acc_1, Nat.zero_add] at h21
      unfold F_knows
      rw [if_pos h6, pw_c_nI (show j6 < 2 ^ 31 by omega), pw_F_mo hok]
      cases hL : pw_LA A none (pw_k A) (fun _ => 0) 0 with
      | nil => rw [hL] at h21; exact absurd rfl h21
      | cons p l =>
        rw [List.foldl_cons, show pw_mxk (fun p => pw_knw A j6 (pw_SA A p (pw_k A)) (pw_k A)) none p = some (max 0 (pw_knw A j6 (pw_SA A p (pw_k A)) (pw_k A))) from rfl, pw_mxk_s, Nat.zero_max]
        rw [show pw_acc A j6 ((0, 0, 0, fun _ => none) : pw_ac) (p :: l) = pw_acc A j6 (pw_fin A j6 (pw_SA A p (pw_k A)) ((0, 0, 0, fun _ => none) : pw_ac)) l from rfl, pw_acc_m l _ (by show 0 < 0 + 1; omega)]
        rfl
    · refine pw_blk (pc' := 25) [.iconst (-1)] (by decide +kernel) ?_
      show pw_V x m_X8_knows 5 Z 25 [(0, .ref 26), (1, .int (nI j6))] [.int (-1)] m1
      refine pw_goto (tgt := 32) (off := 7) (by decide +kernel) (by decide) ?_
      rw [← hZ]
      refine pw_ri (by decide +kernel) ?_
      refine ⟨?_, by rw [hm1]; exact pw_mvF hv, by rw [hm1]; exact pw_mfF⟩
      rw [pw_acc_1, Nat.zero_add] at h21
      unfold F_knows
      rw [if_pos h6, pw_c_nI (show j6 < 2 ^ 31 by omega), pw_F_mo hok]
      have hL : pw_LA A none (pw_k A) (fun _ => 0) 0 = [] := List.length_eq_zero_iff.mp h21
      rw [hL]
      rfl
  · refine pw_blk (pc' := 11) [.iconst (-3)] (by decide +kernel) ?_
    show pw_V x m_X8_knows 5 Z 11 [(0, .ref 26), (1, .int n)] [.int (-3)] mm
    rw [← hZ]
    refine pw_ri (by decide +kernel) ?_
    exact ⟨by unfold F_knows; rw [if_neg (by rw [h6]; decide)], hv, pw_mf_r⟩
