theorem pw_F_wy {A : pw_m} {q : Option Nat} : F_wy A q = (pw_LA A q (pw_k A) (fun _ => 0) 0).length := pw_wy_L (pw_k A) _ 0 (Nat.le_refl _)
theorem pw_F_ft {A : pw_m} : F_ft A = (pw_LA A none (pw_k A) (fun _ => 0) 0).head? := pw_fT_L (pw_k A) _ 0 (Nat.le_refl _)
theorem pw_mn_le {c : (Nat → Nat) → Nat} : ∀ (l : List (Nat → Nat)) (x : Nat), l.foldl (pw_mn c) x ≤ x := by
  intro l
  induction l with
  | nil => intro x; exact Nat.le_refl _
  | cons p l ih =>
    intro x
    rw [List.foldl_cons]
    refine Nat.le_trans (ih _) ?_
    unfold pw_mn
    split <;> omega
theorem pw_mn_congr {c c' : (Nat → Nat) → Nat} : ∀ (l : List (Nat → Nat)) (x : Nat), (∀ p ∈ l, c p = c' p) → l.foldl (pw_mn c) x = l.foldl (pw_mn c') x := by
  intro l
  induction l with
  | nil => intro x _; rfl
  | cons p l ih =>
    intro x h
    rw [List.foldl_cons, List.foldl_cons, ih _ (fun q hq => h q (List.mem_cons_of_mem _ hq))]
    congr 1
    unfold pw_mn
    rw [h p List.mem_cons_self]
theorem pw_F_fw {A : pw_m} (hok : pw_ok A) : F_fw A = (pw_LA A none (pw_k A) (fun _ => 0) 0).foldl (pw_mn (fun p => pw_mvd A (pw_SA A p (pw_k A)) (pw_k A))) 7 := by
  have h := pw_fw_L (n := pw_n A) (kn := pw_k A) (th := pw_g A 42 1) (gd := pw_gd A none) (en := fun k => pw_g A 10 k) (row := pw_psI A none (pw_k A) 24) (pw_k A) (fun _ => 0) 0 7 (Nat.le_refl _)
  rw [Nat.sub_self, show pw_cw (pw_g A 42 1) (pw_psI A none (pw_k A) 24) (fun _ => 0) 0 = 0 from rfl] at h
  unfold F_fw
  rw [h]
  refine pw_mn_congr _ _ (fun p hp => ?_)
  refine (pw_mvd_cw hok (fun j hj ht => ?_) (fun j hj => ?_)).symm
  · have := pw_LA_lt (A := A) (q := none) (pw_k A) (fun _ => 0) 0 p (Nat.le_refl _) (fun i hi _ => by omega) hp j hj ht
    have := pw_bn hok
    omega
  · unfold pw_psI pw_c6
    rw [if_neg (by omega), if_neg (by omega), if_neg (by omega), if_pos rfl, if_pos hj]
theorem pw_mvF {A m : pw_m} {g : Nat → Option Nat} {a : pw_ac} (hv : MV A m) : MV A (pw_sM m g a) := hv.f (fun c q1 q2 => pw_sM_o (by omega) (by omega) (by omega)) (fun j hj => pw_sM_6 (by omega) (by omega) (by omega))
theorem pw_mfF {m : pw_m} {g : Nat → Option Nat} {a : pw_ac} : pw_mf_ m (pw_sM m g a) := fun c hc => pw_sM_o (by omega) (by omega) (by omega)
theorem pw_none8 : ∀ a, (none : Option Nat) = some a → a < 8 := fun a z => by cases z

set_option maxHeartbeats 4000000 in
set_option maxRecDepth 100000 in
theorem c_mseatings {A : pw_m} (mm : pw_m) (hv : MV A mm) (hok : pw_ok A) : pw_Ct 5 yX8_seatings m_X8_seatings [.ref 26] mm (fun r m' => r = some (.int (nI (F_wy A none))) ∧ MV (A) m' ∧ pw_mf_ mm m') := by
  refine pw_ct (by decide +kernel) rfl (Nat.le_of_ble_eq_true rfl) (fun x => ?_)
  generalize hZ : pw_Z x _ = Z
  have bn := pw_bn hok
  have bk := pw_bk hok
  show pw_V x m_X8_seatings 5 Z 0 [(0, .ref 26)] [] mm
  refine pw_blk (pc' := 2) [.aload 0, .iconst 0] (by decide +kernel) ?_
  show pw_V x m_X8_seatings 5 Z 2 [(0, .ref 26)] [.int (nI 0), .ref 26] mm
  refine pw_cV (vs := [.int (nI 0)]) (rest := []) k_X8_findSeatings (cL_mfind mm (mvL_i hv) hok none hv.2.2.2.2.2 pw_none8 0 (by omega)) l_8_249 rfl rfl rfl rfl (by omega) (Nat.le_of_ble_eq_true rfl) (by decide +kernel) ?_
  rintro _ m1 ⟨rfl, gz, hm1⟩
  show pw_V x m_X8_seatings 5 Z 5 [(0, .ref 26)] [] m1
  refine pw_blk (pc' := 9) [.aload 0, .getfield 834] (by decide +kernel) ?_
  show pw_V x m_X8_seatings 5 Z 9 [(0, .ref 26)] [.int (m1 26 34)] m1
  rw [show m1 26 34 = nI ((pw_acc A 0 ((0, 0, 0, fun _ => none) : pw_ac) (pw_LA A none (pw_k A) (fun _ => 0) 0)).1) from (by rw [hm1]; rfl)]
  rw [← hZ]
  refine pw_ri (by decide +kernel) ?_
  exact ⟨by rw [pw_F_wy, pw_acc_1, Nat.zero_add], by rw [hm1]; exact pw_mvF hv, by rw [hm1]; exact pw_mfF⟩

set_option maxHeartbeats 4000000 in
set_option maxRecDepth 100000 in
theorem c_mseatOf {A : pw_m} (mm : pw_m) (hv : MV A mm) (hok : pw_ok A) (k : Int32) : pw_Ct 5 yX8_seatOf m_X8_seatOf [.ref 26, .int k] mm (fun r m' => r = some (.int (F_seatOf A k)) ∧ MV (A) m' ∧ pw_mf_ mm m') := by
  refine pw_ct (by decide +kernel) rfl (Nat.le_of_ble_eq_true rfl) (fun x => ?_)
  generalize hZ : pw_Z x _ = Z
  have bn := pw_bn hok
  have bk := pw_bk hok
  show pw_V x m_X8_seatOf 5 Z 0 [(0, .ref 26), (1, .int k)] [] mm
  refine pw_blk (pc' := 2) [.aload 0, .iload 1] (by decide +kernel) ?_
  show pw_V x m_X8_seatOf 5 Z 2 [(0, .ref 26), (1, .int k)] [.int k, .ref 26] mm
  refine pw_cV (vs := [.int k]) (rest := []) k_X8_isKnight (c_misKnight mm hv hok k) l_8_82 rfl rfl rfl rfl (by omega) (Nat.le_of_ble_eq_true rfl) (by decide +kernel) ?_
  rintro _ m1 ⟨rfl, e1⟩
  rw [e1]
  clear e1 m1
  show pw_V x m_X8_seatOf 5 Z 5 [(0, .ref 26), (1, .int k)] [.int (pw_b (pw_inr k (pw_k A)))] mm
  refine pw_ib_ne (tgt := 11) (off := 6) (by decide +kernel) (by decide) (fun h5 => ?_) (fun h5 => ?_)
  · obtain ⟨j5, b5, e5⟩ := pw_inr_t (by omega) h5
    subst e5
    refine pw_blk (pc' := 13) [.aload 0, .iconst 0] (by decide +kernel) ?_
    show pw_V x m_X8_seatOf 5 Z 13 [(0, .ref 26), (1, .int (nI j5))] [.int (nI 0), .ref 26] mm
    refine pw_cV (vs := [.int (nI 0)]) (rest := []) k_X8_findSeatings (cL_mfind mm (mvL_i hv) hok none hv.2.2.2.2.2 pw_none8 0 (by omega)) l_8_249 rfl rfl rfl rfl (by omega) (Nat.le_of_ble_eq_true rfl) (by decide +kernel) ?_
    rintro _ m1 ⟨rfl, gz, hm1⟩
    show pw_V x m_X8_seatOf 5 Z 16 [(0, .ref 26), (1, .int (nI j5))] [] m1
    refine pw_blk (pc' := 22) [.aload 0, .getfield 835, .iload 1, .iaload] (by decide +kernel) ?_
    refine ⟨j5, rfl, by first | omega | exact pw_g_lt, ?_⟩
    show pw_V x m_X8_seatOf 5 Z 22 [(0, .ref 26), (1, .int (nI j5))] [.int (m1 41 j5)] m1
    rw [show m1 41 j5 = pw_o (((pw_acc A 0 ((0, 0, 0, fun _ => none) : pw_ac) (pw_LA A none (pw_k A) (fun _ => 0) 0)).2.2.2 j5)) from (by rw [hm1]; exact pw_sM_41 (by omega))]
    rw [← hZ]
    refine pw_ri (by decide +kernel) ?_
    refine ⟨?_, by rw [hm1]; exact pw_mvF hv, by rw [hm1]; exact pw_mfF⟩
    unfold F_seatOf
    rw [if_pos h5, pw_c_nI (show j5 < 2 ^ 31 by omega), pw_F_ft]
    congr 2
    cases hL : pw_LA A none (pw_k A) (fun _ => 0) 0 with
    | nil =>
      rw [show ([] : List (Nat → Nat)).head? = none from rfl]
      show pw_o none = _
      split <;> rfl
    | cons p l =>
      rw [show pw_acc A 0 ((0, 0, 0, fun _ => none) : pw_ac) (p :: l) = pw_acc A 0 (pw_fin A 0 (pw_SA A p (pw_k A)) ((0, 0, 0, fun _ => none) : pw_ac)) l from rfl, pw_acc_f l _ (by show 0 < 0 + 1; omega)]
      show pw_o (if j5 < pw_k A ∧ (pw_g A 42 1).testBit j5 = true ∧ 0 = 0 then pw_SA A p (pw_k A) j5 else none) = _
      by_cases ht : (pw_g A 42 1).testBit j5 = true
      · rw [if_pos ⟨b5, ht, rfl⟩, if_pos ht, pw_SA_some.mpr ⟨b5, ht, rfl⟩]
        rfl
      · rw [if_neg (fun z => ht z.2.1), if_neg ht]
        rfl
  · refine pw_blk (pc' := 10) [.iconst (-2)] (by decide +kernel) ?_
    show pw_V x m_X8_seatOf 5 Z 10 [(0, .ref 26), (1, .int k)] [.int (-2)] mm
    rw [← hZ]
    refine pw_ri (by decide +kernel) ?_
    exact ⟨by unfold F_seatOf; rw [if_neg (by rw [h5]; decide)], hv, pw_mf_r⟩

set_option maxHeartbeats 4000000 in
set_option maxRecDepth 100000 in
theorem c_mmoved {A : pw_m} (mm : pw_m) (hv : MV A mm) (hok : pw_ok A) : pw_Ct 5 yX8_moved m_X8_moved [.ref 26] mm (fun r m' => r = some (.int (F_moved A)) ∧ MV (A) m' ∧ pw_mf_ mm m') := by
  refine pw_ct (by decide +kernel) rfl (Nat.le_of_ble_eq_true rfl) (fun x => ?_)
  generalize hZ : pw_Z x _ = Z
  have bn := pw_bn hok
  have bk := pw_bk hok
  have hla := pw_LA_len (A := A) (q := none) bn (pw_k A) (fun _ => 0) 0 (Nat.le_refl _)
  have h86 : 8 ^ pw_k A ≤ 8 ^ 6 := Nat.pow_le_pow_right (by omega) bk
  show pw_V x m_X8_moved 5 Z 0 [(0, .ref 26)] [] mm
  refine pw_blk (pc' := 2) [.aload 0, .iconst 0] (by decide +kernel) ?_
  show pw_V x m_X8_moved 5 Z 2 [(0, .ref 26)] [.int (nI 0), .ref 26] mm
  refine pw_cV (vs := [.int (nI 0)]) (rest := []) k_X8_findSeatings (cL_mfind mm (mvL_i hv) hok none hv.2.2.2.2.2 pw_none8 0 (by omega)) l_8_249 rfl rfl rfl rfl (by omega) (Nat.le_of_ble_eq_true rfl) (by decide +kernel) ?_
  rintro _ m1 ⟨rfl, gz, hm1⟩
  show pw_V x m_X8_moved 5 Z 5 [(0, .ref 26)] [] m1
  refine pw_blk (pc' := 9) [.aload 0, .getfield 834] (by decide +kernel) ?_
  show pw_V x m_X8_moved 5 Z 9 [(0, .ref 26)] [.int (m1 26 34)] m1
  rw [show m1 26 34 = nI ((pw_acc A 0 ((0, 0, 0, fun _ => none) : pw_ac) (pw_LA A none (pw_k A) (fun _ => 0) 0)).1) from (by rw [hm1]; rfl)]
  refine pw_iz_ne (tgt := 16) (off := 7) (by first | omega | (rw [pw_acc_1]; show 0 + _ < _; omega)) (by decide +kernel) (by decide) (fun h9 => ?_) (fun h9 => ?_)
  · refine pw_blk (pc' := 20) [.aload 0, .getfield 836] (by decide +kernel) ?_
    show pw_V x m_X8_moved 5 Z 20 [(0, .ref 26)] [.int (m1 26 36)] m1
    rw [show m1 26 36 = nI ((pw_acc A 0 ((0, 0, 0, fun _ => none) : pw_ac) (pw_LA A none (pw_k A) (fun _ => 0) 0)).2.1) from (by rw [hm1]; rfl)]
    rw [← hZ]
    refine pw_ri (by decide +kernel) ?_
    refine ⟨?_, by rw [hm1]; exact pw_mvF hv, by rw [hm1]; exact pw_mfF⟩
    rw [pw_acc_1, Nat.zero_add] at h9
    unfold F_moved
    rw [pw_F_fw hok]
    cases hL : pw_LA A none (pw_k A) (fun _ => 0) 0 with
    | nil => rw [hL] at h9; exact absurd rfl h9
    | cons p l =>
      have b1 : pw_mvd A (pw_SA A p (pw_k A)) (pw_k A) ≤ pw_k A := pw_ct_le
      rw [List.foldl_cons, show pw_mn (fun p => pw_mvd A (pw_SA A p (pw_k A)) (pw_k A)) 7 p = pw_mvd A (pw_SA A p (pw_k A)) (pw_k A) from if_neg (by show ¬ 7 ≤ pw_mvd A (pw_SA A p (pw_k A)) (pw_k A); omega)]
      have b2 := pw_mn_le (c := fun p => pw_mvd A (pw_SA A p (pw_k A)) (pw_k A)) l (pw_mvd A (pw_SA A p (pw_k A)) (pw_k A))
      rw [if_pos (by omega), show pw_acc A 0 ((0, 0, 0, fun _ => none) : pw_ac) (p :: l) = pw_acc A 0 (pw_fin A 0 (pw_SA A p (pw_k A)) ((0, 0, 0, fun _ => none) : pw_ac)) l from rfl, pw_acc_w l _ (by show 0 < 0 + 1; omega)]
      rfl
  · refine pw_blk (pc' := 13) [.iconst (-1)] (by decide +kernel) ?_
    show pw_V x m_X8_moved 5 Z 13 [(0, .ref 26)] [.int (-1)] m1
    refine pw_goto (tgt := 20) (off := 7) (by decide +kernel) (by decide) ?_
    rw [← hZ]
    refine pw_ri (by decide +kernel) ?_
    refine ⟨?_, by rw [hm1]; exact pw_mvF hv, by rw [hm1]; exact pw_mfF⟩
    rw [pw_acc_1, Nat.zero_add] at h9
    unfold F_moved
    rw [pw_F_fw hok]
    have hL : pw_LA A none (pw_k A) (fun _ => 0) 0 = [] := List.length_eq_zero_iff.mp h9
    rw [hL]
    rfl

set_option maxHeartbeats 4000000 in
set_option maxRecDepth 100000 in
theorem c_mlent {A : pw_m} (mm : pw_m) (hv : MV A mm) (hok : pw_ok A) (s : Int32) : pw_Ct 5 yX8_lent m_X8_lent [.ref 26, .int s] mm (fun r m' => r = some (.int (F_lent A s)) ∧ MV (A) m' ∧ pw_mf_ mm m') := by
  refine pw_ct (by decide +kernel) rfl (Nat.le_of_ble_eq_true rfl) (fun x => ?_)
  generalize hZ : pw_Z x _ = Z
  have bn := pw_bn hok
  have bk := pw_bk hok
  show pw_V x m_X8_lent 5 Z 0 [(0, .ref 26), (1, .int s)] [] mm
  refine pw_blk (pc' := 2) [.aload 0, .iload 1] (by decide +kernel) ?_
  show pw_V x m_X8_lent 5 Z 2 [(0, .ref 26), (1, .int s)] [.int s, .ref 26] mm
  refine pw_cV (vs := [.int s]) (rest := []) k_X8_isSeat (c_misSeat mm hv hok s) l_8_195 rfl rfl rfl rfl (by omega) (Nat.le_of_ble_eq_true rfl) (by decide +kernel) ?_
  rintro _ m1 ⟨rfl, e1⟩
  rw [e1]
  clear e1 m1
  show pw_V x m_X8_lent 5 Z 5 [(0, .ref 26), (1, .int s)] [.int (pw_b (pw_inr s (pw_n A)))] mm
  refine pw_ib_ne (tgt := 11) (off := 6) (by decide +kernel) (by decide) (fun h5 => ?_) (fun h5 => ?_)
  · obtain ⟨j5, b5, e5⟩ := pw_inr_t (by omega) h5
    subst e5
    refine pw_blk (pc' := 13) [.aload 0, .iconst 0] (by decide +kernel) ?_
    show pw_V x m_X8_lent 5 Z 13 [(0, .ref 26), (1, .int (nI j5))] [.int (nI 0), .ref 26] mm
    refine pw_cV (vs := [.int (nI 0)]) (rest := []) k_X8_findSeatings (cL_mfind mm (mvL_i hv) hok none hv.2.2.2.2.2 pw_none8 0 (by omega)) l_8_249 rfl rfl rfl rfl (by omega) (Nat.le_of_ble_eq_true rfl) (by decide +kernel) ?_
    rintro _ m1 ⟨rfl, gz, hm1⟩
    show pw_V x m_X8_lent 5 Z 16 [(0, .ref 26), (1, .int (nI j5))] [] m1
    have hv1 : MV A m1 := by rw [hm1]; exact pw_mvF hv
    refine pw_blk (pc' := 28) [.aload 0, .getfield 834, .istore 2, .aload 0, .iload 1, .putfield 833, .aload 0, .iconst 0] (by decide +kernel) ?_
    show pw_V x m_X8_lent 5 Z 28 [(2, .int (m1 26 34)), (0, .ref 26), (1, .int (nI j5))] [.int (nI 0), .ref 26] (pw_up m1 26 33 (nI j5))
    rw [show m1 26 34 = nI ((pw_acc A 0 ((0, 0, 0, fun _ => none) : pw_ac) (pw_LA A none (pw_k A) (fun _ => 0) 0)).1) from (by rw [hm1]; rfl)]
    refine pw_cV (vs := [.int (nI 0)]) (rest := []) k_X8_findSeatings (cL_mfind (pw_up m1 26 33 (nI j5)) (by rw [pw_up_up]; exact mvL_i hv1) hok (some j5) pw_up_gs (fun a z => by cases z; omega) 0 (by omega)) l_8_249 rfl rfl rfl rfl (by omega) (Nat.le_of_ble_eq_true rfl) (by decide +kernel) ?_
    rintro _ m2 ⟨rfl, gy, hm2⟩
    show pw_V x m_X8_lent 5 Z 31 [(2, .int (nI ((pw_acc A 0 ((0, 0, 0, fun _ => none) : pw_ac) (pw_LA A none (pw_k A) (fun _ => 0) 0)).1))), (0, .ref 26), (1, .int (nI j5))] [] m2
    refine pw_blk (pc' := 42) [.aload 0, .iconst (-1), .putfield 833, .aload 0, .getfield 834, .iload 2, .isub] (by decide +kernel) ?_
    show pw_V x m_X8_lent 5 Z 42 [(2, .int (nI ((pw_acc A 0 ((0, 0, 0, fun _ => none) : pw_ac) (pw_LA A none (pw_k A) (fun _ => 0) 0)).1))), (0, .ref 26), (1, .int (nI j5))] [.int ((m2 26 34) - (nI ((pw_acc A 0 ((0, 0, 0, fun _ => none) : pw_ac) (pw_LA A none (pw_k A) (fun _ => 0) 0)).1)))] (pw_up m2 26 33 (-1))
    rw [show m2 26 34 = nI ((pw_acc A 0 ((0, 0, 0, fun _ => none) : pw_ac) (pw_LA A (some j5) (pw_k A) (fun _ => 0) 0)).1) from (by rw [hm2]; rfl)]
    rw [← hZ]
    refine pw_ri (by decide +kernel) ?_
    refine ⟨?_, ?_, fun c hc => ?_⟩
    · unfold F_lent
      rw [if_pos h5, pw_c_nI (show j5 < 2 ^ 31 by omega), pw_F_wy, pw_F_wy, pw_acc_1, pw_acc_1, Nat.zero_add, Nat.zero_add]
    · rw [hm2]; exact mvL_s (by rw [pw_up_up]; exact mvL_i hv1)
    · rw [pw_up_ne (by omega), hm2, pw_sM_o (by omega) (by omega) (by omega), pw_up_ne (by omega), hm1]; exact pw_mfF c hc
  · refine pw_blk (pc' := 10) [.iconst (-2)] (by decide +kernel) ?_
    show pw_V x m_X8_lent 5 Z 10 [(0, .ref 26), (1, .int s)] [.int (-2)] mm
    rw [← hZ]
    refine pw_ri (by decide +kernel) ?_
    exact ⟨by unfold F_lent; rw [if_neg (by rw [h5]; decide)], hv, pw_mf_r⟩
