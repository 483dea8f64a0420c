section PWQ2
variable {A : pw_m}
theorem pw_q21 (h : pw_ok A) : A 2 1 = nI (pw_g A 2 1) := h.2.2.2.2.1.1
theorem pw_b21 (h : pw_ok A) : pw_g A 2 1 ≤ 160 := Nat.le_of_lt_succ h.2.2.2.2.1.2
theorem pw_q144 (h : pw_ok A) : A 14 4 = nI (pw_g A 14 4) := h.2.2.2.1.1.1
theorem pw_b144 (h : pw_ok A) : pw_g A 14 4 ≤ 8 := Nat.le_of_lt_succ h.2.2.2.1.1.2
theorem pw_q112 (h : pw_ok A) : A 11 2 = nI (pw_g A 11 2) := h.2.2.1.1.1.1
theorem pw_b112 (h : pw_ok A) : pw_g A 11 2 ≤ 8 := Nat.le_of_lt_succ h.2.2.1.1.1.2
theorem pw_q114 (h : pw_ok A) : A 11 4 = nI (pw_g A 11 4) := h.2.2.1.1.2.1.1
theorem pw_b114 (h : pw_ok A) : pw_g A 11 4 < 8 := h.2.2.1.1.2.1.2
theorem pw_q113 (h : pw_ok A) : A 11 3 = nI (pw_g A 11 3) := h.2.2.1.2.1.1
theorem pw_b113 (h : pw_ok A) : pw_g A 11 3 < 4 := h.2.2.1.2.1.2
end PWQ2
theorem pw_inr_f3 {s : Int32} {n : Nat} (hn : n + 1 < 2 ^ 31) (h : nI n < s) : pw_inr s (n + 1) = false := by
  refine pw_inr_f2 ?_
  rw [Int32.lt_iff_toInt_lt, nI_toInt (by omega)] at h
  rw [Int32.le_iff_toInt_le, nI_toInt hn]
  omega
theorem pw_inr_y3 {s : Int32} {n : Nat} (hn : n + 1 < 2 ^ 31) (h1 : ¬ s < 0) (h : s ≤ nI n) : pw_inr s (n + 1) = true := by
  refine pw_inr_y h1 ?_
  intro z
  rw [Int32.le_iff_toInt_le, nI_toInt (by omega)] at h
  rw [Int32.le_iff_toInt_le, nI_toInt hn] at z
  omega
def F_as (A : pw_m) (k q : Int32) : Int32 := if pw_inr k (pw_k A) then (if pw_inr q 4 then (if pw_ofk pw_k0 4 q 4 (nI (pw_g A 7 (pw_c k) + 1)) then nI (pw_ob (fun s => pw_fnow A (pw_c k) s) (pw_n A)) else -4) else -3) else -2
def F_seatAs (A : pw_m) (s q : Int32) : Int32 := if pw_inr s (pw_n A) then (if pw_inr q 6 then (if pw_ofk pw_k1 6 q 6 (nI (pw_g A 5 (pw_c s) + 1)) then nI (pw_ob (fun k => (pw_g A 42 1).testBit k && pw_fnow A k (pw_c s)) (pw_k A)) else -4) else -3) else -2
def F_judge (A : pw_m) (w : Int32) : Int32 := if w = nI 0 then nI (pw_wrs A) else if w = nI 1 then nI (pw_ct_ (pw_qu A) (pw_n A)) else -3
def F_count (A : pw_m) (w : Int32) : Int32 := if w = nI 0 then A 4 0 else if w = nI 1 then A 4 1 else if w = nI 2 then A 42 0 else if w = nI 3 then pw_o (pw_pon A) else if w = nI 4 then A 42 1 else if w = nI 5 then nI (pw_sb A) else if w = nI 6 then A 14 4 else if w = nI 7 then nI (pw_sm (fun j => pw_pc (pw_g A 10 j)) (pw_k A) / 2) else if w = nI 8 then A 11 2 else if w = nI 9 then A 2 1 else -3
def F_write (A : pw_m) (l : Int32) : Int32 := if pw_inr l 256 then (if pw_g A 2 1 < 160 then nI (pw_g A 2 1 + 1) else -5) else -3
def G_write (A : pw_m) (l : Int32) : pw_m := if pw_inr l 256 = true ∧ pw_g A 2 1 < 160 then pw_up (pw_up A 3 (pw_g A 2 1) l) 2 1 (nI (pw_g A 2 1 + 1)) else A
def F_seen (A : pw_m) (k s d t : Int32) : Int32 := if pw_inr k (pw_k A) = true ∧ pw_inr s (pw_n A) = true then (if pw_inr d (pw_g A 42 0 + 1) = true ∧ pw_inr t 2 = true then (if pw_g A 14 4 < 8 then nI (pw_g A 14 4 + 1) else -5) else -3) else -2
def G_seen (A : pw_m) (k s d t : Int32) : pw_m := if (pw_inr k (pw_k A) = true ∧ pw_inr s (pw_n A) = true) ∧ (pw_inr d (pw_g A 42 0 + 1) = true ∧ pw_inr t 2 = true) ∧ pw_g A 14 4 < 8 then pw_up (pw_up (pw_up (pw_up (pw_up A 15 (pw_g A 14 4) k) 16 (pw_g A 14 4) s) 17 (pw_g A 14 4) d) 18 (pw_g A 14 4) t) 14 4 (nI (pw_g A 14 4 + 1)) else A

set_option maxHeartbeats 4000000 in
set_option maxRecDepth 100000 in
theorem c_as (s q : Int32) (mm : pw_m) (hok : pw_ok mm) : pw_Ct 2 yX7_as m_X7_as [.ref 0, .int s, .int q] mm (fun r m' => r = some (.int (F_as mm s q)) ∧ m' = mm) := by
  refine pw_ct (by decide +kernel) rfl (Nat.le_of_ble_eq_true rfl) (fun x => ?_)
  generalize hZ : pw_Z x _ = Z
  have bn := pw_bn hok
  have bk := pw_bk hok
  have bt := pw_b421' hok
  show pw_V x m_X7_as 2 Z 0 [(0, .ref 0), (1, .int s), (2, .int q)] [] mm
  refine pw_blk (pc' := 2) [.aload 0, .iload 1] (by decide +kernel) ?_
  show pw_V x m_X7_as 2 Z 2 [(0, .ref 0), (1, .int s), (2, .int q)] [.int s, .ref 0] mm
  refine pw_cV (vs := [.int s]) (rest := []) k_X7_isKnight (c_isKnight s mm hok) l_7_106 rfl rfl rfl rfl (by decide) (Nat.le_of_ble_eq_true rfl) (by decide +kernel) ?_
  rintro _ m1 ⟨rfl, e1⟩
  rw [e1]
  clear e1 m1
  show pw_V x m_X7_as 2 Z 5 [(0, .ref 0), (1, .int s), (2, .int q)] [.int (pw_b (pw_inr s (pw_k mm)))] mm
  refine pw_ib_ne (tgt := 11) (off := 6) (by decide +kernel) (by decide) (fun h5 => ?_) (fun h5 => ?_)
  · obtain ⟨j5, b5, e5⟩ := pw_inr_t (by omega) h5
    subst e5
    refine pw_blk (pc' := 12) [.iload 2] (by decide +kernel) ?_
    show pw_V x m_X7_as 2 Z 12 [(0, .ref 0), (1, .int (nI j5)), (2, .int q)] [.int q] mm
    refine pw_if_lt (tgt := 23) (off := 11) (by decide +kernel) (by decide) (fun h12 => ?_) (fun h12 => ?_)
    · refine pw_blk (pc' := 25) [.iconst (-3)] (by decide +kernel) ?_
      show pw_V x m_X7_as 2 Z 25 [(0, .ref 0), (1, .int (nI j5)), (2, .int q)] [.int (-3)] mm
      rw [← hZ]
      refine pw_ri (by decide +kernel) ?_
      refine ⟨?_, rfl⟩
      unfold F_as
      rw [if_pos (show pw_inr (nI j5) (pw_k mm) = true from by rw [pw_inr_nI (show j5 < 2 ^ 31 by omega) (show pw_k mm < 2 ^ 31 by omega)]; exact decide_eq_true b5)]
      rw [if_neg (by rw [pw_inr_f1 h12]; decide)]
    · refine pw_blk (pc' := 20) [.iload 2, .getstatic 0, .arraylength] (by decide +kernel) ?_
      show pw_V x m_X7_as 2 Z 20 [(0, .ref 0), (1, .int (nI j5)), (2, .int q)] [.int (nI 4), .int q] mm
      refine pw_ic_lt (tgt := 26) (off := 6) (by decide +kernel) (by decide) (fun h20 => ?_) (fun h20 => ?_)
      · have b7 := pw_b7 hok (show j5 < 6 by omega)
        refine pw_blk (pc' := 41) [.getstatic 0, .aload 0, .getfield 701, .getfield 504, .iload 1, .iaload, .iconst 1, .iadd, .iload 2] (by decide +kernel) ?_
        refine ⟨j5, rfl, by omega, ?_⟩
        show pw_V x m_X7_as 2 Z 41 [(0, .ref 0), (1, .int (nI j5)), (2, .int q)] [.int q, .int ((mm 7 j5) + (nI 1)), .ref 90] mm
        rw [show mm 7 j5 = nI (pw_g mm 7 j5) from pw_q7 hok (by omega)]
        rw [show (nI (pw_g mm 7 j5)) + (nI 1) = nI ((pw_g mm 7 j5) + 1) from nI_add _ _]
        refine pw_cS (vs := [.ref 90, .int (nI ((pw_g mm 7 j5) + 1)), .int q]) (rest := []) k_X7_isOfKind (c_isOfKind_90 (nI ((pw_g mm 7 j5) + 1)) q mm) l_7_137 rfl (by decide) (Nat.le_of_ble_eq_true rfl) (by decide +kernel) ?_
        rintro _ m1 ⟨rfl, e1⟩
        rw [e1]
        clear e1 m1
        show pw_V x m_X7_as 2 Z 44 [(0, .ref 0), (1, .int (nI j5)), (2, .int q)] [.int (pw_b (pw_ofk pw_k0 4 q 4 (nI ((pw_g mm 7 j5) + 1))))] mm
        refine pw_ib_ne (tgt := 50) (off := 6) (by decide +kernel) (by decide) (fun h44 => ?_) (fun h44 => ?_)
        · refine pw_blk (pc' := 55) [.iconst 0, .istore 3, .iconst 0, .istore 4] (by decide +kernel) ?_
          show pw_V x m_X7_as 2 Z 55 [(4, .int (nI 0)), (3, .int (nI 0)), (0, .ref 0), (1, .int (nI j5)), (2, .int q)] [] mm
          refine pw_lvp [2, 3, 4, 1, 0] rfl ?_
          suffices loop : ∀ i : Nat, i ≤ pw_n mm → pw_V x m_X7_as 2 Z 55 [(0, .ref 0), (1, .int (nI j5)), (2, .int q), (3, .int (nI (pw_ob (fun s => pw_fnow mm j5 s) i))), (4, .int (nI i))] [] mm from loop 0 (by omega)
          refine pw_dn (pw_n mm) (fun i hi ih => ?_)
          refine pw_blk (pc' := 64) [.iload 4, .aload 0, .getfield 701, .getfield 500] (by decide +kernel) ?_
          show pw_V x m_X7_as 2 Z 64 [(0, .ref 0), (1, .int (nI j5)), (2, .int q), (3, .int (nI (pw_ob (fun s => pw_fnow mm j5 s) i))), (4, .int (nI i))] [.int (mm 4 0), .int (nI i)] mm
          rw [show mm 4 0 = nI (pw_n mm) from pw_q40 hok]
          refine pw_in_ge (tgt := 90) (off := 26) (by omega) (by omega) (by decide +kernel) (by decide) (fun h64 => ?_) (fun h64 => ?_)
          · refine pw_blk (pc' := 91) [.iload 3] (by decide +kernel) ?_
            show pw_V x m_X7_as 2 Z 91 [(0, .ref 0), (1, .int (nI j5)), (2, .int q), (3, .int (nI (pw_ob (fun s => pw_fnow mm j5 s) i))), (4, .int (nI i))] [.int (nI (pw_ob (fun s => pw_fnow mm j5 s) i))] mm
            rw [← hZ]
            refine pw_ri (by decide +kernel) ?_
            refine ⟨?_, rfl⟩
            unfold F_as
            rw [if_pos (show pw_inr (nI j5) (pw_k mm) = true from by rw [pw_inr_nI (show j5 < 2 ^ 31 by omega) (show pw_k mm < 2 ^ 31 by omega)]; exact decide_eq_true b5)]
            rw [if_pos (pw_inr_y h12 (fun z => pw_nlt z h20)), pw_c_nI (show j5 < 2 ^ 31 by omega)]
            rw [if_pos h44]
            have e : i = pw_n mm := by omega
            subst e
            rfl
          · refine pw_blk (pc' := 71) [.aload 0, .iload 1, .iload 4] (by decide +kernel) ?_
            show pw_V x m_X7_as 2 Z 71 [(0, .ref 0), (1, .int (nI j5)), (2, .int q), (3, .int (nI (pw_ob (fun s => pw_fnow mm j5 s) i))), (4, .int (nI i))] [.int (nI i), .int (nI j5), .ref 0] mm
            refine pw_cV (vs := [.int (nI j5), .int (nI i)]) (rest := []) k_X7_fitsNow (c_fitsNow j5 i mm hok (by omega) (by omega)) l_7_144 rfl rfl rfl rfl (by decide) (Nat.le_of_ble_eq_true rfl) (by decide +kernel) ?_
            rintro _ m1 ⟨rfl, e1⟩
            rw [e1]
            clear e1 m1
            show pw_V x m_X7_as 2 Z 74 [(0, .ref 0), (1, .int (nI j5)), (2, .int q), (3, .int (nI (pw_ob (fun s => pw_fnow mm j5 s) i))), (4, .int (nI i))] [.int (pw_b (pw_fnow mm j5 i))] mm
            refine pw_ib_eq (tgt := 84) (off := 10) (by decide +kernel) (by decide) (fun h74 => ?_) (fun h74 => ?_)
            · refine pw_blk (pc' := 87) [.iinc 4 1] (by decide +kernel) ?_
              show pw_V x m_X7_as 2 Z 87 [(4, .int ((nI i) + (nI 1))), (0, .ref 0), (1, .int (nI j5)), (2, .int q), (3, .int (nI (pw_ob (fun s => pw_fnow mm j5 s) i)))] [] mm
              rw [show (nI i) + (nI 1) = nI (i + 1) from nI_add _ _]
              refine pw_goto (tgt := 55) (off := -32) (by decide +kernel) (by decide) ?_
              rw [show (pw_ob (fun s => pw_fnow mm j5 s) i) = (pw_ob (fun s => pw_fnow mm j5 s) (i + 1)) from by simp [pw_ob, h74]]
              refine pw_lvp [1, 2, 3, 4, 0] rfl ?_
              exact ih (by omega)
            · refine pw_blk (pc' := 87) [.iload 3, .iconst 1, .iload 4, .ishl, .ior, .istore 3, .iinc 4 1] (by decide +kernel) ?_
              show pw_V x m_X7_as 2 Z 87 [(4, .int ((nI i) + (nI 1))), (3, .int ((nI (pw_ob (fun s => pw_fnow mm j5 s) i)) ||| ((nI 1) <<< ((nI i) &&& 31)))), (0, .ref 0), (1, .int (nI j5)), (2, .int q)] [] mm
              rw [show (nI i) + (nI 1) = nI (i + 1) from nI_add _ _]
              rw [show (nI 1) <<< ((nI i) &&& 31) = nI (2 ^ i) from pw_shl1 (by omega)]
              rw [show (nI (pw_ob (fun s => pw_fnow mm j5 s) i)) ||| (nI (2 ^ i)) = nI ((pw_ob (fun s => pw_fnow mm j5 s) i) ||| (2 ^ i)) from fa_or _ _]
              refine pw_goto (tgt := 55) (off := -32) (by decide +kernel) (by decide) ?_
              rw [show ((pw_ob (fun s => pw_fnow mm j5 s) i) ||| (2 ^ i)) = (pw_ob (fun s => pw_fnow mm j5 s) (i + 1)) from by simp [pw_ob, h74]]
              refine pw_lvp [2, 3, 4, 1, 0] rfl ?_
              exact ih (by omega)
        · refine pw_blk (pc' := 49) [.iconst (-4)] (by decide +kernel) ?_
          show pw_V x m_X7_as 2 Z 49 [(0, .ref 0), (1, .int (nI j5)), (2, .int q)] [.int (-4)] mm
          rw [← hZ]
          refine pw_ri (by decide +kernel) ?_
          refine ⟨?_, rfl⟩
          unfold F_as
          rw [if_pos (show pw_inr (nI j5) (pw_k mm) = true from by rw [pw_inr_nI (show j5 < 2 ^ 31 by omega) (show pw_k mm < 2 ^ 31 by omega)]; exact decide_eq_true b5)]
          rw [if_pos (pw_inr_y h12 (fun z => pw_nlt z h20)), pw_c_nI (show j5 < 2 ^ 31 by omega)]
          rw [if_neg (by rw [h44]; decide)]
      · refine pw_blk (pc' := 25) [.iconst (-3)] (by decide +kernel) ?_
        show pw_V x m_X7_as 2 Z 25 [(0, .ref 0), (1, .int (nI j5)), (2, .int q)] [.int (-3)] mm
        rw [← hZ]
        refine pw_ri (by decide +kernel) ?_
        refine ⟨?_, rfl⟩
        unfold F_as
        rw [if_pos (show pw_inr (nI j5) (pw_k mm) = true from by rw [pw_inr_nI (show j5 < 2 ^ 31 by omega) (show pw_k mm < 2 ^ 31 by omega)]; exact decide_eq_true b5)]
        rw [if_neg (by rw [pw_inr_f2 (Int32.not_lt.mp h20)]; decide)]
  · refine pw_blk (pc' := 10) [.iconst (-2)] (by decide +kernel) ?_
    show pw_V x m_X7_as 2 Z 10 [(0, .ref 0), (1, .int s), (2, .int q)] [.int (-2)] mm
    rw [← hZ]
    refine pw_ri (by decide +kernel) ?_
    refine ⟨?_, rfl⟩
    unfold F_as
    rw [if_neg (by rw [h5]; decide)]

set_option maxHeartbeats 4000000 in
set_option maxRecDepth 100000 in
theorem c_seatAs (s q : Int32) (mm : pw_m) (hok : pw_ok mm) : pw_Ct 2 yX7_seatAs m_X7_seatAs [.ref 0, .int s, .int q] mm (fun r m' => r = some (.int (F_seatAs mm s q)) ∧ m' = mm) := by
  refine pw_ct (by decide +kernel) rfl (Nat.le_of_ble_eq_true rfl) (fun x => ?_)
  generalize hZ : pw_Z x _ = Z
  have bn := pw_bn hok
  have bk := pw_bk hok
  have bt := pw_b421' hok
  show pw_V x m_X7_seatAs 2 Z 0 [(0, .ref 0), (1, .int s), (2, .int q)] [] mm
  refine pw_blk (pc' := 2) [.aload 0, .iload 1] (by decide +kernel) ?_
  show pw_V x m_X7_seatAs 2 Z 2 [(0, .ref 0), (1, .int s), (2, .int q)] [.int s, .ref 0] mm
  refine pw_cV (vs := [.int s]) (rest := []) k_X7_isSeat (c_isSeat s mm hok) l_7_86 rfl rfl rfl rfl (by decide) (Nat.le_of_ble_eq_true rfl) (by decide +kernel) ?_
  rintro _ m1 ⟨rfl, e1⟩
  rw [e1]
  clear e1 m1
  show pw_V x m_X7_seatAs 2 Z 5 [(0, .ref 0), (1, .int s), (2, .int q)] [.int (pw_b (pw_inr s (pw_n mm)))] mm
  refine pw_ib_ne (tgt := 11) (off := 6) (by decide +kernel) (by decide) (fun h5 => ?_) (fun h5 => ?_)
  · obtain ⟨j5, b5, e5⟩ := pw_inr_t (by omega) h5
    subst e5
    refine pw_blk (pc' := 12) [.iload 2] (by decide +kernel) ?_
    show pw_V x m_X7_seatAs 2 Z 12 [(0, .ref 0), (1, .int (nI j5)), (2, .int q)] [.int q] mm
    refine pw_if_lt (tgt := 23) (off := 11) (by decide +kernel) (by decide) (fun h12 => ?_) (fun h12 => ?_)
    · refine pw_blk (pc' := 25) [.iconst (-3)] (by decide +kernel) ?_
      show pw_V x m_X7_seatAs 2 Z 25 [(0, .ref 0), (1, .int (nI j5)), (2, .int q)] [.int (-3)] mm
      rw [← hZ]
      refine pw_ri (by decide +kernel) ?_
      refine ⟨?_, rfl⟩
      unfold F_seatAs
      rw [if_pos (show pw_inr (nI j5) (pw_n mm) = true from by rw [pw_inr_nI (show j5 < 2 ^ 31 by omega) (show pw_n mm < 2 ^ 31 by omega)]; exact decide_eq_true b5)]
      rw [if_neg (by rw [pw_inr_f1 h12]; decide)]
    · refine pw_blk (pc' := 20) [.iload 2, .getstatic 1, .arraylength] (by decide +kernel) ?_
      show pw_V x m_X7_seatAs 2 Z 20 [(0, .ref 0), (1, .int (nI j5)), (2, .int q)] [.int (nI 6), .int q] mm
      refine pw_ic_lt (tgt := 26) (off := 6) (by decide +kernel) (by decide) (fun h20 => ?_) (fun h20 => ?_)
      · have b5_ := pw_b5 hok (show j5 < 8 by omega)
        refine pw_blk (pc' := 41) [.getstatic 1, .aload 0, .getfield 701, .getfield 502, .iload 1, .iaload, .iconst 1, .iadd, .iload 2] (by decide +kernel) ?_
        refine ⟨j5, rfl, by omega, ?_⟩
        show pw_V x m_X7_seatAs 2 Z 41 [(0, .ref 0), (1, .int (nI j5)), (2, .int q)] [.int q, .int ((mm 5 j5) + (nI 1)), .ref 91] mm
        rw [show mm 5 j5 = nI (pw_g mm 5 j5) from pw_q5 hok (by omega)]
        rw [show (nI (pw_g mm 5 j5)) + (nI 1) = nI ((pw_g mm 5 j5) + 1) from nI_add _ _]
        refine pw_cS (vs := [.ref 91, .int (nI ((pw_g mm 5 j5) + 1)), .int q]) (rest := []) k_X7_isOfKind (c_isOfKind_91 (nI ((pw_g mm 5 j5) + 1)) q mm) l_7_137 rfl (by decide) (Nat.le_of_ble_eq_true rfl) (by decide +kernel) ?_
        rintro _ m1 ⟨rfl, e1⟩
        rw [e1]
        clear e1 m1
        show pw_V x m_X7_seatAs 2 Z 44 [(0, .ref 0), (1, .int (nI j5)), (2, .int q)] [.int (pw_b (pw_ofk pw_k1 6 q 6 (nI ((pw_g mm 5 j5) + 1))))] mm
        refine pw_ib_ne (tgt := 50) (off := 6) (by decide +kernel) (by decide) (fun h44 => ?_) (fun h44 => ?_)
        · refine pw_blk (pc' := 55) [.iconst 0, .istore 3, .iconst 0, .istore 4] (by decide +kernel) ?_
          show pw_V x m_X7_seatAs 2 Z 55 [(4, .int (nI 0)), (3, .int (nI 0)), (0, .ref 0), (1, .int (nI j5)), (2, .int q)] [] mm
          refine pw_lvp [2, 3, 4, 1, 0] rfl ?_
          suffices loop : ∀ i : Nat, i ≤ pw_k mm → pw_V x m_X7_seatAs 2 Z 55 [(0, .ref 0), (1, .int (nI j5)), (2, .int q), (3, .int (nI (pw_ob (fun k => (pw_g mm 42 1).testBit k && pw_fnow mm k j5) i))), (4, .int (nI i))] [] mm from loop 0 (by omega)
          refine pw_dn (pw_k mm) (fun i hi ih => ?_)
          refine pw_blk (pc' := 64) [.iload 4, .aload 0, .getfield 701, .getfield 501] (by decide +kernel) ?_
          show pw_V x m_X7_seatAs 2 Z 64 [(0, .ref 0), (1, .int (nI j5)), (2, .int q), (3, .int (nI (pw_ob (fun k => (pw_g mm 42 1).testBit k && pw_fnow mm k j5) i))), (4, .int (nI i))] [.int (mm 4 1), .int (nI i)] mm
          rw [show mm 4 1 = nI (pw_k mm) from pw_q41 hok]
          refine pw_in_ge (tgt := 105) (off := 41) (by omega) (by omega) (by decide +kernel) (by decide) (fun h64 => ?_) (fun h64 => ?_)
          · refine pw_blk (pc' := 106) [.iload 3] (by decide +kernel) ?_
            show pw_V x m_X7_seatAs 2 Z 106 [(0, .ref 0), (1, .int (nI j5)), (2, .int q), (3, .int (nI (pw_ob (fun k => (pw_g mm 42 1).testBit k && pw_fnow mm k j5) i))), (4, .int (nI i))] [.int (nI (pw_ob (fun k => (pw_g mm 42 1).testBit k && pw_fnow mm k j5) i))] mm
            rw [← hZ]
            refine pw_ri (by decide +kernel) ?_
            refine ⟨?_, rfl⟩
            unfold F_seatAs
            rw [if_pos (show pw_inr (nI j5) (pw_n mm) = true from by rw [pw_inr_nI (show j5 < 2 ^ 31 by omega) (show pw_n mm < 2 ^ 31 by omega)]; exact decide_eq_true b5)]
            rw [if_pos (pw_inr_y h12 (fun z => pw_nlt z h20)), pw_c_nI (show j5 < 2 ^ 31 by omega)]
            rw [if_pos h44]
            have e : i = pw_k mm := by omega
            subst e
            rfl
          · refine pw_blk (pc' := 76) [.aload 0, .getfield 702, .getfield 1, .iload 4] (by decide +kernel) ?_
            show pw_V x m_X7_seatAs 2 Z 76 [(0, .ref 0), (1, .int (nI j5)), (2, .int q), (3, .int (nI (pw_ob (fun k => (pw_g mm 42 1).testBit k && pw_fnow mm k j5) i))), (4, .int (nI i))] [.int (nI i), .int (mm 42 1)] mm
            rw [show mm 42 1 = nI (pw_g mm 42 1) from pw_q421 hok]
            refine pw_cS (vs := [.int (nI (pw_g mm 42 1)), .int (nI i)]) (rest := []) k_X7_has (c_has (nI (pw_g mm 42 1)) (nI i) mm) l_7_124 rfl (by decide) (Nat.le_of_ble_eq_true rfl) (by decide +kernel) ?_
            rintro _ m1 ⟨rfl, e1⟩
            rw [e1]
            clear e1 m1
            show pw_V x m_X7_seatAs 2 Z 79 [(0, .ref 0), (1, .int (nI j5)), (2, .int q), (3, .int (nI (pw_ob (fun k => (pw_g mm 42 1).testBit k && pw_fnow mm k j5) i))), (4, .int (nI i))] [.int (pw_b (pw_hs (nI (pw_g mm 42 1)) (nI i)))] mm
            rw [pw_hs_n (by omega) (by omega)]
            refine pw_ib_eq (tgt := 99) (off := 20) (by decide +kernel) (by decide) (fun h79 => ?_) (fun h79 => ?_)
            · refine pw_blk (pc' := 102) [.iinc 4 1] (by decide +kernel) ?_
              show pw_V x m_X7_seatAs 2 Z 102 [(4, .int ((nI i) + (nI 1))), (0, .ref 0), (1, .int (nI j5)), (2, .int q), (3, .int (nI (pw_ob (fun k => (pw_g mm 42 1).testBit k && pw_fnow mm k j5) i)))] [] mm
              rw [show (nI i) + (nI 1) = nI (i + 1) from nI_add _ _]
              refine pw_goto (tgt := 55) (off := -47) (by decide +kernel) (by decide) ?_
              rw [show (pw_ob (fun k => (pw_g mm 42 1).testBit k && pw_fnow mm k j5) i) = (pw_ob (fun k => (pw_g mm 42 1).testBit k && pw_fnow mm k j5) (i + 1)) from by simp [pw_ob, h79]]
              refine pw_lvp [1, 2, 3, 4, 0] rfl ?_
              exact ih (by omega)
            · refine pw_blk (pc' := 86) [.aload 0, .iload 4, .iload 1] (by decide +kernel) ?_
              show pw_V x m_X7_seatAs 2 Z 86 [(0, .ref 0), (1, .int (nI j5)), (2, .int q), (3, .int (nI (pw_ob (fun k => (pw_g mm 42 1).testBit k && pw_fnow mm k j5) i))), (4, .int (nI i))] [.int (nI j5), .int (nI i), .ref 0] mm
              refine pw_cV (vs := [.int (nI i), .int (nI j5)]) (rest := []) k_X7_fitsNow (c_fitsNow i j5 mm hok (by omega) (by omega)) l_7_144 rfl rfl rfl rfl (by decide) (Nat.le_of_ble_eq_true rfl) (by decide +kernel) ?_
              rintro _ m1 ⟨rfl, e1⟩
              rw [e1]
              clear e1 m1
              show pw_V x m_X7_seatAs 2 Z 89 [(0, .ref 0), (1, .int (nI j5)), (2, .int q), (3, .int (nI (pw_ob (fun k => (pw_g mm 42 1).testBit k && pw_fnow mm k j5) i))), (4, .int (nI i))] [.int (pw_b (pw_fnow mm i j5))] mm
              refine pw_ib_eq (tgt := 99) (off := 10) (by decide +kernel) (by decide) (fun h89 => ?_) (fun h89 => ?_)
              · refine pw_blk (pc' := 102) [.iinc 4 1] (by decide +kernel) ?_
                show pw_V x m_X7_seatAs 2 Z 102 [(4, .int ((nI i) + (nI 1))), (0, .ref 0), (1, .int (nI j5)), (2, .int q), (3, .int (nI (pw_ob (fun k => (pw_g mm 42 1).testBit k && pw_fnow mm k j5) i)))] [] mm
                rw [show (nI i) + (nI 1) = nI (i + 1) from nI_add _ _]
                refine pw_goto (tgt := 55) (off := -47) (by decide +kernel) (by decide) ?_
                rw [show (pw_ob (fun k => (pw_g mm 42 1).testBit k && pw_fnow mm k j5) i) = (pw_ob (fun k => (pw_g mm 42 1).testBit k && pw_fnow mm k j5) (i + 1)) from by simp [pw_ob, h79, h89]]
                refine pw_lvp [1, 2, 3, 4, 0] rfl ?_
                exact ih (by omega)
              · refine pw_blk (pc' := 102) [.iload 3, .iconst 1, .iload 4, .ishl, .ior, .istore 3, .iinc 4 1] (by decide +kernel) ?_
                show pw_V x m_X7_seatAs 2 Z 102 [(4, .int ((nI i) + (nI 1))), (3, .int ((nI (pw_ob (fun k => (pw_g mm 42 1).testBit k && pw_fnow mm k j5) i)) ||| ((nI 1) <<< ((nI i) &&& 31)))), (0, .ref 0), (1, .int (nI j5)), (2, .int q)] [] mm
                rw [show (nI i) + (nI 1) = nI (i + 1) from nI_add _ _]
                rw [show (nI 1) <<< ((nI i) &&& 31) = nI (2 ^ i) from pw_shl1 (by omega)]
                rw [show (nI (pw_ob (fun k => (pw_g mm 42 1).testBit k && pw_fnow mm k j5) i)) ||| (nI (2 ^ i)) = nI ((pw_ob (fun k => (pw_g mm 42 1).testBit k && pw_fnow mm k j5) i) ||| (2 ^ i)) from fa_or _ _]
                refine pw_goto (tgt := 55) (off := -47) (by decide +kernel) (by decide) ?_
                rw [show ((pw_ob (fun k => (pw_g mm 42 1).testBit k && pw_fnow mm k j5) i) ||| (2 ^ i)) = (pw_ob (fun k => (pw_g mm 42 1).testBit k && pw_fnow mm k j5) (i + 1)) from by simp [pw_ob, h79, h89]]
                refine pw_lvp [2, 3, 4, 1, 0] rfl ?_
                exact ih (by omega)
        · refine pw_blk (pc' := 49) [.iconst (-4)] (by decide +kernel) ?_
          show pw_V x m_X7_seatAs 2 Z 49 [(0, .ref 0), (1, .int (nI j5)), (2, .int q)] [.int (-4)] mm
          rw [← hZ]
          refine pw_ri (by decide +kernel) ?_
          refine ⟨?_, rfl⟩
          unfold F_seatAs
          rw [if_pos (show pw_inr (nI j5) (pw_n mm) = true from by rw [pw_inr_nI (show j5 < 2 ^ 31 by omega) (show pw_n mm < 2 ^ 31 by omega)]; exact decide_eq_true b5)]
          rw [if_pos (pw_inr_y h12 (fun z => pw_nlt z h20)), pw_c_nI (show j5 < 2 ^ 31 by omega)]
          rw [if_neg (by rw [h44]; decide)]
      · refine pw_blk (pc' := 25) [.iconst (-3)] (by decide +kernel) ?_
        show pw_V x m_X7_seatAs 2 Z 25 [(0, .ref 0), (1, .int (nI j5)), (2, .int q)] [.int (-3)] mm
        rw [← hZ]
        refine pw_ri (by decide +kernel) ?_
        refine ⟨?_, rfl⟩
        unfold F_seatAs
        rw [if_pos (show pw_inr (nI j5) (pw_n mm) = true from by rw [pw_inr_nI (show j5 < 2 ^ 31 by omega) (show pw_n mm < 2 ^ 31 by omega)]; exact decide_eq_true b5)]
        rw [if_neg (by rw [pw_inr_f2 (Int32.not_lt.mp h20)]; decide)]
  · refine pw_blk (pc' := 10) [.iconst (-2)] (by decide +kernel) ?_
    show pw_V x m_X7_seatAs 2 Z 10 [(0, .ref 0), (1, .int s), (2, .int q)] [.int (-2)] mm
    rw [← hZ]
    refine pw_ri (by decide +kernel) ?_
    refine ⟨?_, rfl⟩
    unfold F_seatAs
    rw [if_neg (by rw [h5]; decide)]

set_option maxHeartbeats 4000000 in
set_option maxRecDepth 100000 in
theorem c_judge (w : Int32) (mm : pw_m) (hok : pw_ok mm) : pw_Ct 4 yX7_judge m_X7_judge [.ref 0, .int w] mm (fun r m' => r = some (.int (F_judge mm w)) ∧ m' = mm) := by
  refine pw_ct (by decide +kernel) rfl (Nat.le_of_ble_eq_true rfl) (fun x => ?_)
  generalize hZ : pw_Z x _ = Z
  have bn := pw_bn hok
  have bk := pw_bk hok
  show pw_V x m_X7_judge 4 Z 0 [(0, .ref 0), (1, .int w)] [] mm
  refine pw_blk (pc' := 1) [.iload 1] (by decide +kernel) ?_
  show pw_V x m_X7_judge 4 Z 1 [(0, .ref 0), (1, .int w)] [.int w] mm
  refine pw_lsw (dflt := 37) (ps := #[(0, 27), (1, 32)]) (len := 27) (by decide +kernel) (by decide) ?_
  by_cases h1_0 : w = nI 0
  · refine ⟨27, 28, by rw [h1_0]; rfl, by decide, ?_⟩
    subst h1_0
    refine pw_blk (pc' := 29) [.aload 0] (by decide +kernel) ?_
    show pw_V x m_X7_judge 4 Z 29 [(0, .ref 0), (1, .int (nI 0))] [.ref 0] mm
    refine pw_cV (vs := []) (rest := []) k_X7_whoIsWrong (c_whoIsWrong mm hok) l_7_172 rfl rfl rfl rfl (by decide) (Nat.le_of_ble_eq_true rfl) (by decide +kernel) ?_
    rintro _ m1 ⟨rfl, e1⟩
    rw [e1]
    clear e1 m1
    show pw_V x m_X7_judge 4 Z 32 [(0, .ref 0), (1, .int (nI 0))] [.int (nI (pw_wrs mm))] mm
    rw [← hZ]
    refine pw_ri (by decide +kernel) ?_
    refine ⟨?_, rfl⟩
    simp [F_judge, nz10, nz20, nz21, nz30, nz31, nz32, nz40, nz41, nz42, nz43, nz50, nz51, nz52, nz53, nz54, nz60, nz61, nz62, nz63, nz64, nz65]
  by_cases h1_1 : w = nI 1
  · refine ⟨32, 33, by rw [h1_1]; rfl, by decide, ?_⟩
    subst h1_1
    refine pw_blk (pc' := 34) [.aload 0] (by decide +kernel) ?_
    show pw_V x m_X7_judge 4 Z 34 [(0, .ref 0), (1, .int (nI 1))] [.ref 0] mm
    refine pw_cV (vs := []) (rest := []) k_X7_quarrels (c_quarrels mm hok) l_7_217 rfl rfl rfl rfl (by decide) (Nat.le_of_ble_eq_true rfl) (by decide +kernel) ?_
    rintro _ m1 ⟨rfl, e1⟩
    rw [e1]
    clear e1 m1
    show pw_V x m_X7_judge 4 Z 37 [(0, .ref 0), (1, .int (nI 1))] [.int (nI (pw_ct_ (pw_qu mm) (pw_n mm)))] mm
    rw [← hZ]
    refine pw_ri (by decide +kernel) ?_
    refine ⟨?_, rfl⟩
    simp [F_judge, nz10, nz20, nz21, nz30, nz31, nz32, nz40, nz41, nz42, nz43, nz50, nz51, nz52, nz53, nz54, nz60, nz61, nz62, nz63, nz64, nz65, h1_0]
  refine ⟨37, 38, by rw [show (#[(0, 27), (1, 32)] : Array (Int × Int)).toList = [(0, 27), (1, 32)] from rfl, lv_osw h1_0 (by decide), lv_osw h1_1 (by decide)]; rfl, by decide, ?_⟩
  refine pw_blk (pc' := 40) [.iconst (-3)] (by decide +kernel) ?_
  show pw_V x m_X7_judge 4 Z 40 [(0, .ref 0), (1, .int w)] [.int (-3)] mm
  rw [← hZ]
  refine pw_ri (by decide +kernel) ?_
  refine ⟨?_, rfl⟩
  simp [F_judge, nz10, nz20, nz21, nz30, nz31, nz32, nz40, nz41, nz42, nz43, nz50, nz51, nz52, nz53, nz54, nz60, nz61, nz62, nz63, nz64, nz65, h1_0, h1_1]

set_option maxHeartbeats 4000000 in
set_option maxRecDepth 100000 in
theorem c_count (w : Int32) (mm : pw_m) (hok : pw_ok mm) : pw_Ct 2 yX7_count m_X7_count [.ref 0, .int w] mm (fun r m' => r = some (.int (F_count mm w)) ∧ m' = mm) := by
  refine pw_ct (by decide +kernel) rfl (Nat.le_of_ble_eq_true rfl) (fun x => ?_)
  generalize hZ : pw_Z x _ = Z
  have bn := pw_bn hok
  have bk := pw_bk hok
  have b8 := pw_b48 hok
  have bd := pw_b420 hok
  have bm := pw_mulb (pw_b49 hok) bd
  show pw_V x m_X7_count 2 Z 0 [(0, .ref 0), (1, .int w)] [] mm
  refine pw_blk (pc' := 1) [.iload 1] (by decide +kernel) ?_
  show pw_V x m_X7_count 2 Z 1 [(0, .ref 0), (1, .int w)] [.int w] mm
  refine pw_tsw (tgt := 146) (dflt := 145) (lo := 0) (hi := 9) (offs := #[55, 63, 71, 79, 94, 102, 110, 118, 126, 134]) (len := 55) (by decide +kernel) (by decide) (fun h1 => ?_) (fun j hj h1 => ?_)
  · have e1_0 : ¬ w = nI 0 := fun q => by rw [q] at h1; revert h1; decide
    have e1_1 : ¬ w = nI 1 := fun q => by rw [q] at h1; revert h1; decide
    have e1_2 : ¬ w = nI 2 := fun q => by rw [q] at h1; revert h1; decide
    have e1_3 : ¬ w = nI 3 := fun q => by rw [q] at h1; revert h1; decide
    have e1_4 : ¬ w = nI 4 := fun q => by rw [q] at h1; revert h1; decide
    have e1_5 : ¬ w = nI 5 := fun q => by rw [q] at h1; revert h1; decide
    have e1_6 : ¬ w = nI 6 := fun q => by rw [q] at h1; revert h1; decide
    have e1_7 : ¬ w = nI 7 := fun q => by rw [q] at h1; revert h1; decide
    have e1_8 : ¬ w = nI 8 := fun q => by rw [q] at h1; revert h1; decide
    have e1_9 : ¬ w = nI 9 := fun q => by rw [q] at h1; revert h1; decide
    refine pw_blk (pc' := 148) [.iconst (-3)] (by decide +kernel) ?_
    show pw_V x m_X7_count 2 Z 148 [(0, .ref 0), (1, .int w)] [.int (-3)] mm
    rw [← hZ]
    refine pw_ri (by decide +kernel) ?_
    refine ⟨?_, rfl⟩
    simp [F_count, e1_0, e1_1, e1_2, e1_3, e1_4, e1_5, e1_6, e1_7, e1_8, e1_9]
  · match j, hj, h1 with
    | 0, hj, h1 =>
      refine ⟨55, 56, rfl, by decide, ?_⟩
      have e1 : w = nI 0 := Int32.toInt_inj.mp (by rw [h1]; rfl)
      subst e1
      refine pw_blk (pc' := 63) [.aload 0, .getfield 701, .getfield 500] (by decide +kernel) ?_
      show pw_V x m_X7_count 2 Z 63 [(0, .ref 0), (1, .int (nI 0))] [.int (mm 4 0)] mm
      rw [← hZ]
      refine pw_ri (by decide +kernel) ?_
      refine ⟨?_, rfl⟩
      first | rfl | exact congrArg (fun z => some (Value.int z)) (pw_q420 hok).symm | exact congrArg (fun z => some (Value.int z)) (pw_q421 hok).symm
    | 1, hj, h1 =>
      refine ⟨63, 64, rfl, by decide, ?_⟩
      have e1 : w = nI 1 := Int32.toInt_inj.mp (by rw [h1]; rfl)
      subst e1
      refine pw_blk (pc' := 71) [.aload 0, .getfield 701, .getfield 501] (by decide +kernel) ?_
      show pw_V x m_X7_count 2 Z 71 [(0, .ref 0), (1, .int (nI 1))] [.int (mm 4 1)] mm
      rw [← hZ]
      refine pw_ri (by decide +kernel) ?_
      refine ⟨?_, rfl⟩
      first | rfl | exact congrArg (fun z => some (Value.int z)) (pw_q420 hok).symm | exact congrArg (fun z => some (Value.int z)) (pw_q421 hok).symm
    | 2, hj, h1 =>
      refine ⟨71, 72, rfl, by decide, ?_⟩
      have e1 : w = nI 2 := Int32.toInt_inj.mp (by rw [h1]; rfl)
      subst e1
      refine pw_blk (pc' := 79) [.aload 0, .getfield 702, .getfield 0] (by decide +kernel) ?_
      show pw_V x m_X7_count 2 Z 79 [(0, .ref 0), (1, .int (nI 2))] [.int (mm 42 0)] mm
      rw [show mm 42 0 = nI (pw_g mm 42 0) from pw_q420 hok]
      rw [← hZ]
      refine pw_ri (by decide +kernel) ?_
      refine ⟨?_, rfl⟩
      first | rfl | exact congrArg (fun z => some (Value.int z)) (pw_q420 hok).symm | exact congrArg (fun z => some (Value.int z)) (pw_q421 hok).symm
    | 3, hj, h1 =>
      refine ⟨79, 80, rfl, by decide, ?_⟩
      have e1 : w = nI 3 := Int32.toInt_inj.mp (by rw [h1]; rfl)
      subst e1
      refine pw_blk (pc' := 91) [.aload 0, .getfield 701, .aload 0, .getfield 702, .getfield 0] (by decide +kernel) ?_
      show pw_V x m_X7_count 2 Z 91 [(0, .ref 0), (1, .int (nI 3))] [.int (mm 42 0), .ref 4] mm
      rw [show mm 42 0 = nI (pw_g mm 42 0) from pw_q420 hok]
      refine pw_cV (vs := [.int (nI (pw_g mm 42 0))]) (rest := []) k_X5_perilOn (c_perilOn mm hok) l_7_103 rfl rfl rfl rfl (by decide) (Nat.le_of_ble_eq_true rfl) (by decide +kernel) ?_
      rintro _ m1 ⟨rfl, e1⟩
      rw [e1]
      clear e1 m1
      show pw_V x m_X7_count 2 Z 94 [(0, .ref 0), (1, .int (nI 3))] [.int (pw_o (pw_pon mm))] mm
      rw [← hZ]
      refine pw_ri (by decide +kernel) ?_
      refine ⟨?_, rfl⟩
      first | rfl | exact congrArg (fun z => some (Value.int z)) (pw_q420 hok).symm | exact congrArg (fun z => some (Value.int z)) (pw_q421 hok).symm
    | 4, hj, h1 =>
      refine ⟨94, 95, rfl, by decide, ?_⟩
      have e1 : w = nI 4 := Int32.toInt_inj.mp (by rw [h1]; rfl)
      subst e1
      refine pw_blk (pc' := 102) [.aload 0, .getfield 702, .getfield 1] (by decide +kernel) ?_
      show pw_V x m_X7_count 2 Z 102 [(0, .ref 0), (1, .int (nI 4))] [.int (mm 42 1)] mm
      rw [show mm 42 1 = nI (pw_g mm 42 1) from pw_q421 hok]
      rw [← hZ]
      refine pw_ri (by decide +kernel) ?_
      refine ⟨?_, rfl⟩
      first | rfl | exact congrArg (fun z => some (Value.int z)) (pw_q420 hok).symm | exact congrArg (fun z => some (Value.int z)) (pw_q421 hok).symm
    | 5, hj, h1 =>
      refine ⟨102, 103, rfl, by decide, ?_⟩
      have e1 : w = nI 5 := Int32.toInt_inj.mp (by rw [h1]; rfl)
      subst e1
      refine pw_blk (pc' := 107) [.aload 0, .getfield 702] (by decide +kernel) ?_
      show pw_V x m_X7_count 2 Z 107 [(0, .ref 0), (1, .int (nI 5))] [.ref 42] mm
      refine pw_cV (vs := []) (rest := []) k_X0_whoSit (c_whoSit mm hok) l_7_157 rfl rfl rfl rfl (by decide) (Nat.le_of_ble_eq_true rfl) (by decide +kernel) ?_
      rintro _ m1 ⟨rfl, e1⟩
      rw [e1]
      clear e1 m1
      show pw_V x m_X7_count 2 Z 110 [(0, .ref 0), (1, .int (nI 5))] [.int (nI (pw_sb mm))] mm
      rw [← hZ]
      refine pw_ri (by decide +kernel) ?_
      refine ⟨?_, rfl⟩
      first | rfl | exact congrArg (fun z => some (Value.int z)) (pw_q420 hok).symm | exact congrArg (fun z => some (Value.int z)) (pw_q421 hok).symm
    | 6, hj, h1 =>
      refine ⟨110, 111, rfl, by decide, ?_⟩
      have e1 : w = nI 6 := Int32.toInt_inj.mp (by rw [h1]; rfl)
      subst e1
      refine pw_blk (pc' := 118) [.aload 0, .getfield 704, .getfield 604] (by decide +kernel) ?_
      show pw_V x m_X7_count 2 Z 118 [(0, .ref 0), (1, .int (nI 6))] [.int (mm 14 4)] mm
      rw [← hZ]
      refine pw_ri (by decide +kernel) ?_
      refine ⟨?_, rfl⟩
      first | rfl | exact congrArg (fun z => some (Value.int z)) (pw_q420 hok).symm | exact congrArg (fun z => some (Value.int z)) (pw_q421 hok).symm
    | 7, hj, h1 =>
      refine ⟨118, 119, rfl, by decide, ?_⟩
      have e1 : w = nI 7 := Int32.toInt_inj.mp (by rw [h1]; rfl)
      subst e1
      refine pw_blk (pc' := 123) [.aload 0, .getfield 701] (by decide +kernel) ?_
      show pw_V x m_X7_count 2 Z 123 [(0, .ref 0), (1, .int (nI 7))] [.ref 4] mm
      refine pw_cV (vs := []) (rest := []) k_X5_pairsOfEnemies (c_pairs mm hok) l_7_262 rfl rfl rfl rfl (by decide) (Nat.le_of_ble_eq_true rfl) (by decide +kernel) ?_
      rintro _ m1 ⟨rfl, e1⟩
      rw [e1]
      clear e1 m1
      show pw_V x m_X7_count 2 Z 126 [(0, .ref 0), (1, .int (nI 7))] [.int (nI (pw_sm (fun j => pw_pc (pw_g mm 10 j)) (pw_k mm) / 2))] mm
      rw [← hZ]
      refine pw_ri (by decide +kernel) ?_
      refine ⟨?_, rfl⟩
      first | rfl | exact congrArg (fun z => some (Value.int z)) (pw_q420 hok).symm | exact congrArg (fun z => some (Value.int z)) (pw_q421 hok).symm
    | 8, hj, h1 =>
      refine ⟨126, 127, rfl, by decide, ?_⟩
      have e1 : w = nI 8 := Int32.toInt_inj.mp (by rw [h1]; rfl)
      subst e1
      refine pw_blk (pc' := 134) [.aload 0, .getfield 703, .getfield 102] (by decide +kernel) ?_
      show pw_V x m_X7_count 2 Z 134 [(0, .ref 0), (1, .int (nI 8))] [.int (mm 11 2)] mm
      rw [← hZ]
      refine pw_ri (by decide +kernel) ?_
      refine ⟨?_, rfl⟩
      first | rfl | exact congrArg (fun z => some (Value.int z)) (pw_q420 hok).symm | exact congrArg (fun z => some (Value.int z)) (pw_q421 hok).symm
    | 9, hj, h1 =>
      refine ⟨134, 135, rfl, by decide, ?_⟩
      have e1 : w = nI 9 := Int32.toInt_inj.mp (by rw [h1]; rfl)
      subst e1
      refine pw_blk (pc' := 145) [.aload 0, .getfield 700, .getfield 200, .getfield 301] (by decide +kernel) ?_
      show pw_V x m_X7_count 2 Z 145 [(0, .ref 0), (1, .int (nI 9))] [.int (mm 2 1)] mm
      rw [← hZ]
      refine pw_ri (by decide +kernel) ?_
      refine ⟨?_, rfl⟩
      first | rfl | exact congrArg (fun z => some (Value.int z)) (pw_q420 hok).symm | exact congrArg (fun z => some (Value.int z)) (pw_q421 hok).symm
    | j + 10, hj, h1 => exact absurd hj (by omega)

set_option maxHeartbeats 4000000 in
set_option maxRecDepth 100000 in
theorem c_add (l : Int32) (mm : pw_m) (hok : pw_ok mm) (h0 : pw_g mm 2 1 < 160) : pw_Ct 0 yX3_add m_X3_add [.ref 2, .int l] mm (fun r m' => r = none ∧ m' = pw_up (pw_up mm 3 (pw_g mm 2 1) l) 2 1 (nI (pw_g mm 2 1 + 1))) := by
  refine pw_ct (by decide +kernel) rfl (Nat.le_of_ble_eq_true rfl) (fun x => ?_)
  generalize hZ : pw_Z x _ = Z
  show pw_V x m_X3_add 0 Z 0 [(0, .ref 2), (1, .int l)] [] mm
  refine pw_blk (pc' := 7) [.aload 0, .getfield 301, .iconst (160)] (by decide +kernel) ?_
  show pw_V x m_X3_add 0 Z 7 [(0, .ref 2), (1, .int l)] [.int (nI 160), .int (mm 2 1)] mm
  rw [show mm 2 1 = nI (pw_g mm 2 1) from pw_q21 hok]
  refine pw_in_ge (tgt := 30) (off := 23) (by omega) (by omega) (by decide +kernel) (by decide) (fun h7 => ?_) (fun h7 => ?_)
  · omega
  · refine pw_blk (pc' := 30) [.aload 0, .getfield 300, .aload 0, .getfield 301, .iload 1, .iastore, .aload 0, .dup, .getfield 301, .iconst 1, .iadd, .putfield 301] (by decide +kernel) ?_
    refine ⟨(pw_g mm 2 1), (show mm 2 1 = nI (pw_g mm 2 1) from by rw [show mm 2 1 = nI (pw_g mm 2 1) from pw_q21 hok]), by omega, ?_⟩
    show pw_V x m_X3_add 0 Z 30 [(0, .ref 2), (1, .int l)] [] (pw_up (pw_up mm 3 (pw_g mm 2 1) l) 2 1 ((mm 2 1) + (nI 1)))
    rw [show mm 2 1 = nI (pw_g mm 2 1) from pw_q21 hok]
    rw [show (nI (pw_g mm 2 1)) + (nI 1) = nI ((pw_g mm 2 1) + 1) from nI_add _ _]
    rw [← hZ]
    refine pw_rv (by decide +kernel) ?_
    exact ⟨rfl, rfl⟩

set_option maxHeartbeats 4000000 in
set_option maxRecDepth 100000 in
theorem c_write (l : Int32) (mm : pw_m) (hok : pw_ok mm) : pw_Ct 1 yX7_write m_X7_write [.ref 0, .int l] mm (fun r m' => r = some (.int (F_write mm l)) ∧ m' = G_write mm l) := by
  refine pw_ct (by decide +kernel) rfl (Nat.le_of_ble_eq_true rfl) (fun x => ?_)
  generalize hZ : pw_Z x _ = Z
  have bn := pw_bn hok
  have bk := pw_bk hok
  have b2 := pw_b21 hok
  show pw_V x m_X7_write 1 Z 0 [(0, .ref 0), (1, .int l)] [] mm
  refine pw_blk (pc' := 1) [.iload 1] (by decide +kernel) ?_
  show pw_V x m_X7_write 1 Z 1 [(0, .ref 0), (1, .int l)] [.int l] mm
  refine pw_if_lt (tgt := 11) (off := 10) (by decide +kernel) (by decide) (fun h1 => ?_) (fun h1 => ?_)
  · refine pw_blk (pc' := 13) [.iconst (-3)] (by decide +kernel) ?_
    show pw_V x m_X7_write 1 Z 13 [(0, .ref 0), (1, .int l)] [.int (-3)] mm
    rw [← hZ]
    refine pw_ri (by decide +kernel) ?_
    constructor
    · simp [F_write, pw_inr_f1 h1]
    · simp [G_write, pw_inr_f1 h1]
  · refine pw_blk (pc' := 8) [.iload 1, .iconst (255)] (by decide +kernel) ?_
    show pw_V x m_X7_write 1 Z 8 [(0, .ref 0), (1, .int l)] [.int (nI 255), .int l] mm
    refine pw_ic_le (tgt := 14) (off := 6) (by decide +kernel) (by decide) (fun h8 => ?_) (fun h8 => ?_)
    · refine pw_blk (pc' := 27) [.aload 0, .getfield 700, .getfield 200, .getfield 301, .iconst (160)] (by decide +kernel) ?_
      show pw_V x m_X7_write 1 Z 27 [(0, .ref 0), (1, .int l)] [.int (nI 160), .int (mm 2 1)] mm
      rw [show mm 2 1 = nI (pw_g mm 2 1) from pw_q21 hok]
      refine pw_in_lt (tgt := 33) (off := 6) (by omega) (by omega) (by decide +kernel) (by decide) (fun h27 => ?_) (fun h27 => ?_)
      · refine pw_blk (pc' := 41) [.aload 0, .getfield 700, .getfield 200, .iload 1] (by decide +kernel) ?_
        show pw_V x m_X7_write 1 Z 41 [(0, .ref 0), (1, .int l)] [.int l, .ref 2] mm
        refine pw_cV (vs := [.int l]) (rest := []) k_X3_add (c_add l mm hok (by omega)) l_7_65 rfl rfl rfl rfl (by decide) (Nat.le_of_ble_eq_true rfl) (by decide +kernel) ?_
        rintro _ m1 ⟨rfl, e1⟩
        rw [e1]
        clear e1 m1
        show pw_V x m_X7_write 1 Z 44 [(0, .ref 0), (1, .int l)] [] (pw_up (pw_up mm 3 (pw_g mm 2 1) l) 2 1 (nI (pw_g mm 2 1 + 1)))
        refine pw_blk (pc' := 54) [.aload 0, .getfield 700, .getfield 200, .getfield 301] (by decide +kernel) ?_
        show pw_V x m_X7_write 1 Z 54 [(0, .ref 0), (1, .int l)] [.int (nI (pw_g mm 2 1 + 1))] (pw_up (pw_up mm 3 (pw_g mm 2 1) l) 2 1 (nI (pw_g mm 2 1 + 1)))
        rw [← hZ]
        refine pw_ri (by decide +kernel) ?_
        constructor
        · simp [F_write, pw_inr_y3 (n := 255) (by omega) h1 h8, h27]
        · simp [G_write, pw_inr_y3 (n := 255) (by omega) h1 h8, h27]
      · refine pw_blk (pc' := 32) [.iconst (-5)] (by decide +kernel) ?_
        show pw_V x m_X7_write 1 Z 32 [(0, .ref 0), (1, .int l)] [.int (-5)] mm
        rw [← hZ]
        refine pw_ri (by decide +kernel) ?_
        constructor
        · simp [F_write, pw_inr_y3 (n := 255) (by omega) h1 h8, show ¬ pw_g mm 2 1 < 160 by omega]
        · simp [G_write, show ¬ pw_g mm 2 1 < 160 by omega]
    · refine pw_blk (pc' := 13) [.iconst (-3)] (by decide +kernel) ?_
      show pw_V x m_X7_write 1 Z 13 [(0, .ref 0), (1, .int l)] [.int (-3)] mm
      rw [← hZ]
      refine pw_ri (by decide +kernel) ?_
      constructor
      · simp [F_write, pw_inr_f3 (n := 255) (by omega) (Int32.not_le.mp h8)]
      · simp [G_write, pw_inr_f3 (n := 255) (by omega) (Int32.not_le.mp h8)]

set_option maxHeartbeats 4000000 in
set_option maxRecDepth 100000 in
theorem c_erase (mm : pw_m) : pw_Ct 0 yX7_erase m_X7_erase [.ref 0] mm (fun r m' => r = some (.int (mm 2 1)) ∧ m' = pw_up mm 2 1 0) := by
  refine pw_ct (by decide +kernel) rfl (Nat.le_of_ble_eq_true rfl) (fun x => ?_)
  generalize hZ : pw_Z x _ = Z
  show pw_V x m_X7_erase 0 Z 0 [(0, .ref 0)] [] mm
  refine pw_blk (pc' := 23) [.aload 0, .getfield 700, .getfield 200, .getfield 301, .istore 1, .aload 0, .getfield 700, .getfield 200, .iconst 0, .putfield 301, .iload 1] (by decide +kernel) ?_
  show pw_V x m_X7_erase 0 Z 23 [(1, .int (mm 2 1)), (0, .ref 0)] [.int (mm 2 1)] (pw_up mm 2 1 (nI 0))
  rw [← hZ]
  refine pw_ri (by decide +kernel) ?_
  exact ⟨rfl, rfl⟩

set_option maxHeartbeats 4000000 in
set_option maxRecDepth 100000 in
theorem c_forget (mm : pw_m) : pw_Ct 0 yX7_forget m_X7_forget [.ref 0] mm (fun r m' => r = some (.int (mm 14 4)) ∧ m' = pw_up mm 14 4 0) := by
  refine pw_ct (by decide +kernel) rfl (Nat.le_of_ble_eq_true rfl) (fun x => ?_)
  generalize hZ : pw_Z x _ = Z
  show pw_V x m_X7_forget 0 Z 0 [(0, .ref 0)] [] mm
  refine pw_blk (pc' := 17) [.aload 0, .getfield 704, .getfield 604, .istore 1, .aload 0, .getfield 704, .iconst 0, .putfield 604, .iload 1] (by decide +kernel) ?_
  show pw_V x m_X7_forget 0 Z 17 [(1, .int (mm 14 4)), (0, .ref 0)] [.int (mm 14 4)] (pw_up mm 14 4 (nI 0))
  rw [← hZ]
  refine pw_ri (by decide +kernel) ?_
  exact ⟨rfl, rfl⟩

set_option maxHeartbeats 4000000 in
set_option maxRecDepth 100000 in
theorem c_note (k s d t : Int32) (mm : pw_m) (hok : pw_ok mm) (h0 : pw_g mm 14 4 < 8) (ht : t = 0 ∨ t = 1) : pw_Ct 0 yX6_note m_X6_note [.ref 14, .int k, .int s, .int d, .int t] mm (fun r m' => r = none ∧ m' = pw_up (pw_up (pw_up (pw_up (pw_up mm 15 (pw_g mm 14 4) k) 16 (pw_g mm 14 4) s) 17 (pw_g mm 14 4) d) 18 (pw_g mm 14 4) t) 14 4 (nI (pw_g mm 14 4 + 1))) := by
  refine pw_ct (by decide +kernel) rfl (Nat.le_of_ble_eq_true rfl) (fun x => ?_)
  generalize hZ : pw_Z x _ = Z
  show pw_V x m_X6_note 0 Z 0 [(0, .ref 14), (1, .int k), (2, .int s), (3, .int d), (4, .int t)] [] mm
  refine pw_blk (pc' := 6) [.aload 0, .getfield 604, .iconst (8)] (by decide +kernel) ?_
  show pw_V x m_X6_note 0 Z 6 [(0, .ref 14), (1, .int k), (2, .int s), (3, .int d), (4, .int t)] [.int (nI 8), .int (mm 14 4)] mm
  rw [show mm 14 4 = nI (pw_g mm 14 4) from pw_q144 hok]
  refine pw_in_ge (tgt := 60) (off := 54) (by omega) (by omega) (by decide +kernel) (by decide) (fun h6 => ?_) (fun h6 => ?_)
  · omega
  · refine pw_blk (pc' := 60) [.aload 0, .getfield 600, .aload 0, .getfield 604, .iload 1, .iastore, .aload 0, .getfield 601, .aload 0, .getfield 604, .iload 2, .iastore, .aload 0, .getfield 602, .aload 0, .getfield 604, .iload 3, .iastore, .aload 0, .getfield 603, .aload 0, .getfield 604, .iload 4, .bastore, .aload 0, .dup, .getfield 604, .iconst 1, .iadd, .putfield 604] (by decide +kernel) ?_
    refine ⟨(pw_g mm 14 4), (show mm 14 4 = nI (pw_g mm 14 4) from by rw [show mm 14 4 = nI (pw_g mm 14 4) from pw_q144 hok]), by omega, ?_⟩
    refine ⟨(pw_g mm 14 4), (show mm 14 4 = nI (pw_g mm 14 4) from by rw [show mm 14 4 = nI (pw_g mm 14 4) from pw_q144 hok]), by omega, ?_⟩
    refine ⟨(pw_g mm 14 4), (show mm 14 4 = nI (pw_g mm 14 4) from by rw [show mm 14 4 = nI (pw_g mm 14 4) from pw_q144 hok]), by omega, ?_⟩
    refine ⟨ht, (pw_g mm 14 4), (show mm 14 4 = nI (pw_g mm 14 4) from by rw [show mm 14 4 = nI (pw_g mm 14 4) from pw_q144 hok]), by omega, ?_⟩
    show pw_V x m_X6_note 0 Z 60 [(0, .ref 14), (1, .int k), (2, .int s), (3, .int d), (4, .int t)] [] (pw_up (pw_up (pw_up (pw_up (pw_up mm 15 (pw_g mm 14 4) k) 16 (pw_g mm 14 4) s) 17 (pw_g mm 14 4) d) 18 (pw_g mm 14 4) t) 14 4 ((mm 14 4) + (nI 1)))
    rw [show mm 14 4 = nI (pw_g mm 14 4) from pw_q144 hok]
    rw [show (nI (pw_g mm 14 4)) + (nI 1) = nI ((pw_g mm 14 4) + 1) from nI_add _ _]
    rw [← hZ]
    refine pw_rv (by decide +kernel) ?_
    exact ⟨rfl, rfl⟩

theorem pw_t0 {t : Int32} (h1 : ¬ t < 0) (h2 : t ≤ nI 1) (h3 : ¬ t = nI 1) : t = nI 0 := by
  obtain ⟨j, hj, e⟩ := nI_of h1
  subst e
  have := (nI_leI hj (by omega)).mp h2
  rcases (show j = 0 ∨ j = 1 by omega) with rfl | rfl
  · rfl
  · exact absurd rfl h3

set_option maxHeartbeats 4000000 in
set_option maxRecDepth 100000 in
theorem c_seen (k s d t : Int32) (mm : pw_m) (hok : pw_ok mm) : pw_Ct 1 yX7_seen m_X7_seen [.ref 0, .int k, .int s, .int d, .int t] mm (fun r m' => r = some (.int (F_seen mm k s d t)) ∧ m' = G_seen mm k s d t) := by
  refine pw_ct (by decide +kernel) rfl (Nat.le_of_ble_eq_true rfl) (fun x => ?_)
  generalize hZ : pw_Z x _ = Z
  have bn := pw_bn hok
  have bk := pw_bk hok
  have b2 := pw_b144 hok
  have bd := pw_b420 hok
  show pw_V x m_X7_seen 1 Z 0 [(0, .ref 0), (1, .int k), (2, .int s), (3, .int d), (4, .int t)] [] mm
  refine pw_blk (pc' := 2) [.aload 0, .iload 1] (by decide +kernel) ?_
  show pw_V x m_X7_seen 1 Z 2 [(0, .ref 0), (1, .int k), (2, .int s), (3, .int d), (4, .int t)] [.int k, .ref 0] mm
  refine pw_cV (vs := [.int k]) (rest := []) k_X7_isKnight (c_isKnight k mm hok) l_7_106 rfl rfl rfl rfl (by decide) (Nat.le_of_ble_eq_true rfl) (by decide +kernel) ?_
  rintro _ m1 ⟨rfl, e1⟩
  rw [e1]
  clear e1 m1
  show pw_V x m_X7_seen 1 Z 5 [(0, .ref 0), (1, .int k), (2, .int s), (3, .int d), (4, .int t)] [.int (pw_b (pw_inr k (pw_k mm)))] mm
  refine pw_ib_eq (tgt := 16) (off := 11) (by decide +kernel) (by decide) (fun h5 => ?_) (fun h5 => ?_)
  · refine pw_blk (pc' := 18) [.iconst (-2)] (by decide +kernel) ?_
    show pw_V x m_X7_seen 1 Z 18 [(0, .ref 0), (1, .int k), (2, .int s), (3, .int d), (4, .int t)] [.int (-2)] mm
    rw [← hZ]
    refine pw_ri (by decide +kernel) ?_
    constructor
    · simp [F_seen, h5]
    · simp [G_seen, h5]
  · have h5_ := h5
    refine pw_blk (pc' := 10) [.aload 0, .iload 2] (by decide +kernel) ?_
    show pw_V x m_X7_seen 1 Z 10 [(0, .ref 0), (1, .int k), (2, .int s), (3, .int d), (4, .int t)] [.int s, .ref 0] mm
    refine pw_cV (vs := [.int s]) (rest := []) k_X7_isSeat (c_isSeat s mm hok) l_7_86 rfl rfl rfl rfl (by decide) (Nat.le_of_ble_eq_true rfl) (by decide +kernel) ?_
    rintro _ m1 ⟨rfl, e1⟩
    rw [e1]
    clear e1 m1
    show pw_V x m_X7_seen 1 Z 13 [(0, .ref 0), (1, .int k), (2, .int s), (3, .int d), (4, .int t)] [.int (pw_b (pw_inr s (pw_n mm)))] mm
    refine pw_ib_ne (tgt := 19) (off := 6) (by decide +kernel) (by decide) (fun h13 => ?_) (fun h13 => ?_)
    · have h13_ := h13
      refine pw_blk (pc' := 20) [.iload 3] (by decide +kernel) ?_
      show pw_V x m_X7_seen 1 Z 20 [(0, .ref 0), (1, .int k), (2, .int s), (3, .int d), (4, .int t)] [.int d] mm
      refine pw_if_lt (tgt := 45) (off := 25) (by decide +kernel) (by decide) (fun h20 => ?_) (fun h20 => ?_)
      · refine pw_blk (pc' := 47) [.iconst (-3)] (by decide +kernel) ?_
        show pw_V x m_X7_seen 1 Z 47 [(0, .ref 0), (1, .int k), (2, .int s), (3, .int d), (4, .int t)] [.int (-3)] mm
        rw [← hZ]
        refine pw_ri (by decide +kernel) ?_
        constructor
        · simp [F_seen, h5_, h13_, pw_inr_f1 h20]
        · simp [G_seen, pw_inr_f1 h20]
      · refine pw_blk (pc' := 31) [.iload 3, .aload 0, .getfield 702, .getfield 0] (by decide +kernel) ?_
        show pw_V x m_X7_seen 1 Z 31 [(0, .ref 0), (1, .int k), (2, .int s), (3, .int d), (4, .int t)] [.int (mm 42 0), .int d] mm
        rw [show mm 42 0 = nI (pw_g mm 42 0) from pw_q420 hok]
        refine pw_ic_gt (tgt := 45) (off := 14) (by decide +kernel) (by decide) (fun h31 => ?_) (fun h31 => ?_)
        · refine pw_blk (pc' := 47) [.iconst (-3)] (by decide +kernel) ?_
          show pw_V x m_X7_seen 1 Z 47 [(0, .ref 0), (1, .int k), (2, .int s), (3, .int d), (4, .int t)] [.int (-3)] mm
          rw [← hZ]
          refine pw_ri (by decide +kernel) ?_
          constructor
          · simp [F_seen, h5_, h13_, pw_inr_f3 (by omega) h31]
          · simp [G_seen, pw_inr_f3 (by omega) h31]
        · refine pw_blk (pc' := 36) [.iload 4] (by decide +kernel) ?_
          show pw_V x m_X7_seen 1 Z 36 [(0, .ref 0), (1, .int k), (2, .int s), (3, .int d), (4, .int t)] [.int t] mm
          refine pw_if_lt (tgt := 45) (off := 9) (by decide +kernel) (by decide) (fun h36 => ?_) (fun h36 => ?_)
          · refine pw_blk (pc' := 47) [.iconst (-3)] (by decide +kernel) ?_
            show pw_V x m_X7_seen 1 Z 47 [(0, .ref 0), (1, .int k), (2, .int s), (3, .int d), (4, .int t)] [.int (-3)] mm
            rw [← hZ]
            refine pw_ri (by decide +kernel) ?_
            constructor
            · simp [F_seen, h5_, h13_, pw_inr_f1 h36]
            · simp [G_seen, pw_inr_f1 h36]
          · refine pw_blk (pc' := 42) [.iload 4, .iconst 1] (by decide +kernel) ?_
            show pw_V x m_X7_seen 1 Z 42 [(0, .ref 0), (1, .int k), (2, .int s), (3, .int d), (4, .int t)] [.int (nI 1), .int t] mm
            refine pw_ic_le (tgt := 48) (off := 6) (by decide +kernel) (by decide) (fun h42 => ?_) (fun h42 => ?_)
            · refine pw_blk (pc' := 57) [.aload 0, .getfield 704, .getfield 604, .iconst (8)] (by decide +kernel) ?_
              show pw_V x m_X7_seen 1 Z 57 [(0, .ref 0), (1, .int k), (2, .int s), (3, .int d), (4, .int t)] [.int (nI 8), .int (mm 14 4)] mm
              rw [show mm 14 4 = nI (pw_g mm 14 4) from pw_q144 hok]
              refine pw_in_lt (tgt := 63) (off := 6) (by omega) (by omega) (by decide +kernel) (by decide) (fun h57 => ?_) (fun h57 => ?_)
              · refine pw_blk (pc' := 73) [.aload 0, .getfield 704, .iload 1, .iload 2, .iload 3, .iload 4, .iconst 1] (by decide +kernel) ?_
                show pw_V x m_X7_seen 1 Z 73 [(0, .ref 0), (1, .int k), (2, .int s), (3, .int d), (4, .int t)] [.int (nI 1), .int t, .int d, .int s, .int k, .ref 14] mm
                refine pw_ic_ne (tgt := 80) (off := 7) (by decide +kernel) (by decide) (fun h73 => ?_) (fun h73 => ?_)
                · refine pw_blk (pc' := 81) [.iconst 0] (by decide +kernel) ?_
                  show pw_V x m_X7_seen 1 Z 81 [(0, .ref 0), (1, .int k), (2, .int s), (3, .int d), (4, .int t)] [.int (nI 0), .int d, .int s, .int k, .ref 14] mm
                  refine pw_cV (vs := [.int k, .int s, .int d, .int (nI 0)]) (rest := []) k_X6_note (c_note k s d (nI 0) mm hok (by omega) (by decide)) l_7_220 rfl rfl rfl rfl (by decide) (Nat.le_of_ble_eq_true rfl) (by decide +kernel) ?_
                  rintro _ m1 ⟨rfl, e1⟩
                  rw [e1]
                  clear e1 m1
                  show pw_V x m_X7_seen 1 Z 84 [(0, .ref 0), (1, .int k), (2, .int s), (3, .int d), (4, .int t)] [] (pw_up (pw_up (pw_up (pw_up (pw_up mm 15 (pw_g mm 14 4) k) 16 (pw_g mm 14 4) s) 17 (pw_g mm 14 4) d) 18 (pw_g mm 14 4) (nI 0)) 14 4 (nI (pw_g mm 14 4 + 1)))
                  refine pw_blk (pc' := 91) [.aload 0, .getfield 704, .getfield 604] (by decide +kernel) ?_
                  show pw_V x m_X7_seen 1 Z 91 [(0, .ref 0), (1, .int k), (2, .int s), (3, .int d), (4, .int t)] [.int (nI (pw_g mm 14 4 + 1))] (pw_up (pw_up (pw_up (pw_up (pw_up mm 15 (pw_g mm 14 4) k) 16 (pw_g mm 14 4) s) 17 (pw_g mm 14 4) d) 18 (pw_g mm 14 4) (nI 0)) 14 4 (nI (pw_g mm 14 4 + 1)))
                  rw [← hZ]
                  refine pw_ri (by decide +kernel) ?_
                  have y1 := pw_inr_y3 (n := pw_g mm 42 0) (by omega) h20 (Int32.not_lt.mp h31)
                  have y2 := pw_inr_y3 (n := 1) (by omega) h36 h42
                  have et : t = nI 0 := pw_t0 h36 h42 h73
                  subst et
                  constructor
                  · simp [F_seen, h5_, h13_, y1, y2, h57]
                  · simp [G_seen, h5_, h13_, y1, y2, h57]
                · refine pw_blk (pc' := 77) [.iconst 1] (by decide +kernel) ?_
                  show pw_V x m_X7_seen 1 Z 77 [(0, .ref 0), (1, .int k), (2, .int s), (3, .int d), (4, .int t)] [.int (nI 1), .int d, .int s, .int k, .ref 14] mm
                  refine pw_goto (tgt := 81) (off := 4) (by decide +kernel) (by decide) ?_
                  refine pw_cV (vs := [.int k, .int s, .int d, .int (nI 1)]) (rest := []) k_X6_note (c_note k s d (nI 1) mm hok (by omega) (by decide)) l_7_220 rfl rfl rfl rfl (by decide) (Nat.le_of_ble_eq_true rfl) (by decide +kernel) ?_
                  rintro _ m1 ⟨rfl, e1⟩
                  rw [e1]
                  clear e1 m1
                  show pw_V x m_X7_seen 1 Z 84 [(0, .ref 0), (1, .int k), (2, .int s), (3, .int d), (4, .int t)] [] (pw_up (pw_up (pw_up (pw_up (pw_up mm 15 (pw_g mm 14 4) k) 16 (pw_g mm 14 4) s) 17 (pw_g mm 14 4) d) 18 (pw_g mm 14 4) (nI 1)) 14 4 (nI (pw_g mm 14 4 + 1)))
                  refine pw_blk (pc' := 91) [.aload 0, .getfield 704, .getfield 604] (by decide +kernel) ?_
                  show pw_V x m_X7_seen 1 Z 91 [(0, .ref 0), (1, .int k), (2, .int s), (3, .int d), (4, .int t)] [.int (nI (pw_g mm 14 4 + 1))] (pw_up (pw_up (pw_up (pw_up (pw_up mm 15 (pw_g mm 14 4) k) 16 (pw_g mm 14 4) s) 17 (pw_g mm 14 4) d) 18 (pw_g mm 14 4) (nI 1)) 14 4 (nI (pw_g mm 14 4 + 1)))
                  rw [← hZ]
                  refine pw_ri (by decide +kernel) ?_
                  have y1 := pw_inr_y3 (n := pw_g mm 42 0) (by omega) h20 (Int32.not_lt.mp h31)
                  have y2 := pw_inr_y3 (n := 1) (by omega) h36 h42
                  have et : t = nI 1 := h73
                  subst et
                  constructor
                  · simp [F_seen, h5_, h13_, y1, y2, h57]
                  · simp [G_seen, h5_, h13_, y1, y2, h57]
              · refine pw_blk (pc' := 62) [.iconst (-5)] (by decide +kernel) ?_
                show pw_V x m_X7_seen 1 Z 62 [(0, .ref 0), (1, .int k), (2, .int s), (3, .int d), (4, .int t)] [.int (-5)] mm
                rw [← hZ]
                refine pw_ri (by decide +kernel) ?_
                have y1 := pw_inr_y3 (n := pw_g mm 42 0) (by omega) h20 (Int32.not_lt.mp h31)
                have y2 := pw_inr_y3 (n := 1) (by omega) h36 h42
                constructor
                · simp [F_seen, h5_, h13_, y1, y2, show ¬ pw_g mm 14 4 < 8 by omega]
                · simp [G_seen, show ¬ pw_g mm 14 4 < 8 by omega]
            · refine pw_blk (pc' := 47) [.iconst (-3)] (by decide +kernel) ?_
              show pw_V x m_X7_seen 1 Z 47 [(0, .ref 0), (1, .int k), (2, .int s), (3, .int d), (4, .int t)] [.int (-3)] mm
              rw [← hZ]
              refine pw_ri (by decide +kernel) ?_
              constructor
              · simp [F_seen, h5_, h13_, pw_inr_f3 (n := 1) (by omega) (Int32.not_le.mp h42)]
              · simp [G_seen, pw_inr_f3 (n := 1) (by omega) (Int32.not_le.mp h42)]
    · refine pw_blk (pc' := 18) [.iconst (-2)] (by decide +kernel) ?_
      show pw_V x m_X7_seen 1 Z 18 [(0, .ref 0), (1, .int k), (2, .int s), (3, .int d), (4, .int t)] [.int (-2)] mm
      rw [← hZ]
      refine pw_ri (by decide +kernel) ?_
      constructor
      · simp [F_seen, h13]
      · simp [G_seen, h13]
