set_option maxHeartbeats 4000000 in
set_option maxRecDepth 100000 in
theorem c_copy_46_42 (mm : pw_m) : pw_Ct 0 yX0_copy m_X0_copy [.ref 46, .ref 42] mm (fun r m' => r = none ∧ m' = pw_cpI mm 46 42 6) := by
  refine pw_ct (by decide +kernel) rfl (Nat.le_of_ble_eq_true rfl) (fun x => ?_)
  generalize hZ : pw_Z x _ = Z
  have loop : ∀ i : Nat, i ≤ 6 → pw_V x m_X0_copy 0 Z 18 [(0, .ref 46), (1, .ref 42), (2, .int (nI i))] [] (pw_cpI mm 46 42 i) := by
    refine pw_dn 6 (fun i hi ih => ?_)
    refine pw_blk (pc' := 21) [.iload 2, .iconst (6)] (by decide +kernel) ?_
    show pw_V x m_X0_copy 0 Z 21 [(0, .ref 46), (1, .ref 42), (2, .int (nI i))] [.int (nI 6), .int (nI i)] (pw_cpI mm 46 42 i)
    refine pw_in_ge (tgt := 66) (off := 45) (by omega) (by omega) (by decide +kernel) (by decide) (fun h21 => ?_) (fun h21 => ?_)
    · rw [← hZ]
      refine pw_rv (by decide +kernel) ?_
      have e : i = 6 := by omega
      subst e
      exact ⟨rfl, rfl⟩
    · refine pw_blk (pc' := 63) [.aload 0, .getfield 2, .iload 2, .aload 1, .getfield 2, .iload 2, .iaload, .iastore, .aload 0, .getfield 3, .iload 2, .aload 1, .getfield 3, .iload 2, .iaload, .iastore, .aload 0, .getfield 4, .iload 2, .aload 1, .getfield 4, .iload 2, .iaload, .iastore, .iinc 2 1] (by decide +kernel) ?_
      refine ⟨i, rfl, by omega, ?_⟩
      refine ⟨i, rfl, by omega, ?_⟩
      refine ⟨i, rfl, by omega, ?_⟩
      refine ⟨i, rfl, by omega, ?_⟩
      refine ⟨i, rfl, by omega, ?_⟩
      refine ⟨i, rfl, by omega, ?_⟩
      show pw_V x m_X0_copy 0 Z 63 [(2, .int ((nI i) + (nI 1))), (0, .ref 46), (1, .ref 42)] [] (pw_up (pw_up (pw_up (pw_cpI mm 46 42 i) 47 i ((pw_cpI mm 46 42 i) 43 i)) 48 i ((pw_cpI mm 46 42 i) 44 i)) 49 i ((pw_cpI mm 46 42 i) 45 i))
      rw [show (nI i) + (nI 1) = nI (i + 1) from nI_add _ _]
      refine pw_goto (tgt := 18) (off := -45) (by decide +kernel) (by decide) ?_
      refine pw_lvp [1, 2, 0] rfl ?_
      have e := ih (by omega)
      rw [← pw_cpI_s (A := mm) (d := 46) (s := 42) (i := i) (by omega)] at e
      exact e
  show pw_V x m_X0_copy 0 Z 0 [(0, .ref 46), (1, .ref 42)] [] mm
  refine pw_blk (pc' := 18) [.aload 0, .aload 1, .getfield 0, .putfield 0, .aload 0, .aload 1, .getfield 1, .putfield 1, .iconst 0, .istore 2] (by decide +kernel) ?_
  show pw_V x m_X0_copy 0 Z 18 [(2, .int (nI 0)), (0, .ref 46), (1, .ref 42)] [] (pw_up (pw_up mm 46 0 (mm 42 0)) 46 1 (mm 42 1))
  refine pw_lvp [1, 2, 0] rfl ?_
  rw [pw_cpI_0 (A := mm) (d := 46) (s := 42) (by omega)]
  exact loop 0 (by omega)

set_option maxHeartbeats 4000000 in
set_option maxRecDepth 100000 in
theorem c_copy_50_42 (mm : pw_m) : pw_Ct 0 yX0_copy m_X0_copy [.ref 50, .ref 42] mm (fun r m' => r = none ∧ m' = pw_cpI mm 50 42 6) := by
  refine pw_ct (by decide +kernel) rfl (Nat.le_of_ble_eq_true rfl) (fun x => ?_)
  generalize hZ : pw_Z x _ = Z
  have loop : ∀ i : Nat, i ≤ 6 → pw_V x m_X0_copy 0 Z 18 [(0, .ref 50), (1, .ref 42), (2, .int (nI i))] [] (pw_cpI mm 50 42 i) := by
    refine pw_dn 6 (fun i hi ih => ?_)
    refine pw_blk (pc' := 21) [.iload 2, .iconst (6)] (by decide +kernel) ?_
    show pw_V x m_X0_copy 0 Z 21 [(0, .ref 50), (1, .ref 42), (2, .int (nI i))] [.int (nI 6), .int (nI i)] (pw_cpI mm 50 42 i)
    refine pw_in_ge (tgt := 66) (off := 45) (by omega) (by omega) (by decide +kernel) (by decide) (fun h21 => ?_) (fun h21 => ?_)
    · rw [← hZ]
      refine pw_rv (by decide +kernel) ?_
      have e : i = 6 := by omega
      subst e
      exact ⟨rfl, rfl⟩
    · refine pw_blk (pc' := 63) [.aload 0, .getfield 2, .iload 2, .aload 1, .getfield 2, .iload 2, .iaload, .iastore, .aload 0, .getfield 3, .iload 2, .aload 1, .getfield 3, .iload 2, .iaload, .iastore, .aload 0, .getfield 4, .iload 2, .aload 1, .getfield 4, .iload 2, .iaload, .iastore, .iinc 2 1] (by decide +kernel) ?_
      refine ⟨i, rfl, by omega, ?_⟩
      refine ⟨i, rfl, by omega, ?_⟩
      refine ⟨i, rfl, by omega, ?_⟩
      refine ⟨i, rfl, by omega, ?_⟩
      refine ⟨i, rfl, by omega, ?_⟩
      refine ⟨i, rfl, by omega, ?_⟩
      show pw_V x m_X0_copy 0 Z 63 [(2, .int ((nI i) + (nI 1))), (0, .ref 50), (1, .ref 42)] [] (pw_up (pw_up (pw_up (pw_cpI mm 50 42 i) 51 i ((pw_cpI mm 50 42 i) 43 i)) 52 i ((pw_cpI mm 50 42 i) 44 i)) 53 i ((pw_cpI mm 50 42 i) 45 i))
      rw [show (nI i) + (nI 1) = nI (i + 1) from nI_add _ _]
      refine pw_goto (tgt := 18) (off := -45) (by decide +kernel) (by decide) ?_
      refine pw_lvp [1, 2, 0] rfl ?_
      have e := ih (by omega)
      rw [← pw_cpI_s (A := mm) (d := 50) (s := 42) (i := i) (by omega)] at e
      exact e
  show pw_V x m_X0_copy 0 Z 0 [(0, .ref 50), (1, .ref 42)] [] mm
  refine pw_blk (pc' := 18) [.aload 0, .aload 1, .getfield 0, .putfield 0, .aload 0, .aload 1, .getfield 1, .putfield 1, .iconst 0, .istore 2] (by decide +kernel) ?_
  show pw_V x m_X0_copy 0 Z 18 [(2, .int (nI 0)), (0, .ref 50), (1, .ref 42)] [] (pw_up (pw_up mm 50 0 (mm 42 0)) 50 1 (mm 42 1))
  refine pw_lvp [1, 2, 0] rfl ?_
  rw [pw_cpI_0 (A := mm) (d := 50) (s := 42) (by omega)]
  exact loop 0 (by omega)

set_option maxHeartbeats 4000000 in
set_option maxRecDepth 100000 in
theorem c_copy_54_42 (mm : pw_m) : pw_Ct 0 yX0_copy m_X0_copy [.ref 54, .ref 42] mm (fun r m' => r = none ∧ m' = pw_cpI mm 54 42 6) := by
  refine pw_ct (by decide +kernel) rfl (Nat.le_of_ble_eq_true rfl) (fun x => ?_)
  generalize hZ : pw_Z x _ = Z
  have loop : ∀ i : Nat, i ≤ 6 → pw_V x m_X0_copy 0 Z 18 [(0, .ref 54), (1, .ref 42), (2, .int (nI i))] [] (pw_cpI mm 54 42 i) := by
    refine pw_dn 6 (fun i hi ih => ?_)
    refine pw_blk (pc' := 21) [.iload 2, .iconst (6)] (by decide +kernel) ?_
    show pw_V x m_X0_copy 0 Z 21 [(0, .ref 54), (1, .ref 42), (2, .int (nI i))] [.int (nI 6), .int (nI i)] (pw_cpI mm 54 42 i)
    refine pw_in_ge (tgt := 66) (off := 45) (by omega) (by omega) (by decide +kernel) (by decide) (fun h21 => ?_) (fun h21 => ?_)
    · rw [← hZ]
      refine pw_rv (by decide +kernel) ?_
      have e : i = 6 := by omega
      subst e
      exact ⟨rfl, rfl⟩
    · refine pw_blk (pc' := 63) [.aload 0, .getfield 2, .iload 2, .aload 1, .getfield 2, .iload 2, .iaload, .iastore, .aload 0, .getfield 3, .iload 2, .aload 1, .getfield 3, .iload 2, .iaload, .iastore, .aload 0, .getfield 4, .iload 2, .aload 1, .getfield 4, .iload 2, .iaload, .iastore, .iinc 2 1] (by decide +kernel) ?_
      refine ⟨i, rfl, by omega, ?_⟩
      refine ⟨i, rfl, by omega, ?_⟩
      refine ⟨i, rfl, by omega, ?_⟩
      refine ⟨i, rfl, by omega, ?_⟩
      refine ⟨i, rfl, by omega, ?_⟩
      refine ⟨i, rfl, by omega, ?_⟩
      show pw_V x m_X0_copy 0 Z 63 [(2, .int ((nI i) + (nI 1))), (0, .ref 54), (1, .ref 42)] [] (pw_up (pw_up (pw_up (pw_cpI mm 54 42 i) 55 i ((pw_cpI mm 54 42 i) 43 i)) 56 i ((pw_cpI mm 54 42 i) 44 i)) 57 i ((pw_cpI mm 54 42 i) 45 i))
      rw [show (nI i) + (nI 1) = nI (i + 1) from nI_add _ _]
      refine pw_goto (tgt := 18) (off := -45) (by decide +kernel) (by decide) ?_
      refine pw_lvp [1, 2, 0] rfl ?_
      have e := ih (by omega)
      rw [← pw_cpI_s (A := mm) (d := 54) (s := 42) (i := i) (by omega)] at e
      exact e
  show pw_V x m_X0_copy 0 Z 0 [(0, .ref 54), (1, .ref 42)] [] mm
  refine pw_blk (pc' := 18) [.aload 0, .aload 1, .getfield 0, .putfield 0, .aload 0, .aload 1, .getfield 1, .putfield 1, .iconst 0, .istore 2] (by decide +kernel) ?_
  show pw_V x m_X0_copy 0 Z 18 [(2, .int (nI 0)), (0, .ref 54), (1, .ref 42)] [] (pw_up (pw_up mm 54 0 (mm 42 0)) 54 1 (mm 42 1))
  refine pw_lvp [1, 2, 0] rfl ?_
  rw [pw_cpI_0 (A := mm) (d := 54) (s := 42) (by omega)]
  exact loop 0 (by omega)

set_option maxHeartbeats 4000000 in
set_option maxRecDepth 100000 in
theorem c_copy_58_42 (mm : pw_m) : pw_Ct 0 yX0_copy m_X0_copy [.ref 58, .ref 42] mm (fun r m' => r = none ∧ m' = pw_cpI mm 58 42 6) := by
  refine pw_ct (by decide +kernel) rfl (Nat.le_of_ble_eq_true rfl) (fun x => ?_)
  generalize hZ : pw_Z x _ = Z
  have loop : ∀ i : Nat, i ≤ 6 → pw_V x m_X0_copy 0 Z 18 [(0, .ref 58), (1, .ref 42), (2, .int (nI i))] [] (pw_cpI mm 58 42 i) := by
    refine pw_dn 6 (fun i hi ih => ?_)
    refine pw_blk (pc' := 21) [.iload 2, .iconst (6)] (by decide +kernel) ?_
    show pw_V x m_X0_copy 0 Z 21 [(0, .ref 58), (1, .ref 42), (2, .int (nI i))] [.int (nI 6), .int (nI i)] (pw_cpI mm 58 42 i)
    refine pw_in_ge (tgt := 66) (off := 45) (by omega) (by omega) (by decide +kernel) (by decide) (fun h21 => ?_) (fun h21 => ?_)
    · rw [← hZ]
      refine pw_rv (by decide +kernel) ?_
      have e : i = 6 := by omega
      subst e
      exact ⟨rfl, rfl⟩
    · refine pw_blk (pc' := 63) [.aload 0, .getfield 2, .iload 2, .aload 1, .getfield 2, .iload 2, .iaload, .iastore, .aload 0, .getfield 3, .iload 2, .aload 1, .getfield 3, .iload 2, .iaload, .iastore, .aload 0, .getfield 4, .iload 2, .aload 1, .getfield 4, .iload 2, .iaload, .iastore, .iinc 2 1] (by decide +kernel) ?_
      refine ⟨i, rfl, by omega, ?_⟩
      refine ⟨i, rfl, by omega, ?_⟩
      refine ⟨i, rfl, by omega, ?_⟩
      refine ⟨i, rfl, by omega, ?_⟩
      refine ⟨i, rfl, by omega, ?_⟩
      refine ⟨i, rfl, by omega, ?_⟩
      show pw_V x m_X0_copy 0 Z 63 [(2, .int ((nI i) + (nI 1))), (0, .ref 58), (1, .ref 42)] [] (pw_up (pw_up (pw_up (pw_cpI mm 58 42 i) 59 i ((pw_cpI mm 58 42 i) 43 i)) 60 i ((pw_cpI mm 58 42 i) 44 i)) 61 i ((pw_cpI mm 58 42 i) 45 i))
      rw [show (nI i) + (nI 1) = nI (i + 1) from nI_add _ _]
      refine pw_goto (tgt := 18) (off := -45) (by decide +kernel) (by decide) ?_
      refine pw_lvp [1, 2, 0] rfl ?_
      have e := ih (by omega)
      rw [← pw_cpI_s (A := mm) (d := 58) (s := 42) (i := i) (by omega)] at e
      exact e
  show pw_V x m_X0_copy 0 Z 0 [(0, .ref 58), (1, .ref 42)] [] mm
  refine pw_blk (pc' := 18) [.aload 0, .aload 1, .getfield 0, .putfield 0, .aload 0, .aload 1, .getfield 1, .putfield 1, .iconst 0, .istore 2] (by decide +kernel) ?_
  show pw_V x m_X0_copy 0 Z 18 [(2, .int (nI 0)), (0, .ref 58), (1, .ref 42)] [] (pw_up (pw_up mm 58 0 (mm 42 0)) 58 1 (mm 42 1))
  refine pw_lvp [1, 2, 0] rfl ?_
  rw [pw_cpI_0 (A := mm) (d := 58) (s := 42) (by omega)]
  exact loop 0 (by omega)

set_option maxHeartbeats 4000000 in
set_option maxRecDepth 100000 in
theorem c_copy_62_42 (mm : pw_m) : pw_Ct 0 yX0_copy m_X0_copy [.ref 62, .ref 42] mm (fun r m' => r = none ∧ m' = pw_cpI mm 62 42 6) := by
  refine pw_ct (by decide +kernel) rfl (Nat.le_of_ble_eq_true rfl) (fun x => ?_)
  generalize hZ : pw_Z x _ = Z
  have loop : ∀ i : Nat, i ≤ 6 → pw_V x m_X0_copy 0 Z 18 [(0, .ref 62), (1, .ref 42), (2, .int (nI i))] [] (pw_cpI mm 62 42 i) := by
    refine pw_dn 6 (fun i hi ih => ?_)
    refine pw_blk (pc' := 21) [.iload 2, .iconst (6)] (by decide +kernel) ?_
    show pw_V x m_X0_copy 0 Z 21 [(0, .ref 62), (1, .ref 42), (2, .int (nI i))] [.int (nI 6), .int (nI i)] (pw_cpI mm 62 42 i)
    refine pw_in_ge (tgt := 66) (off := 45) (by omega) (by omega) (by decide +kernel) (by decide) (fun h21 => ?_) (fun h21 => ?_)
    · rw [← hZ]
      refine pw_rv (by decide +kernel) ?_
      have e : i = 6 := by omega
      subst e
      exact ⟨rfl, rfl⟩
    · refine pw_blk (pc' := 63) [.aload 0, .getfield 2, .iload 2, .aload 1, .getfield 2, .iload 2, .iaload, .iastore, .aload 0, .getfield 3, .iload 2, .aload 1, .getfield 3, .iload 2, .iaload, .iastore, .aload 0, .getfield 4, .iload 2, .aload 1, .getfield 4, .iload 2, .iaload, .iastore, .iinc 2 1] (by decide +kernel) ?_
      refine ⟨i, rfl, by omega, ?_⟩
      refine ⟨i, rfl, by omega, ?_⟩
      refine ⟨i, rfl, by omega, ?_⟩
      refine ⟨i, rfl, by omega, ?_⟩
      refine ⟨i, rfl, by omega, ?_⟩
      refine ⟨i, rfl, by omega, ?_⟩
      show pw_V x m_X0_copy 0 Z 63 [(2, .int ((nI i) + (nI 1))), (0, .ref 62), (1, .ref 42)] [] (pw_up (pw_up (pw_up (pw_cpI mm 62 42 i) 63 i ((pw_cpI mm 62 42 i) 43 i)) 64 i ((pw_cpI mm 62 42 i) 44 i)) 65 i ((pw_cpI mm 62 42 i) 45 i))
      rw [show (nI i) + (nI 1) = nI (i + 1) from nI_add _ _]
      refine pw_goto (tgt := 18) (off := -45) (by decide +kernel) (by decide) ?_
      refine pw_lvp [1, 2, 0] rfl ?_
      have e := ih (by omega)
      rw [← pw_cpI_s (A := mm) (d := 62) (s := 42) (i := i) (by omega)] at e
      exact e
  show pw_V x m_X0_copy 0 Z 0 [(0, .ref 62), (1, .ref 42)] [] mm
  refine pw_blk (pc' := 18) [.aload 0, .aload 1, .getfield 0, .putfield 0, .aload 0, .aload 1, .getfield 1, .putfield 1, .iconst 0, .istore 2] (by decide +kernel) ?_
  show pw_V x m_X0_copy 0 Z 18 [(2, .int (nI 0)), (0, .ref 62), (1, .ref 42)] [] (pw_up (pw_up mm 62 0 (mm 42 0)) 62 1 (mm 42 1))
  refine pw_lvp [1, 2, 0] rfl ?_
  rw [pw_cpI_0 (A := mm) (d := 62) (s := 42) (by omega)]
  exact loop 0 (by omega)

set_option maxHeartbeats 4000000 in
set_option maxRecDepth 100000 in
theorem c_copy_66_42 (mm : pw_m) : pw_Ct 0 yX0_copy m_X0_copy [.ref 66, .ref 42] mm (fun r m' => r = none ∧ m' = pw_cpI mm 66 42 6) := by
  refine pw_ct (by decide +kernel) rfl (Nat.le_of_ble_eq_true rfl) (fun x => ?_)
  generalize hZ : pw_Z x _ = Z
  have loop : ∀ i : Nat, i ≤ 6 → pw_V x m_X0_copy 0 Z 18 [(0, .ref 66), (1, .ref 42), (2, .int (nI i))] [] (pw_cpI mm 66 42 i) := by
    refine pw_dn 6 (fun i hi ih => ?_)
    refine pw_blk (pc' := 21) [.iload 2, .iconst (6)] (by decide +kernel) ?_
    show pw_V x m_X0_copy 0 Z 21 [(0, .ref 66), (1, .ref 42), (2, .int (nI i))] [.int (nI 6), .int (nI i)] (pw_cpI mm 66 42 i)
    refine pw_in_ge (tgt := 66) (off := 45) (by omega) (by omega) (by decide +kernel) (by decide) (fun h21 => ?_) (fun h21 => ?_)
    · rw [← hZ]
      refine pw_rv (by decide +kernel) ?_
      have e : i = 6 := by omega
      subst e
      exact ⟨rfl, rfl⟩
    · refine pw_blk (pc' := 63) [.aload 0, .getfield 2, .iload 2, .aload 1, .getfield 2, .iload 2, .iaload, .iastore, .aload 0, .getfield 3, .iload 2, .aload 1, .getfield 3, .iload 2, .iaload, .iastore, .aload 0, .getfield 4, .iload 2, .aload 1, .getfield 4, .iload 2, .iaload, .iastore, .iinc 2 1] (by decide +kernel) ?_
      refine ⟨i, rfl, by omega, ?_⟩
      refine ⟨i, rfl, by omega, ?_⟩
      refine ⟨i, rfl, by omega, ?_⟩
      refine ⟨i, rfl, by omega, ?_⟩
      refine ⟨i, rfl, by omega, ?_⟩
      refine ⟨i, rfl, by omega, ?_⟩
      show pw_V x m_X0_copy 0 Z 63 [(2, .int ((nI i) + (nI 1))), (0, .ref 66), (1, .ref 42)] [] (pw_up (pw_up (pw_up (pw_cpI mm 66 42 i) 67 i ((pw_cpI mm 66 42 i) 43 i)) 68 i ((pw_cpI mm 66 42 i) 44 i)) 69 i ((pw_cpI mm 66 42 i) 45 i))
      rw [show (nI i) + (nI 1) = nI (i + 1) from nI_add _ _]
      refine pw_goto (tgt := 18) (off := -45) (by decide +kernel) (by decide) ?_
      refine pw_lvp [1, 2, 0] rfl ?_
      have e := ih (by omega)
      rw [← pw_cpI_s (A := mm) (d := 66) (s := 42) (i := i) (by omega)] at e
      exact e
  show pw_V x m_X0_copy 0 Z 0 [(0, .ref 66), (1, .ref 42)] [] mm
  refine pw_blk (pc' := 18) [.aload 0, .aload 1, .getfield 0, .putfield 0, .aload 0, .aload 1, .getfield 1, .putfield 1, .iconst 0, .istore 2] (by decide +kernel) ?_
  show pw_V x m_X0_copy 0 Z 18 [(2, .int (nI 0)), (0, .ref 66), (1, .ref 42)] [] (pw_up (pw_up mm 66 0 (mm 42 0)) 66 1 (mm 42 1))
  refine pw_lvp [1, 2, 0] rfl ?_
  rw [pw_cpI_0 (A := mm) (d := 66) (s := 42) (by omega)]
  exact loop 0 (by omega)

set_option maxHeartbeats 4000000 in
set_option maxRecDepth 100000 in
theorem c_copy_70_42 (mm : pw_m) : pw_Ct 0 yX0_copy m_X0_copy [.ref 70, .ref 42] mm (fun r m' => r = none ∧ m' = pw_cpI mm 70 42 6) := by
  refine pw_ct (by decide +kernel) rfl (Nat.le_of_ble_eq_true rfl) (fun x => ?_)
  generalize hZ : pw_Z x _ = Z
  have loop : ∀ i : Nat, i ≤ 6 → pw_V x m_X0_copy 0 Z 18 [(0, .ref 70), (1, .ref 42), (2, .int (nI i))] [] (pw_cpI mm 70 42 i) := by
    refine pw_dn 6 (fun i hi ih => ?_)
    refine pw_blk (pc' := 21) [.iload 2, .iconst (6)] (by decide +kernel) ?_
    show pw_V x m_X0_copy 0 Z 21 [(0, .ref 70), (1, .ref 42), (2, .int (nI i))] [.int (nI 6), .int (nI i)] (pw_cpI mm 70 42 i)
    refine pw_in_ge (tgt := 66) (off := 45) (by omega) (by omega) (by decide +kernel) (by decide) (fun h21 => ?_) (fun h21 => ?_)
    · rw [← hZ]
      refine pw_rv (by decide +kernel) ?_
      have e : i = 6 := by omega
      subst e
      exact ⟨rfl, rfl⟩
    · refine pw_blk (pc' := 63) [.aload 0, .getfield 2, .iload 2, .aload 1, .getfield 2, .iload 2, .iaload, .iastore, .aload 0, .getfield 3, .iload 2, .aload 1, .getfield 3, .iload 2, .iaload, .iastore, .aload 0, .getfield 4, .iload 2, .aload 1, .getfield 4, .iload 2, .iaload, .iastore, .iinc 2 1] (by decide +kernel) ?_
      refine ⟨i, rfl, by omega, ?_⟩
      refine ⟨i, rfl, by omega, ?_⟩
      refine ⟨i, rfl, by omega, ?_⟩
      refine ⟨i, rfl, by omega, ?_⟩
      refine ⟨i, rfl, by omega, ?_⟩
      refine ⟨i, rfl, by omega, ?_⟩
      show pw_V x m_X0_copy 0 Z 63 [(2, .int ((nI i) + (nI 1))), (0, .ref 70), (1, .ref 42)] [] (pw_up (pw_up (pw_up (pw_cpI mm 70 42 i) 71 i ((pw_cpI mm 70 42 i) 43 i)) 72 i ((pw_cpI mm 70 42 i) 44 i)) 73 i ((pw_cpI mm 70 42 i) 45 i))
      rw [show (nI i) + (nI 1) = nI (i + 1) from nI_add _ _]
      refine pw_goto (tgt := 18) (off := -45) (by decide +kernel) (by decide) ?_
      refine pw_lvp [1, 2, 0] rfl ?_
      have e := ih (by omega)
      rw [← pw_cpI_s (A := mm) (d := 70) (s := 42) (i := i) (by omega)] at e
      exact e
  show pw_V x m_X0_copy 0 Z 0 [(0, .ref 70), (1, .ref 42)] [] mm
  refine pw_blk (pc' := 18) [.aload 0, .aload 1, .getfield 0, .putfield 0, .aload 0, .aload 1, .getfield 1, .putfield 1, .iconst 0, .istore 2] (by decide +kernel) ?_
  show pw_V x m_X0_copy 0 Z 18 [(2, .int (nI 0)), (0, .ref 70), (1, .ref 42)] [] (pw_up (pw_up mm 70 0 (mm 42 0)) 70 1 (mm 42 1))
  refine pw_lvp [1, 2, 0] rfl ?_
  rw [pw_cpI_0 (A := mm) (d := 70) (s := 42) (by omega)]
  exact loop 0 (by omega)

set_option maxHeartbeats 4000000 in
set_option maxRecDepth 100000 in
theorem c_copy_74_42 (mm : pw_m) : pw_Ct 0 yX0_copy m_X0_copy [.ref 74, .ref 42] mm (fun r m' => r = none ∧ m' = pw_cpI mm 74 42 6) := by
  refine pw_ct (by decide +kernel) rfl (Nat.le_of_ble_eq_true rfl) (fun x => ?_)
  generalize hZ : pw_Z x _ = Z
  have loop : ∀ i : Nat, i ≤ 6 → pw_V x m_X0_copy 0 Z 18 [(0, .ref 74), (1, .ref 42), (2, .int (nI i))] [] (pw_cpI mm 74 42 i) := by
    refine pw_dn 6 (fun i hi ih => ?_)
    refine pw_blk (pc' := 21) [.iload 2, .iconst (6)] (by decide +kernel) ?_
    show pw_V x m_X0_copy 0 Z 21 [(0, .ref 74), (1, .ref 42), (2, .int (nI i))] [.int (nI 6), .int (nI i)] (pw_cpI mm 74 42 i)
    refine pw_in_ge (tgt := 66) (off := 45) (by omega) (by omega) (by decide +kernel) (by decide) (fun h21 => ?_) (fun h21 => ?_)
    · rw [← hZ]
      refine pw_rv (by decide +kernel) ?_
      have e : i = 6 := by omega
      subst e
      exact ⟨rfl, rfl⟩
    · refine pw_blk (pc' := 63) [.aload 0, .getfield 2, .iload 2, .aload 1, .getfield 2, .iload 2, .iaload, .iastore, .aload 0, .getfield 3, .iload 2, .aload 1, .getfield 3, .iload 2, .iaload, .iastore, .aload 0, .getfield 4, .iload 2, .aload 1, .getfield 4, .iload 2, .iaload, .iastore, .iinc 2 1] (by decide +kernel) ?_
      refine ⟨i, rfl, by omega, ?_⟩
      refine ⟨i, rfl, by omega, ?_⟩
      refine ⟨i, rfl, by omega, ?_⟩
      refine ⟨i, rfl, by omega, ?_⟩
      refine ⟨i, rfl, by omega, ?_⟩
      refine ⟨i, rfl, by omega, ?_⟩
      show pw_V x m_X0_copy 0 Z 63 [(2, .int ((nI i) + (nI 1))), (0, .ref 74), (1, .ref 42)] [] (pw_up (pw_up (pw_up (pw_cpI mm 74 42 i) 75 i ((pw_cpI mm 74 42 i) 43 i)) 76 i ((pw_cpI mm 74 42 i) 44 i)) 77 i ((pw_cpI mm 74 42 i) 45 i))
      rw [show (nI i) + (nI 1) = nI (i + 1) from nI_add _ _]
      refine pw_goto (tgt := 18) (off := -45) (by decide +kernel) (by decide) ?_
      refine pw_lvp [1, 2, 0] rfl ?_
      have e := ih (by omega)
      rw [← pw_cpI_s (A := mm) (d := 74) (s := 42) (i := i) (by omega)] at e
      exact e
  show pw_V x m_X0_copy 0 Z 0 [(0, .ref 74), (1, .ref 42)] [] mm
  refine pw_blk (pc' := 18) [.aload 0, .aload 1, .getfield 0, .putfield 0, .aload 0, .aload 1, .getfield 1, .putfield 1, .iconst 0, .istore 2] (by decide +kernel) ?_
  show pw_V x m_X0_copy 0 Z 18 [(2, .int (nI 0)), (0, .ref 74), (1, .ref 42)] [] (pw_up (pw_up mm 74 0 (mm 42 0)) 74 1 (mm 42 1))
  refine pw_lvp [1, 2, 0] rfl ?_
  rw [pw_cpI_0 (A := mm) (d := 74) (s := 42) (by omega)]
  exact loop 0 (by omega)

set_option maxHeartbeats 4000000 in
set_option maxRecDepth 100000 in
theorem c_copy_42_46 (mm : pw_m) : pw_Ct 0 yX0_copy m_X0_copy [.ref 42, .ref 46] mm (fun r m' => r = none ∧ m' = pw_cpI mm 42 46 6) := by
  refine pw_ct (by decide +kernel) rfl (Nat.le_of_ble_eq_true rfl) (fun x => ?_)
  generalize hZ : pw_Z x _ = Z
  have loop : ∀ i : Nat, i ≤ 6 → pw_V x m_X0_copy 0 Z 18 [(0, .ref 42), (1, .ref 46), (2, .int (nI i))] [] (pw_cpI mm 42 46 i) := by
    refine pw_dn 6 (fun i hi ih => ?_)
    refine pw_blk (pc' := 21) [.iload 2, .iconst (6)] (by decide +kernel) ?_
    show pw_V x m_X0_copy 0 Z 21 [(0, .ref 42), (1, .ref 46), (2, .int (nI i))] [.int (nI 6), .int (nI i)] (pw_cpI mm 42 46 i)
    refine pw_in_ge (tgt := 66) (off := 45) (by omega) (by omega) (by decide +kernel) (by decide) (fun h21 => ?_) (fun h21 => ?_)
    · rw [← hZ]
      refine pw_rv (by decide +kernel) ?_
      have e : i = 6 := by omega
      subst e
      exact ⟨rfl, rfl⟩
    · refine pw_blk (pc' := 63) [.aload 0, .getfield 2, .iload 2, .aload 1, .getfield 2, .iload 2, .iaload, .iastore, .aload 0, .getfield 3, .iload 2, .aload 1, .getfield 3, .iload 2, .iaload, .iastore, .aload 0, .getfield 4, .iload 2, .aload 1, .getfield 4, .iload 2, .iaload, .iastore, .iinc 2 1] (by decide +kernel) ?_
      refine ⟨i, rfl, by omega, ?_⟩
      refine ⟨i, rfl, by omega, ?_⟩
      refine ⟨i, rfl, by omega, ?_⟩
      refine ⟨i, rfl, by omega, ?_⟩
      refine ⟨i, rfl, by omega, ?_⟩
      refine ⟨i, rfl, by omega, ?_⟩
      show pw_V x m_X0_copy 0 Z 63 [(2, .int ((nI i) + (nI 1))), (0, .ref 42), (1, .ref 46)] [] (pw_up (pw_up (pw_up (pw_cpI mm 42 46 i) 43 i ((pw_cpI mm 42 46 i) 47 i)) 44 i ((pw_cpI mm 42 46 i) 48 i)) 45 i ((pw_cpI mm 42 46 i) 49 i))
      rw [show (nI i) + (nI 1) = nI (i + 1) from nI_add _ _]
      refine pw_goto (tgt := 18) (off := -45) (by decide +kernel) (by decide) ?_
      refine pw_lvp [1, 2, 0] rfl ?_
      have e := ih (by omega)
      rw [← pw_cpI_s (A := mm) (d := 42) (s := 46) (i := i) (by omega)] at e
      exact e
  show pw_V x m_X0_copy 0 Z 0 [(0, .ref 42), (1, .ref 46)] [] mm
  refine pw_blk (pc' := 18) [.aload 0, .aload 1, .getfield 0, .putfield 0, .aload 0, .aload 1, .getfield 1, .putfield 1, .iconst 0, .istore 2] (by decide +kernel) ?_
  show pw_V x m_X0_copy 0 Z 18 [(2, .int (nI 0)), (0, .ref 42), (1, .ref 46)] [] (pw_up (pw_up mm 42 0 (mm 46 0)) 42 1 (mm 46 1))
  refine pw_lvp [1, 2, 0] rfl ?_
  rw [pw_cpI_0 (A := mm) (d := 42) (s := 46) (by omega)]
  exact loop 0 (by omega)

set_option maxHeartbeats 4000000 in
set_option maxRecDepth 100000 in
theorem c_copy_42_50 (mm : pw_m) : pw_Ct 0 yX0_copy m_X0_copy [.ref 42, .ref 50] mm (fun r m' => r = none ∧ m' = pw_cpI mm 42 50 6) := by
  refine pw_ct (by decide +kernel) rfl (Nat.le_of_ble_eq_true rfl) (fun x => ?_)
  generalize hZ : pw_Z x _ = Z
  have loop : ∀ i : Nat, i ≤ 6 → pw_V x m_X0_copy 0 Z 18 [(0, .ref 42), (1, .ref 50), (2, .int (nI i))] [] (pw_cpI mm 42 50 i) := by
    refine pw_dn 6 (fun i hi ih => ?_)
    refine pw_blk (pc' := 21) [.iload 2, .iconst (6)] (by decide +kernel) ?_
    show pw_V x m_X0_copy 0 Z 21 [(0, .ref 42), (1, .ref 50), (2, .int (nI i))] [.int (nI 6), .int (nI i)] (pw_cpI mm 42 50 i)
    refine pw_in_ge (tgt := 66) (off := 45) (by omega) (by omega) (by decide +kernel) (by decide) (fun h21 => ?_) (fun h21 => ?_)
    · rw [← hZ]
      refine pw_rv (by decide +kernel) ?_
      have e : i = 6 := by omega
      subst e
      exact ⟨rfl, rfl⟩
    · refine pw_blk (pc' := 63) [.aload 0, .getfield 2, .iload 2, .aload 1, .getfield 2, .iload 2, .iaload, .iastore, .aload 0, .getfield 3, .iload 2, .aload 1, .getfield 3, .iload 2, .iaload, .iastore, .aload 0, .getfield 4, .iload 2, .aload 1, .getfield 4, .iload 2, .iaload, .iastore, .iinc 2 1] (by decide +kernel) ?_
      refine ⟨i, rfl, by omega, ?_⟩
      refine ⟨i, rfl, by omega, ?_⟩
      refine ⟨i, rfl, by omega, ?_⟩
      refine ⟨i, rfl, by omega, ?_⟩
      refine ⟨i, rfl, by omega, ?_⟩
      refine ⟨i, rfl, by omega, ?_⟩
      show pw_V x m_X0_copy 0 Z 63 [(2, .int ((nI i) + (nI 1))), (0, .ref 42), (1, .ref 50)] [] (pw_up (pw_up (pw_up (pw_cpI mm 42 50 i) 43 i ((pw_cpI mm 42 50 i) 51 i)) 44 i ((pw_cpI mm 42 50 i) 52 i)) 45 i ((pw_cpI mm 42 50 i) 53 i))
      rw [show (nI i) + (nI 1) = nI (i + 1) from nI_add _ _]
      refine pw_goto (tgt := 18) (off := -45) (by decide +kernel) (by decide) ?_
      refine pw_lvp [1, 2, 0] rfl ?_
      have e := ih (by omega)
      rw [← pw_cpI_s (A := mm) (d := 42) (s := 50) (i := i) (by omega)] at e
      exact e
  show pw_V x m_X0_copy 0 Z 0 [(0, .ref 42), (1, .ref 50)] [] mm
  refine pw_blk (pc' := 18) [.aload 0, .aload 1, .getfield 0, .putfield 0, .aload 0, .aload 1, .getfield 1, .putfield 1, .iconst 0, .istore 2] (by decide +kernel) ?_
  show pw_V x m_X0_copy 0 Z 18 [(2, .int (nI 0)), (0, .ref 42), (1, .ref 50)] [] (pw_up (pw_up mm 42 0 (mm 50 0)) 42 1 (mm 50 1))
  refine pw_lvp [1, 2, 0] rfl ?_
  rw [pw_cpI_0 (A := mm) (d := 42) (s := 50) (by omega)]
  exact loop 0 (by omega)

set_option maxHeartbeats 4000000 in
set_option maxRecDepth 100000 in
theorem c_copy_42_54 (mm : pw_m) : pw_Ct 0 yX0_copy m_X0_copy [.ref 42, .ref 54] mm (fun r m' => r = none ∧ m' = pw_cpI mm 42 54 6) := by
  refine pw_ct (by decide +kernel) rfl (Nat.le_of_ble_eq_true rfl) (fun x => ?_)
  generalize hZ : pw_Z x _ = Z
  have loop : ∀ i : Nat, i ≤ 6 → pw_V x m_X0_copy 0 Z 18 [(0, .ref 42), (1, .ref 54), (2, .int (nI i))] [] (pw_cpI mm 42 54 i) := by
    refine pw_dn 6 (fun i hi ih => ?_)
    refine pw_blk (pc' := 21) [.iload 2, .iconst (6)] (by decide +kernel) ?_
    show pw_V x m_X0_copy 0 Z 21 [(0, .ref 42), (1, .ref 54), (2, .int (nI i))] [.int (nI 6), .int (nI i)] (pw_cpI mm 42 54 i)
    refine pw_in_ge (tgt := 66) (off := 45) (by omega) (by omega) (by decide +kernel) (by decide) (fun h21 => ?_) (fun h21 => ?_)
    · rw [← hZ]
      refine pw_rv (by decide +kernel) ?_
      have e : i = 6 := by omega
      subst e
      exact ⟨rfl, rfl⟩
    · refine pw_blk (pc' := 63) [.aload 0, .getfield 2, .iload 2, .aload 1, .getfield 2, .iload 2, .iaload, .iastore, .aload 0, .getfield 3, .iload 2, .aload 1, .getfield 3, .iload 2, .iaload, .iastore, .aload 0, .getfield 4, .iload 2, .aload 1, .getfield 4, .iload 2, .iaload, .iastore, .iinc 2 1] (by decide +kernel) ?_
      refine ⟨i, rfl, by omega, ?_⟩
      refine ⟨i, rfl, by omega, ?_⟩
      refine ⟨i, rfl, by omega, ?_⟩
      refine ⟨i, rfl, by omega, ?_⟩
      refine ⟨i, rfl, by omega, ?_⟩
      refine ⟨i, rfl, by omega, ?_⟩
      show pw_V x m_X0_copy 0 Z 63 [(2, .int ((nI i) + (nI 1))), (0, .ref 42), (1, .ref 54)] [] (pw_up (pw_up (pw_up (pw_cpI mm 42 54 i) 43 i ((pw_cpI mm 42 54 i) 55 i)) 44 i ((pw_cpI mm 42 54 i) 56 i)) 45 i ((pw_cpI mm 42 54 i) 57 i))
      rw [show (nI i) + (nI 1) = nI (i + 1) from nI_add _ _]
      refine pw_goto (tgt := 18) (off := -45) (by decide +kernel) (by decide) ?_
      refine pw_lvp [1, 2, 0] rfl ?_
      have e := ih (by omega)
      rw [← pw_cpI_s (A := mm) (d := 42) (s := 54) (i := i) (by omega)] at e
      exact e
  show pw_V x m_X0_copy 0 Z 0 [(0, .ref 42), (1, .ref 54)] [] mm
  refine pw_blk (pc' := 18) [.aload 0, .aload 1, .getfield 0, .putfield 0, .aload 0, .aload 1, .getfield 1, .putfield 1, .iconst 0, .istore 2] (by decide +kernel) ?_
  show pw_V x m_X0_copy 0 Z 18 [(2, .int (nI 0)), (0, .ref 42), (1, .ref 54)] [] (pw_up (pw_up mm 42 0 (mm 54 0)) 42 1 (mm 54 1))
  refine pw_lvp [1, 2, 0] rfl ?_
  rw [pw_cpI_0 (A := mm) (d := 42) (s := 54) (by omega)]
  exact loop 0 (by omega)

set_option maxHeartbeats 4000000 in
set_option maxRecDepth 100000 in
theorem c_copy_42_58 (mm : pw_m) : pw_Ct 0 yX0_copy m_X0_copy [.ref 42, .ref 58] mm (fun r m' => r = none ∧ m' = pw_cpI mm 42 58 6) := by
  refine pw_ct (by decide +kernel) rfl (Nat.le_of_ble_eq_true rfl) (fun x => ?_)
  generalize hZ : pw_Z x _ = Z
  have loop : ∀ i : Nat, i ≤ 6 → pw_V x m_X0_copy 0 Z 18 [(0, .ref 42), (1, .ref 58), (2, .int (nI i))] [] (pw_cpI mm 42 58 i) := by
    refine pw_dn 6 (fun i hi ih => ?_)
    refine pw_blk (pc' := 21) [.iload 2, .iconst (6)] (by decide +kernel) ?_
    show pw_V x m_X0_copy 0 Z 21 [(0, .ref 42), (1, .ref 58), (2, .int (nI i))] [.int (nI 6), .int (nI i)] (pw_cpI mm 42 58 i)
    refine pw_in_ge (tgt := 66) (off := 45) (by omega) (by omega) (by decide +kernel) (by decide) (fun h21 => ?_) (fun h21 => ?_)
    · rw [← hZ]
      refine pw_rv (by decide +kernel) ?_
      have e : i = 6 := by omega
      subst e
      exact ⟨rfl, rfl⟩
    · refine pw_blk (pc' := 63) [.aload 0, .getfield 2, .iload 2, .aload 1, .getfield 2, .iload 2, .iaload, .iastore, .aload 0, .getfield 3, .iload 2, .aload 1, .getfield 3, .iload 2, .iaload, .iastore, .aload 0, .getfield 4, .iload 2, .aload 1, .getfield 4, .iload 2, .iaload, .iastore, .iinc 2 1] (by decide +kernel) ?_
      refine ⟨i, rfl, by omega, ?_⟩
      refine ⟨i, rfl, by omega, ?_⟩
      refine ⟨i, rfl, by omega, ?_⟩
      refine ⟨i, rfl, by omega, ?_⟩
      refine ⟨i, rfl, by omega, ?_⟩
      refine ⟨i, rfl, by omega, ?_⟩
      show pw_V x m_X0_copy 0 Z 63 [(2, .int ((nI i) + (nI 1))), (0, .ref 42), (1, .ref 58)] [] (pw_up (pw_up (pw_up (pw_cpI mm 42 58 i) 43 i ((pw_cpI mm 42 58 i) 59 i)) 44 i ((pw_cpI mm 42 58 i) 60 i)) 45 i ((pw_cpI mm 42 58 i) 61 i))
      rw [show (nI i) + (nI 1) = nI (i + 1) from nI_add _ _]
      refine pw_goto (tgt := 18) (off := -45) (by decide +kernel) (by decide) ?_
      refine pw_lvp [1, 2, 0] rfl ?_
      have e := ih (by omega)
      rw [← pw_cpI_s (A := mm) (d := 42) (s := 58) (i := i) (by omega)] at e
      exact e
  show pw_V x m_X0_copy 0 Z 0 [(0, .ref 42), (1, .ref 58)] [] mm
  refine pw_blk (pc' := 18) [.aload 0, .aload 1, .getfield 0, .putfield 0, .aload 0, .aload 1, .getfield 1, .putfield 1, .iconst 0, .istore 2] (by decide +kernel) ?_
  show pw_V x m_X0_copy 0 Z 18 [(2, .int (nI 0)), (0, .ref 42), (1, .ref 58)] [] (pw_up (pw_up mm 42 0 (mm 58 0)) 42 1 (mm 58 1))
  refine pw_lvp [1, 2, 0] rfl ?_
  rw [pw_cpI_0 (A := mm) (d := 42) (s := 58) (by omega)]
  exact loop 0 (by omega)

set_option maxHeartbeats 4000000 in
set_option maxRecDepth 100000 in
theorem c_copy_42_62 (mm : pw_m) : pw_Ct 0 yX0_copy m_X0_copy [.ref 42, .ref 62] mm (fun r m' => r = none ∧ m' = pw_cpI mm 42 62 6) := by
  refine pw_ct (by decide +kernel) rfl (Nat.le_of_ble_eq_true rfl) (fun x => ?_)
  generalize hZ : pw_Z x _ = Z
  have loop : ∀ i : Nat, i ≤ 6 → pw_V x m_X0_copy 0 Z 18 [(0, .ref 42), (1, .ref 62), (2, .int (nI i))] [] (pw_cpI mm 42 62 i) := by
    refine pw_dn 6 (fun i hi ih => ?_)
    refine pw_blk (pc' := 21) [.iload 2, .iconst (6)] (by decide +kernel) ?_
    show pw_V x m_X0_copy 0 Z 21 [(0, .ref 42), (1, .ref 62), (2, .int (nI i))] [.int (nI 6), .int (nI i)] (pw_cpI mm 42 62 i)
    refine pw_in_ge (tgt := 66) (off := 45) (by omega) (by omega) (by decide +kernel) (by decide) (fun h21 => ?_) (fun h21 => ?_)
    · rw [← hZ]
      refine pw_rv (by decide +kernel) ?_
      have e : i = 6 := by omega
      subst e
      exact ⟨rfl, rfl⟩
    · refine pw_blk (pc' := 63) [.aload 0, .getfield 2, .iload 2, .aload 1, .getfield 2, .iload 2, .iaload, .iastore, .aload 0, .getfield 3, .iload 2, .aload 1, .getfield 3, .iload 2, .iaload, .iastore, .aload 0, .getfield 4, .iload 2, .aload 1, .getfield 4, .iload 2, .iaload, .iastore, .iinc 2 1] (by decide +kernel) ?_
      refine ⟨i, rfl, by omega, ?_⟩
      refine ⟨i, rfl, by omega, ?_⟩
      refine ⟨i, rfl, by omega, ?_⟩
      refine ⟨i, rfl, by omega, ?_⟩
      refine ⟨i, rfl, by omega, ?_⟩
      refine ⟨i, rfl, by omega, ?_⟩
      show pw_V x m_X0_copy 0 Z 63 [(2, .int ((nI i) + (nI 1))), (0, .ref 42), (1, .ref 62)] [] (pw_up (pw_up (pw_up (pw_cpI mm 42 62 i) 43 i ((pw_cpI mm 42 62 i) 63 i)) 44 i ((pw_cpI mm 42 62 i) 64 i)) 45 i ((pw_cpI mm 42 62 i) 65 i))
      rw [show (nI i) + (nI 1) = nI (i + 1) from nI_add _ _]
      refine pw_goto (tgt := 18) (off := -45) (by decide +kernel) (by decide) ?_
      refine pw_lvp [1, 2, 0] rfl ?_
      have e := ih (by omega)
      rw [← pw_cpI_s (A := mm) (d := 42) (s := 62) (i := i) (by omega)] at e
      exact e
  show pw_V x m_X0_copy 0 Z 0 [(0, .ref 42), (1, .ref 62)] [] mm
  refine pw_blk (pc' := 18) [.aload 0, .aload 1, .getfield 0, .putfield 0, .aload 0, .aload 1, .getfield 1, .putfield 1, .iconst 0, .istore 2] (by decide +kernel) ?_
  show pw_V x m_X0_copy 0 Z 18 [(2, .int (nI 0)), (0, .ref 42), (1, .ref 62)] [] (pw_up (pw_up mm 42 0 (mm 62 0)) 42 1 (mm 62 1))
  refine pw_lvp [1, 2, 0] rfl ?_
  rw [pw_cpI_0 (A := mm) (d := 42) (s := 62) (by omega)]
  exact loop 0 (by omega)

set_option maxHeartbeats 4000000 in
set_option maxRecDepth 100000 in
theorem c_copy_42_66 (mm : pw_m) : pw_Ct 0 yX0_copy m_X0_copy [.ref 42, .ref 66] mm (fun r m' => r = none ∧ m' = pw_cpI mm 42 66 6) := by
  refine pw_ct (by decide +kernel) rfl (Nat.le_of_ble_eq_true rfl) (fun x => ?_)
  generalize hZ : pw_Z x _ = Z
  have loop : ∀ i : Nat, i ≤ 6 → pw_V x m_X0_copy 0 Z 18 [(0, .ref 42), (1, .ref 66), (2, .int (nI i))] [] (pw_cpI mm 42 66 i) := by
    refine pw_dn 6 (fun i hi ih => ?_)
    refine pw_blk (pc' := 21) [.iload 2, .iconst (6)] (by decide +kernel) ?_
    show pw_V x m_X0_copy 0 Z 21 [(0, .ref 42), (1, .ref 66), (2, .int (nI i))] [.int (nI 6), .int (nI i)] (pw_cpI mm 42 66 i)
    refine pw_in_ge (tgt := 66) (off := 45) (by omega) (by omega) (by decide +kernel) (by decide) (fun h21 => ?_) (fun h21 => ?_)
    · rw [← hZ]
      refine pw_rv (by decide +kernel) ?_
      have e : i = 6 := by omega
      subst e
      exact ⟨rfl, rfl⟩
    · refine pw_blk (pc' := 63) [.aload 0, .getfield 2, .iload 2, .aload 1, .getfield 2, .iload 2, .iaload, .iastore, .aload 0, .getfield 3, .iload 2, .aload 1, .getfield 3, .iload 2, .iaload, .iastore, .aload 0, .getfield 4, .iload 2, .aload 1, .getfield 4, .iload 2, .iaload, .iastore, .iinc 2 1] (by decide +kernel) ?_
      refine ⟨i, rfl, by omega, ?_⟩
      refine ⟨i, rfl, by omega, ?_⟩
      refine ⟨i, rfl, by omega, ?_⟩
      refine ⟨i, rfl, by omega, ?_⟩
      refine ⟨i, rfl, by omega, ?_⟩
      refine ⟨i, rfl, by omega, ?_⟩
      show pw_V x m_X0_copy 0 Z 63 [(2, .int ((nI i) + (nI 1))), (0, .ref 42), (1, .ref 66)] [] (pw_up (pw_up (pw_up (pw_cpI mm 42 66 i) 43 i ((pw_cpI mm 42 66 i) 67 i)) 44 i ((pw_cpI mm 42 66 i) 68 i)) 45 i ((pw_cpI mm 42 66 i) 69 i))
      rw [show (nI i) + (nI 1) = nI (i + 1) from nI_add _ _]
      refine pw_goto (tgt := 18) (off := -45) (by decide +kernel) (by decide) ?_
      refine pw_lvp [1, 2, 0] rfl ?_
      have e := ih (by omega)
      rw [← pw_cpI_s (A := mm) (d := 42) (s := 66) (i := i) (by omega)] at e
      exact e
  show pw_V x m_X0_copy 0 Z 0 [(0, .ref 42), (1, .ref 66)] [] mm
  refine pw_blk (pc' := 18) [.aload 0, .aload 1, .getfield 0, .putfield 0, .aload 0, .aload 1, .getfield 1, .putfield 1, .iconst 0, .istore 2] (by decide +kernel) ?_
  show pw_V x m_X0_copy 0 Z 18 [(2, .int (nI 0)), (0, .ref 42), (1, .ref 66)] [] (pw_up (pw_up mm 42 0 (mm 66 0)) 42 1 (mm 66 1))
  refine pw_lvp [1, 2, 0] rfl ?_
  rw [pw_cpI_0 (A := mm) (d := 42) (s := 66) (by omega)]
  exact loop 0 (by omega)

set_option maxHeartbeats 4000000 in
set_option maxRecDepth 100000 in
theorem c_copy_42_70 (mm : pw_m) : pw_Ct 0 yX0_copy m_X0_copy [.ref 42, .ref 70] mm (fun r m' => r = none ∧ m' = pw_cpI mm 42 70 6) := by
  refine pw_ct (by decide +kernel) rfl (Nat.le_of_ble_eq_true rfl) (fun x => ?_)
  generalize hZ : pw_Z x _ = Z
  have loop : ∀ i : Nat, i ≤ 6 → pw_V x m_X0_copy 0 Z 18 [(0, .ref 42), (1, .ref 70), (2, .int (nI i))] [] (pw_cpI mm 42 70 i) := by
    refine pw_dn 6 (fun i hi ih => ?_)
    refine pw_blk (pc' := 21) [.iload 2, .iconst (6)] (by decide +kernel) ?_
    show pw_V x m_X0_copy 0 Z 21 [(0, .ref 42), (1, .ref 70), (2, .int (nI i))] [.int (nI 6), .int (nI i)] (pw_cpI mm 42 70 i)
    refine pw_in_ge (tgt := 66) (off := 45) (by omega) (by omega) (by decide +kernel) (by decide) (fun h21 => ?_) (fun h21 => ?_)
    · rw [← hZ]
      refine pw_rv (by decide +kernel) ?_
      have e : i = 6 := by omega
      subst e
      exact ⟨rfl, rfl⟩
    · refine pw_blk (pc' := 63) [.aload 0, .getfield 2, .iload 2, .aload 1, .getfield 2, .iload 2, .iaload, .iastore, .aload 0, .getfield 3, .iload 2, .aload 1, .getfield 3, .iload 2, .iaload, .iastore, .aload 0, .getfield 4, .iload 2, .aload 1, .getfield 4, .iload 2, .iaload, .iastore, .iinc 2 1] (by decide +kernel) ?_
      refine ⟨i, rfl, by omega, ?_⟩
      refine ⟨i, rfl, by omega, ?_⟩
      refine ⟨i, rfl, by omega, ?_⟩
      refine ⟨i, rfl, by omega, ?_⟩
      refine ⟨i, rfl, by omega, ?_⟩
      refine ⟨i, rfl, by omega, ?_⟩
      show pw_V x m_X0_copy 0 Z 63 [(2, .int ((nI i) + (nI 1))), (0, .ref 42), (1, .ref 70)] [] (pw_up (pw_up (pw_up (pw_cpI mm 42 70 i) 43 i ((pw_cpI mm 42 70 i) 71 i)) 44 i ((pw_cpI mm 42 70 i) 72 i)) 45 i ((pw_cpI mm 42 70 i) 73 i))
      rw [show (nI i) + (nI 1) = nI (i + 1) from nI_add _ _]
      refine pw_goto (tgt := 18) (off := -45) (by decide +kernel) (by decide) ?_
      refine pw_lvp [1, 2, 0] rfl ?_
      have e := ih (by omega)
      rw [← pw_cpI_s (A := mm) (d := 42) (s := 70) (i := i) (by omega)] at e
      exact e
  show pw_V x m_X0_copy 0 Z 0 [(0, .ref 42), (1, .ref 70)] [] mm
  refine pw_blk (pc' := 18) [.aload 0, .aload 1, .getfield 0, .putfield 0, .aload 0, .aload 1, .getfield 1, .putfield 1, .iconst 0, .istore 2] (by decide +kernel) ?_
  show pw_V x m_X0_copy 0 Z 18 [(2, .int (nI 0)), (0, .ref 42), (1, .ref 70)] [] (pw_up (pw_up mm 42 0 (mm 70 0)) 42 1 (mm 70 1))
  refine pw_lvp [1, 2, 0] rfl ?_
  rw [pw_cpI_0 (A := mm) (d := 42) (s := 70) (by omega)]
  exact loop 0 (by omega)

set_option maxHeartbeats 4000000 in
set_option maxRecDepth 100000 in
theorem c_copy_42_74 (mm : pw_m) : pw_Ct 0 yX0_copy m_X0_copy [.ref 42, .ref 74] mm (fun r m' => r = none ∧ m' = pw_cpI mm 42 74 6) := by
  refine pw_ct (by decide +kernel) rfl (Nat.le_of_ble_eq_true rfl) (fun x => ?_)
  generalize hZ : pw_Z x _ = Z
  have loop : ∀ i : Nat, i ≤ 6 → pw_V x m_X0_copy 0 Z 18 [(0, .ref 42), (1, .ref 74), (2, .int (nI i))] [] (pw_cpI mm 42 74 i) := by
    refine pw_dn 6 (fun i hi ih => ?_)
    refine pw_blk (pc' := 21) [.iload 2, .iconst (6)] (by decide +kernel) ?_
    show pw_V x m_X0_copy 0 Z 21 [(0, .ref 42), (1, .ref 74), (2, .int (nI i))] [.int (nI 6), .int (nI i)] (pw_cpI mm 42 74 i)
    refine pw_in_ge (tgt := 66) (off := 45) (by omega) (by omega) (by decide +kernel) (by decide) (fun h21 => ?_) (fun h21 => ?_)
    · rw [← hZ]
      refine pw_rv (by decide +kernel) ?_
      have e : i = 6 := by omega
      subst e
      exact ⟨rfl, rfl⟩
    · refine pw_blk (pc' := 63) [.aload 0, .getfield 2, .iload 2, .aload 1, .getfield 2, .iload 2, .iaload, .iastore, .aload 0, .getfield 3, .iload 2, .aload 1, .getfield 3, .iload 2, .iaload, .iastore, .aload 0, .getfield 4, .iload 2, .aload 1, .getfield 4, .iload 2, .iaload, .iastore, .iinc 2 1] (by decide +kernel) ?_
      refine ⟨i, rfl, by omega, ?_⟩
      refine ⟨i, rfl, by omega, ?_⟩
      refine ⟨i, rfl, by omega, ?_⟩
      refine ⟨i, rfl, by omega, ?_⟩
      refine ⟨i, rfl, by omega, ?_⟩
      refine ⟨i, rfl, by omega, ?_⟩
      show pw_V x m_X0_copy 0 Z 63 [(2, .int ((nI i) + (nI 1))), (0, .ref 42), (1, .ref 74)] [] (pw_up (pw_up (pw_up (pw_cpI mm 42 74 i) 43 i ((pw_cpI mm 42 74 i) 75 i)) 44 i ((pw_cpI mm 42 74 i) 76 i)) 45 i ((pw_cpI mm 42 74 i) 77 i))
      rw [show (nI i) + (nI 1) = nI (i + 1) from nI_add _ _]
      refine pw_goto (tgt := 18) (off := -45) (by decide +kernel) (by decide) ?_
      refine pw_lvp [1, 2, 0] rfl ?_
      have e := ih (by omega)
      rw [← pw_cpI_s (A := mm) (d := 42) (s := 74) (i := i) (by omega)] at e
      exact e
  show pw_V x m_X0_copy 0 Z 0 [(0, .ref 42), (1, .ref 74)] [] mm
  refine pw_blk (pc' := 18) [.aload 0, .aload 1, .getfield 0, .putfield 0, .aload 0, .aload 1, .getfield 1, .putfield 1, .iconst 0, .istore 2] (by decide +kernel) ?_
  show pw_V x m_X0_copy 0 Z 18 [(2, .int (nI 0)), (0, .ref 42), (1, .ref 74)] [] (pw_up (pw_up mm 42 0 (mm 74 0)) 42 1 (mm 74 1))
  refine pw_lvp [1, 2, 0] rfl ?_
  rw [pw_cpI_0 (A := mm) (d := 42) (s := 74) (by omega)]
  exact loop 0 (by omega)

set_option maxHeartbeats 4000000 in
set_option maxRecDepth 100000 in
theorem c_copy_78_42 (mm : pw_m) : pw_Ct 0 yX0_copy m_X0_copy [.ref 78, .ref 42] mm (fun r m' => r = none ∧ m' = pw_cpI mm 78 42 6) := by
  refine pw_ct (by decide +kernel) rfl (Nat.le_of_ble_eq_true rfl) (fun x => ?_)
  generalize hZ : pw_Z x _ = Z
  have loop : ∀ i : Nat, i ≤ 6 → pw_V x m_X0_copy 0 Z 18 [(0, .ref 78), (1, .ref 42), (2, .int (nI i))] [] (pw_cpI mm 78 42 i) := by
    refine pw_dn 6 (fun i hi ih => ?_)
    refine pw_blk (pc' := 21) [.iload 2, .iconst (6)] (by decide +kernel) ?_
    show pw_V x m_X0_copy 0 Z 21 [(0, .ref 78), (1, .ref 42), (2, .int (nI i))] [.int (nI 6), .int (nI i)] (pw_cpI mm 78 42 i)
    refine pw_in_ge (tgt := 66) (off := 45) (by omega) (by omega) (by decide +kernel) (by decide) (fun h21 => ?_) (fun h21 => ?_)
    · rw [← hZ]
      refine pw_rv (by decide +kernel) ?_
      have e : i = 6 := by omega
      subst e
      exact ⟨rfl, rfl⟩
    · refine pw_blk (pc' := 63) [.aload 0, .getfield 2, .iload 2, .aload 1, .getfield 2, .iload 2, .iaload, .iastore, .aload 0, .getfield 3, .iload 2, .aload 1, .getfield 3, .iload 2, .iaload, .iastore, .aload 0, .getfield 4, .iload 2, .aload 1, .getfield 4, .iload 2, .iaload, .iastore, .iinc 2 1] (by decide +kernel) ?_
      refine ⟨i, rfl, by omega, ?_⟩
      refine ⟨i, rfl, by omega, ?_⟩
      refine ⟨i, rfl, by omega, ?_⟩
      refine ⟨i, rfl, by omega, ?_⟩
      refine ⟨i, rfl, by omega, ?_⟩
      refine ⟨i, rfl, by omega, ?_⟩
      show pw_V x m_X0_copy 0 Z 63 [(2, .int ((nI i) + (nI 1))), (0, .ref 78), (1, .ref 42)] [] (pw_up (pw_up (pw_up (pw_cpI mm 78 42 i) 79 i ((pw_cpI mm 78 42 i) 43 i)) 80 i ((pw_cpI mm 78 42 i) 44 i)) 81 i ((pw_cpI mm 78 42 i) 45 i))
      rw [show (nI i) + (nI 1) = nI (i + 1) from nI_add _ _]
      refine pw_goto (tgt := 18) (off := -45) (by decide +kernel) (by decide) ?_
      refine pw_lvp [1, 2, 0] rfl ?_
      have e := ih (by omega)
      rw [← pw_cpI_s (A := mm) (d := 78) (s := 42) (i := i) (by omega)] at e
      exact e
  show pw_V x m_X0_copy 0 Z 0 [(0, .ref 78), (1, .ref 42)] [] mm
  refine pw_blk (pc' := 18) [.aload 0, .aload 1, .getfield 0, .putfield 0, .aload 0, .aload 1, .getfield 1, .putfield 1, .iconst 0, .istore 2] (by decide +kernel) ?_
  show pw_V x m_X0_copy 0 Z 18 [(2, .int (nI 0)), (0, .ref 78), (1, .ref 42)] [] (pw_up (pw_up mm 78 0 (mm 42 0)) 78 1 (mm 42 1))
  refine pw_lvp [1, 2, 0] rfl ?_
  rw [pw_cpI_0 (A := mm) (d := 78) (s := 42) (by omega)]
  exact loop 0 (by omega)

set_option maxHeartbeats 4000000 in
set_option maxRecDepth 100000 in
theorem c_copy_82_42 (mm : pw_m) : pw_Ct 0 yX0_copy m_X0_copy [.ref 82, .ref 42] mm (fun r m' => r = none ∧ m' = pw_cpI mm 82 42 6) := by
  refine pw_ct (by decide +kernel) rfl (Nat.le_of_ble_eq_true rfl) (fun x => ?_)
  generalize hZ : pw_Z x _ = Z
  have loop : ∀ i : Nat, i ≤ 6 → pw_V x m_X0_copy 0 Z 18 [(0, .ref 82), (1, .ref 42), (2, .int (nI i))] [] (pw_cpI mm 82 42 i) := by
    refine pw_dn 6 (fun i hi ih => ?_)
    refine pw_blk (pc' := 21) [.iload 2, .iconst (6)] (by decide +kernel) ?_
    show pw_V x m_X0_copy 0 Z 21 [(0, .ref 82), (1, .ref 42), (2, .int (nI i))] [.int (nI 6), .int (nI i)] (pw_cpI mm 82 42 i)
    refine pw_in_ge (tgt := 66) (off := 45) (by omega) (by omega) (by decide +kernel) (by decide) (fun h21 => ?_) (fun h21 => ?_)
    · rw [← hZ]
      refine pw_rv (by decide +kernel) ?_
      have e : i = 6 := by omega
      subst e
      exact ⟨rfl, rfl⟩
    · refine pw_blk (pc' := 63) [.aload 0, .getfield 2, .iload 2, .aload 1, .getfield 2, .iload 2, .iaload, .iastore, .aload 0, .getfield 3, .iload 2, .aload 1, .getfield 3, .iload 2, .iaload, .iastore, .aload 0, .getfield 4, .iload 2, .aload 1, .getfield 4, .iload 2, .iaload, .iastore, .iinc 2 1] (by decide +kernel) ?_
      refine ⟨i, rfl, by omega, ?_⟩
      refine ⟨i, rfl, by omega, ?_⟩
      refine ⟨i, rfl, by omega, ?_⟩
      refine ⟨i, rfl, by omega, ?_⟩
      refine ⟨i, rfl, by omega, ?_⟩
      refine ⟨i, rfl, by omega, ?_⟩
      show pw_V x m_X0_copy 0 Z 63 [(2, .int ((nI i) + (nI 1))), (0, .ref 82), (1, .ref 42)] [] (pw_up (pw_up (pw_up (pw_cpI mm 82 42 i) 83 i ((pw_cpI mm 82 42 i) 43 i)) 84 i ((pw_cpI mm 82 42 i) 44 i)) 85 i ((pw_cpI mm 82 42 i) 45 i))
      rw [show (nI i) + (nI 1) = nI (i + 1) from nI_add _ _]
      refine pw_goto (tgt := 18) (off := -45) (by decide +kernel) (by decide) ?_
      refine pw_lvp [1, 2, 0] rfl ?_
      have e := ih (by omega)
      rw [← pw_cpI_s (A := mm) (d := 82) (s := 42) (i := i) (by omega)] at e
      exact e
  show pw_V x m_X0_copy 0 Z 0 [(0, .ref 82), (1, .ref 42)] [] mm
  refine pw_blk (pc' := 18) [.aload 0, .aload 1, .getfield 0, .putfield 0, .aload 0, .aload 1, .getfield 1, .putfield 1, .iconst 0, .istore 2] (by decide +kernel) ?_
  show pw_V x m_X0_copy 0 Z 18 [(2, .int (nI 0)), (0, .ref 82), (1, .ref 42)] [] (pw_up (pw_up mm 82 0 (mm 42 0)) 82 1 (mm 42 1))
  refine pw_lvp [1, 2, 0] rfl ?_
  rw [pw_cpI_0 (A := mm) (d := 82) (s := 42) (by omega)]
  exact loop 0 (by omega)

set_option maxHeartbeats 4000000 in
set_option maxRecDepth 100000 in
theorem c_copy_42_78 (mm : pw_m) : pw_Ct 0 yX0_copy m_X0_copy [.ref 42, .ref 78] mm (fun r m' => r = none ∧ m' = pw_cpI mm 42 78 6) := by
  refine pw_ct (by decide +kernel) rfl (Nat.le_of_ble_eq_true rfl) (fun x => ?_)
  generalize hZ : pw_Z x _ = Z
  have loop : ∀ i : Nat, i ≤ 6 → pw_V x m_X0_copy 0 Z 18 [(0, .ref 42), (1, .ref 78), (2, .int (nI i))] [] (pw_cpI mm 42 78 i) := by
    refine pw_dn 6 (fun i hi ih => ?_)
    refine pw_blk (pc' := 21) [.iload 2, .iconst (6)] (by decide +kernel) ?_
    show pw_V x m_X0_copy 0 Z 21 [(0, .ref 42), (1, .ref 78), (2, .int (nI i))] [.int (nI 6), .int (nI i)] (pw_cpI mm 42 78 i)
    refine pw_in_ge (tgt := 66) (off := 45) (by omega) (by omega) (by decide +kernel) (by decide) (fun h21 => ?_) (fun h21 => ?_)
    · rw [← hZ]
      refine pw_rv (by decide +kernel) ?_
      have e : i = 6 := by omega
      subst e
      exact ⟨rfl, rfl⟩
    · refine pw_blk (pc' := 63) [.aload 0, .getfield 2, .iload 2, .aload 1, .getfield 2, .iload 2, .iaload, .iastore, .aload 0, .getfield 3, .iload 2, .aload 1, .getfield 3, .iload 2, .iaload, .iastore, .aload 0, .getfield 4, .iload 2, .aload 1, .getfield 4, .iload 2, .iaload, .iastore, .iinc 2 1] (by decide +kernel) ?_
      refine ⟨i, rfl, by omega, ?_⟩
      refine ⟨i, rfl, by omega, ?_⟩
      refine ⟨i, rfl, by omega, ?_⟩
      refine ⟨i, rfl, by omega, ?_⟩
      refine ⟨i, rfl, by omega, ?_⟩
      refine ⟨i, rfl, by omega, ?_⟩
      show pw_V x m_X0_copy 0 Z 63 [(2, .int ((nI i) + (nI 1))), (0, .ref 42), (1, .ref 78)] [] (pw_up (pw_up (pw_up (pw_cpI mm 42 78 i) 43 i ((pw_cpI mm 42 78 i) 79 i)) 44 i ((pw_cpI mm 42 78 i) 80 i)) 45 i ((pw_cpI mm 42 78 i) 81 i))
      rw [show (nI i) + (nI 1) = nI (i + 1) from nI_add _ _]
      refine pw_goto (tgt := 18) (off := -45) (by decide +kernel) (by decide) ?_
      refine pw_lvp [1, 2, 0] rfl ?_
      have e := ih (by omega)
      rw [← pw_cpI_s (A := mm) (d := 42) (s := 78) (i := i) (by omega)] at e
      exact e
  show pw_V x m_X0_copy 0 Z 0 [(0, .ref 42), (1, .ref 78)] [] mm
  refine pw_blk (pc' := 18) [.aload 0, .aload 1, .getfield 0, .putfield 0, .aload 0, .aload 1, .getfield 1, .putfield 1, .iconst 0, .istore 2] (by decide +kernel) ?_
  show pw_V x m_X0_copy 0 Z 18 [(2, .int (nI 0)), (0, .ref 42), (1, .ref 78)] [] (pw_up (pw_up mm 42 0 (mm 78 0)) 42 1 (mm 78 1))
  refine pw_lvp [1, 2, 0] rfl ?_
  rw [pw_cpI_0 (A := mm) (d := 42) (s := 78) (by omega)]
  exact loop 0 (by omega)

set_option maxHeartbeats 4000000 in
set_option maxRecDepth 100000 in
theorem c_copy_42_82 (mm : pw_m) : pw_Ct 0 yX0_copy m_X0_copy [.ref 42, .ref 82] mm (fun r m' => r = none ∧ m' = pw_cpI mm 42 82 6) := by
  refine pw_ct (by decide +kernel) rfl (Nat.le_of_ble_eq_true rfl) (fun x => ?_)
  generalize hZ : pw_Z x _ = Z
  have loop : ∀ i : Nat, i ≤ 6 → pw_V x m_X0_copy 0 Z 18 [(0, .ref 42), (1, .ref 82), (2, .int (nI i))] [] (pw_cpI mm 42 82 i) := by
    refine pw_dn 6 (fun i hi ih => ?_)
    refine pw_blk (pc' := 21) [.iload 2, .iconst (6)] (by decide +kernel) ?_
    show pw_V x m_X0_copy 0 Z 21 [(0, .ref 42), (1, .ref 82), (2, .int (nI i))] [.int (nI 6), .int (nI i)] (pw_cpI mm 42 82 i)
    refine pw_in_ge (tgt := 66) (off := 45) (by omega) (by omega) (by decide +kernel) (by decide) (fun h21 => ?_) (fun h21 => ?_)
    · rw [← hZ]
      refine pw_rv (by decide +kernel) ?_
      have e : i = 6 := by omega
      subst e
      exact ⟨rfl, rfl⟩
    · refine pw_blk (pc' := 63) [.aload 0, .getfield 2, .iload 2, .aload 1, .getfield 2, .iload 2, .iaload, .iastore, .aload 0, .getfield 3, .iload 2, .aload 1, .getfield 3, .iload 2, .iaload, .iastore, .aload 0, .getfield 4, .iload 2, .aload 1, .getfield 4, .iload 2, .iaload, .iastore, .iinc 2 1] (by decide +kernel) ?_
      refine ⟨i, rfl, by omega, ?_⟩
      refine ⟨i, rfl, by omega, ?_⟩
      refine ⟨i, rfl, by omega, ?_⟩
      refine ⟨i, rfl, by omega, ?_⟩
      refine ⟨i, rfl, by omega, ?_⟩
      refine ⟨i, rfl, by omega, ?_⟩
      show pw_V x m_X0_copy 0 Z 63 [(2, .int ((nI i) + (nI 1))), (0, .ref 42), (1, .ref 82)] [] (pw_up (pw_up (pw_up (pw_cpI mm 42 82 i) 43 i ((pw_cpI mm 42 82 i) 83 i)) 44 i ((pw_cpI mm 42 82 i) 84 i)) 45 i ((pw_cpI mm 42 82 i) 85 i))
      rw [show (nI i) + (nI 1) = nI (i + 1) from nI_add _ _]
      refine pw_goto (tgt := 18) (off := -45) (by decide +kernel) (by decide) ?_
      refine pw_lvp [1, 2, 0] rfl ?_
      have e := ih (by omega)
      rw [← pw_cpI_s (A := mm) (d := 42) (s := 82) (i := i) (by omega)] at e
      exact e
  show pw_V x m_X0_copy 0 Z 0 [(0, .ref 42), (1, .ref 82)] [] mm
  refine pw_blk (pc' := 18) [.aload 0, .aload 1, .getfield 0, .putfield 0, .aload 0, .aload 1, .getfield 1, .putfield 1, .iconst 0, .istore 2] (by decide +kernel) ?_
  show pw_V x m_X0_copy 0 Z 18 [(2, .int (nI 0)), (0, .ref 42), (1, .ref 82)] [] (pw_up (pw_up mm 42 0 (mm 82 0)) 42 1 (mm 82 1))
  refine pw_lvp [1, 2, 0] rfl ?_
  rw [pw_cpI_0 (A := mm) (d := 42) (s := 82) (by omega)]
  exact loop 0 (by omega)

theorem pw_lt8 {a : Nat} (h : a < 8) : a = 0 ∨ a = 1 ∨ a = 2 ∨ a = 3 ∨ a = 4 ∨ a = 5 ∨ a = 6 ∨ a = 7 := by omega

set_option maxHeartbeats 4000000 in
set_option maxRecDepth 100000 in
theorem c_remember (mm : pw_m) (hok : pw_ok mm) : pw_Ct 1 yX1_remember m_X1_remember [.ref 11, .ref 42] mm (fun r m' => r = none ∧ m' = pw_rem mm) := by
  refine pw_ct (by decide +kernel) rfl (Nat.le_of_ble_eq_true rfl) (fun x => ?_)
  generalize hZ : pw_Z x _ = Z
  have bu := pw_b112 hok
  show pw_V x m_X1_remember 1 Z 0 [(0, .ref 11), (1, .ref 42)] [] mm
  refine pw_blk (pc' := 8) [.aload 0, .getfield 100, .aload 0, .getfield 104] (by decide +kernel) ?_
  show pw_V x m_X1_remember 1 Z 8 [(0, .ref 11), (1, .ref 42)] [.int (mm 11 4), .ref 12] mm
  rw [show mm 11 4 = nI (pw_g mm 11 4) from pw_q114 hok]
  have bx := pw_b114 hok
  rcases pw_lt8 bx with ex | ex | ex | ex | ex | ex | ex | ex
  · rw [ex]
    show pw_V x m_X1_remember 1 Z 8 [(0, .ref 11), (1, .ref 42)] [.int (nI 0), .ref 12] mm
    refine pw_blk (pc' := 10) [.aaload, .aload 1] (by decide +kernel) ?_
    refine ⟨0, rfl, by omega, ?_⟩
    show pw_V x m_X1_remember 1 Z 10 [(0, .ref 11), (1, .ref 42)] [.ref 42, .ref 46] mm
    refine pw_cV (vs := [.ref 42]) (rest := []) k_X0_copy (c_copy_46_42 mm) l_1_31 rfl rfl rfl rfl (by decide) (Nat.le_of_ble_eq_true rfl) (by decide +kernel) ?_
    rintro _ m1 ⟨rfl, e1⟩
    rw [e1]
    clear e1 m1
    show pw_V x m_X1_remember 1 Z 13 [(0, .ref 11), (1, .ref 42)] [] (pw_cpI mm 46 42 6)
    refine pw_blk (pc' := 22) [.aload 0, .aload 0, .getfield 104, .iconst 1, .iadd, .iconst (8)] (by decide +kernel) ?_
    show pw_V x m_X1_remember 1 Z 22 [(0, .ref 11), (1, .ref 42)] [.int (nI 8), .int ((mm 11 4) + (nI 1)), .ref 11] (pw_cpI mm 46 42 6)
    rw [show mm 11 4 = nI 0 from (pw_q114 hok).trans (congrArg nI ex)]
    rw [show (nI 0) + (nI 1) = nI (0 + 1) from nI_add _ _]
    refine pw_in_ge (tgt := 34) (off := 12) (by omega) (by omega) (by decide +kernel) (by decide) (fun h => by omega) (fun _ => ?_)
    refine pw_blk (pc' := 31) [.aload 0, .getfield 104, .iconst 1, .iadd] (by decide +kernel) ?_
    show pw_V x m_X1_remember 1 Z 31 [(0, .ref 11), (1, .ref 42)] [.int ((mm 11 4) + (nI 1)), .ref 11] (pw_cpI mm 46 42 6)
    rw [show mm 11 4 = nI 0 from (pw_q114 hok).trans (congrArg nI ex)]
    rw [show (nI 0) + (nI 1) = nI (0 + 1) from nI_add _ _]
    refine pw_goto (tgt := 35) (off := 4) (by decide +kernel) (by decide) ?_
    refine pw_blk (pc' := 47) [.putfield 104, .aload 0, .iconst (8), .aload 0, .getfield 102, .iconst 1, .iadd] (by decide +kernel) ?_
    show pw_V x m_X1_remember 1 Z 47 [(0, .ref 11), (1, .ref 42)] [.int ((mm 11 2) + (nI 1)), .int (nI 8), .ref 11] (pw_up (pw_cpI mm 46 42 6) 11 4 (nI (0 + 1)))
    rw [show mm 11 2 = nI (pw_g mm 11 2) from pw_q112 hok]
    rw [show (nI (pw_g mm 11 2)) + (nI 1) = nI ((pw_g mm 11 2) + 1) from nI_add _ _]
    refine pw_cMin l_1_35 (by decide) (Nat.le_of_ble_eq_true rfl) (by decide +kernel) ?_
    show pw_V x m_X1_remember 1 Z 50 [(0, .ref 11), (1, .ref 42)] [.int (pw_min (nI 8) (nI ((pw_g mm 11 2) + 1))), .ref 11] (pw_up (pw_cpI mm 46 42 6) 11 4 (nI (0 + 1)))
    rw [pw_minN (by omega) (by omega)]
    refine pw_blk (pc' := 53) [.putfield 102] (by decide +kernel) ?_
    show pw_V x m_X1_remember 1 Z 53 [(0, .ref 11), (1, .ref 42)] [] (pw_up (pw_up (pw_cpI mm 46 42 6) 11 4 (nI (0 + 1))) 11 2 (nI (min 8 ((pw_g mm 11 2) + 1))))
    rw [← hZ]
    refine pw_rv (by decide +kernel) ?_
    first
    | (exfalso; omega)
    | (refine ⟨rfl, ?_⟩; unfold pw_rem pw_nx; rw [ex]; rfl)
  · rw [ex]
    show pw_V x m_X1_remember 1 Z 8 [(0, .ref 11), (1, .ref 42)] [.int (nI 1), .ref 12] mm
    refine pw_blk (pc' := 10) [.aaload, .aload 1] (by decide +kernel) ?_
    refine ⟨1, rfl, by omega, ?_⟩
    show pw_V x m_X1_remember 1 Z 10 [(0, .ref 11), (1, .ref 42)] [.ref 42, .ref 50] mm
    refine pw_cV (vs := [.ref 42]) (rest := []) k_X0_copy (c_copy_50_42 mm) l_1_31 rfl rfl rfl rfl (by decide) (Nat.le_of_ble_eq_true rfl) (by decide +kernel) ?_
    rintro _ m1 ⟨rfl, e1⟩
    rw [e1]
    clear e1 m1
    show pw_V x m_X1_remember 1 Z 13 [(0, .ref 11), (1, .ref 42)] [] (pw_cpI mm 50 42 6)
    refine pw_blk (pc' := 22) [.aload 0, .aload 0, .getfield 104, .iconst 1, .iadd, .iconst (8)] (by decide +kernel) ?_
    show pw_V x m_X1_remember 1 Z 22 [(0, .ref 11), (1, .ref 42)] [.int (nI 8), .int ((mm 11 4) + (nI 1)), .ref 11] (pw_cpI mm 50 42 6)
    rw [show mm 11 4 = nI 1 from (pw_q114 hok).trans (congrArg nI ex)]
    rw [show (nI 1) + (nI 1) = nI (1 + 1) from nI_add _ _]
    refine pw_in_ge (tgt := 34) (off := 12) (by omega) (by omega) (by decide +kernel) (by decide) (fun h => by omega) (fun _ => ?_)
    refine pw_blk (pc' := 31) [.aload 0, .getfield 104, .iconst 1, .iadd] (by decide +kernel) ?_
    show pw_V x m_X1_remember 1 Z 31 [(0, .ref 11), (1, .ref 42)] [.int ((mm 11 4) + (nI 1)), .ref 11] (pw_cpI mm 50 42 6)
    rw [show mm 11 4 = nI 1 from (pw_q114 hok).trans (congrArg nI ex)]
    rw [show (nI 1) + (nI 1) = nI (1 + 1) from nI_add _ _]
    refine pw_goto (tgt := 35) (off := 4) (by decide +kernel) (by decide) ?_
    refine pw_blk (pc' := 47) [.putfield 104, .aload 0, .iconst (8), .aload 0, .getfield 102, .iconst 1, .iadd] (by decide +kernel) ?_
    show pw_V x m_X1_remember 1 Z 47 [(0, .ref 11), (1, .ref 42)] [.int ((mm 11 2) + (nI 1)), .int (nI 8), .ref 11] (pw_up (pw_cpI mm 50 42 6) 11 4 (nI (1 + 1)))
    rw [show mm 11 2 = nI (pw_g mm 11 2) from pw_q112 hok]
    rw [show (nI (pw_g mm 11 2)) + (nI 1) = nI ((pw_g mm 11 2) + 1) from nI_add _ _]
    refine pw_cMin l_1_35 (by decide) (Nat.le_of_ble_eq_true rfl) (by decide +kernel) ?_
    show pw_V x m_X1_remember 1 Z 50 [(0, .ref 11), (1, .ref 42)] [.int (pw_min (nI 8) (nI ((pw_g mm 11 2) + 1))), .ref 11] (pw_up (pw_cpI mm 50 42 6) 11 4 (nI (1 + 1)))
    rw [pw_minN (by omega) (by omega)]
    refine pw_blk (pc' := 53) [.putfield 102] (by decide +kernel) ?_
    show pw_V x m_X1_remember 1 Z 53 [(0, .ref 11), (1, .ref 42)] [] (pw_up (pw_up (pw_cpI mm 50 42 6) 11 4 (nI (1 + 1))) 11 2 (nI (min 8 ((pw_g mm 11 2) + 1))))
    rw [← hZ]
    refine pw_rv (by decide +kernel) ?_
    first
    | (exfalso; omega)
    | (refine ⟨rfl, ?_⟩; unfold pw_rem pw_nx; rw [ex]; rfl)
  · rw [ex]
    show pw_V x m_X1_remember 1 Z 8 [(0, .ref 11), (1, .ref 42)] [.int (nI 2), .ref 12] mm
    refine pw_blk (pc' := 10) [.aaload, .aload 1] (by decide +kernel) ?_
    refine ⟨2, rfl, by omega, ?_⟩
    show pw_V x m_X1_remember 1 Z 10 [(0, .ref 11), (1, .ref 42)] [.ref 42, .ref 54] mm
    refine pw_cV (vs := [.ref 42]) (rest := []) k_X0_copy (c_copy_54_42 mm) l_1_31 rfl rfl rfl rfl (by decide) (Nat.le_of_ble_eq_true rfl) (by decide +kernel) ?_
    rintro _ m1 ⟨rfl, e1⟩
    rw [e1]
    clear e1 m1
    show pw_V x m_X1_remember 1 Z 13 [(0, .ref 11), (1, .ref 42)] [] (pw_cpI mm 54 42 6)
    refine pw_blk (pc' := 22) [.aload 0, .aload 0, .getfield 104, .iconst 1, .iadd, .iconst (8)] (by decide +kernel) ?_
    show pw_V x m_X1_remember 1 Z 22 [(0, .ref 11), (1, .ref 42)] [.int (nI 8), .int ((mm 11 4) + (nI 1)), .ref 11] (pw_cpI mm 54 42 6)
    rw [show mm 11 4 = nI 2 from (pw_q114 hok).trans (congrArg nI ex)]
    rw [show (nI 2) + (nI 1) = nI (2 + 1) from nI_add _ _]
    refine pw_in_ge (tgt := 34) (off := 12) (by omega) (by omega) (by decide +kernel) (by decide) (fun h => by omega) (fun _ => ?_)
    refine pw_blk (pc' := 31) [.aload 0, .getfield 104, .iconst 1, .iadd] (by decide +kernel) ?_
    show pw_V x m_X1_remember 1 Z 31 [(0, .ref 11), (1, .ref 42)] [.int ((mm 11 4) + (nI 1)), .ref 11] (pw_cpI mm 54 42 6)
    rw [show mm 11 4 = nI 2 from (pw_q114 hok).trans (congrArg nI ex)]
    rw [show (nI 2) + (nI 1) = nI (2 + 1) from nI_add _ _]
    refine pw_goto (tgt := 35) (off := 4) (by decide +kernel) (by decide) ?_
    refine pw_blk (pc' := 47) [.putfield 104, .aload 0, .iconst (8), .aload 0, .getfield 102, .iconst 1, .iadd] (by decide +kernel) ?_
    show pw_V x m_X1_remember 1 Z 47 [(0, .ref 11), (1, .ref 42)] [.int ((mm 11 2) + (nI 1)), .int (nI 8), .ref 11] (pw_up (pw_cpI mm 54 42 6) 11 4 (nI (2 + 1)))
    rw [show mm 11 2 = nI (pw_g mm 11 2) from pw_q112 hok]
    rw [show (nI (pw_g mm 11 2)) + (nI 1) = nI ((pw_g mm 11 2) + 1) from nI_add _ _]
    refine pw_cMin l_1_35 (by decide) (Nat.le_of_ble_eq_true rfl) (by decide +kernel) ?_
    show pw_V x m_X1_remember 1 Z 50 [(0, .ref 11), (1, .ref 42)] [.int (pw_min (nI 8) (nI ((pw_g mm 11 2) + 1))), .ref 11] (pw_up (pw_cpI mm 54 42 6) 11 4 (nI (2 + 1)))
    rw [pw_minN (by omega) (by omega)]
    refine pw_blk (pc' := 53) [.putfield 102] (by decide +kernel) ?_
    show pw_V x m_X1_remember 1 Z 53 [(0, .ref 11), (1, .ref 42)] [] (pw_up (pw_up (pw_cpI mm 54 42 6) 11 4 (nI (2 + 1))) 11 2 (nI (min 8 ((pw_g mm 11 2) + 1))))
    rw [← hZ]
    refine pw_rv (by decide +kernel) ?_
    first
    | (exfalso; omega)
    | (refine ⟨rfl, ?_⟩; unfold pw_rem pw_nx; rw [ex]; rfl)
  · rw [ex]
    show pw_V x m_X1_remember 1 Z 8 [(0, .ref 11), (1, .ref 42)] [.int (nI 3), .ref 12] mm
    refine pw_blk (pc' := 10) [.aaload, .aload 1] (by decide +kernel) ?_
    refine ⟨3, rfl, by omega, ?_⟩
    show pw_V x m_X1_remember 1 Z 10 [(0, .ref 11), (1, .ref 42)] [.ref 42, .ref 58] mm
    refine pw_cV (vs := [.ref 42]) (rest := []) k_X0_copy (c_copy_58_42 mm) l_1_31 rfl rfl rfl rfl (by decide) (Nat.le_of_ble_eq_true rfl) (by decide +kernel) ?_
    rintro _ m1 ⟨rfl, e1⟩
    rw [e1]
    clear e1 m1
    show pw_V x m_X1_remember 1 Z 13 [(0, .ref 11), (1, .ref 42)] [] (pw_cpI mm 58 42 6)
    refine pw_blk (pc' := 22) [.aload 0, .aload 0, .getfield 104, .iconst 1, .iadd, .iconst (8)] (by decide +kernel) ?_
    show pw_V x m_X1_remember 1 Z 22 [(0, .ref 11), (1, .ref 42)] [.int (nI 8), .int ((mm 11 4) + (nI 1)), .ref 11] (pw_cpI mm 58 42 6)
    rw [show mm 11 4 = nI 3 from (pw_q114 hok).trans (congrArg nI ex)]
    rw [show (nI 3) + (nI 1) = nI (3 + 1) from nI_add _ _]
    refine pw_in_ge (tgt := 34) (off := 12) (by omega) (by omega) (by decide +kernel) (by decide) (fun h => by omega) (fun _ => ?_)
    refine pw_blk (pc' := 31) [.aload 0, .getfield 104, .iconst 1, .iadd] (by decide +kernel) ?_
    show pw_V x m_X1_remember 1 Z 31 [(0, .ref 11), (1, .ref 42)] [.int ((mm 11 4) + (nI 1)), .ref 11] (pw_cpI mm 58 42 6)
    rw [show mm 11 4 = nI 3 from (pw_q114 hok).trans (congrArg nI ex)]
    rw [show (nI 3) + (nI 1) = nI (3 + 1) from nI_add _ _]
    refine pw_goto (tgt := 35) (off := 4) (by decide +kernel) (by decide) ?_
    refine pw_blk (pc' := 47) [.putfield 104, .aload 0, .iconst (8), .aload 0, .getfield 102, .iconst 1, .iadd] (by decide +kernel) ?_
    show pw_V x m_X1_remember 1 Z 47 [(0, .ref 11), (1, .ref 42)] [.int ((mm 11 2) + (nI 1)), .int (nI 8), .ref 11] (pw_up (pw_cpI mm 58 42 6) 11 4 (nI (3 + 1)))
    rw [show mm 11 2 = nI (pw_g mm 11 2) from pw_q112 hok]
    rw [show (nI (pw_g mm 11 2)) + (nI 1) = nI ((pw_g mm 11 2) + 1) from nI_add _ _]
    refine pw_cMin l_1_35 (by decide) (Nat.le_of_ble_eq_true rfl) (by decide +kernel) ?_
    show pw_V x m_X1_remember 1 Z 50 [(0, .ref 11), (1, .ref 42)] [.int (pw_min (nI 8) (nI ((pw_g mm 11 2) + 1))), .ref 11] (pw_up (pw_cpI mm 58 42 6) 11 4 (nI (3 + 1)))
    rw [pw_minN (by omega) (by omega)]
    refine pw_blk (pc' := 53) [.putfield 102] (by decide +kernel) ?_
    show pw_V x m_X1_remember 1 Z 53 [(0, .ref 11), (1, .ref 42)] [] (pw_up (pw_up (pw_cpI mm 58 42 6) 11 4 (nI (3 + 1))) 11 2 (nI (min 8 ((pw_g mm 11 2) + 1))))
    rw [← hZ]
    refine pw_rv (by decide +kernel) ?_
    first
    | (exfalso; omega)
    | (refine ⟨rfl, ?_⟩; unfold pw_rem pw_nx; rw [ex]; rfl)
  · rw [ex]
    show pw_V x m_X1_remember 1 Z 8 [(0, .ref 11), (1, .ref 42)] [.int (nI 4), .ref 12] mm
    refine pw_blk (pc' := 10) [.aaload, .aload 1] (by decide +kernel) ?_
    refine ⟨4, rfl, by omega, ?_⟩
    show pw_V x m_X1_remember 1 Z 10 [(0, .ref 11), (1, .ref 42)] [.ref 42, .ref 62] mm
    refine pw_cV (vs := [.ref 42]) (rest := []) k_X0_copy (c_copy_62_42 mm) l_1_31 rfl rfl rfl rfl (by decide) (Nat.le_of_ble_eq_true rfl) (by decide +kernel) ?_
    rintro _ m1 ⟨rfl, e1⟩
    rw [e1]
    clear e1 m1
    show pw_V x m_X1_remember 1 Z 13 [(0, .ref 11), (1, .ref 42)] [] (pw_cpI mm 62 42 6)
    refine pw_blk (pc' := 22) [.aload 0, .aload 0, .getfield 104, .iconst 1, .iadd, .iconst (8)] (by decide +kernel) ?_
    show pw_V x m_X1_remember 1 Z 22 [(0, .ref 11), (1, .ref 42)] [.int (nI 8), .int ((mm 11 4) + (nI 1)), .ref 11] (pw_cpI mm 62 42 6)
    rw [show mm 11 4 = nI 4 from (pw_q114 hok).trans (congrArg nI ex)]
    rw [show (nI 4) + (nI 1) = nI (4 + 1) from nI_add _ _]
    refine pw_in_ge (tgt := 34) (off := 12) (by omega) (by omega) (by decide +kernel) (by decide) (fun h => by omega) (fun _ => ?_)
    refine pw_blk (pc' := 31) [.aload 0, .getfield 104, .iconst 1, .iadd] (by decide +kernel) ?_
    show pw_V x m_X1_remember 1 Z 31 [(0, .ref 11), (1, .ref 42)] [.int ((mm 11 4) + (nI 1)), .ref 11] (pw_cpI mm 62 42 6)
    rw [show mm 11 4 = nI 4 from (pw_q114 hok).trans (congrArg nI ex)]
    rw [show (nI 4) + (nI 1) = nI (4 + 1) from nI_add _ _]
    refine pw_goto (tgt := 35) (off := 4) (by decide +kernel) (by decide) ?_
    refine pw_blk (pc' := 47) [.putfield 104, .aload 0, .iconst (8), .aload 0, .getfield 102, .iconst 1, .iadd] (by decide +kernel) ?_
    show pw_V x m_X1_remember 1 Z 47 [(0, .ref 11), (1, .ref 42)] [.int ((mm 11 2) + (nI 1)), .int (nI 8), .ref 11] (pw_up (pw_cpI mm 62 42 6) 11 4 (nI (4 + 1)))
    rw [show mm 11 2 = nI (pw_g mm 11 2) from pw_q112 hok]
    rw [show (nI (pw_g mm 11 2)) + (nI 1) = nI ((pw_g mm 11 2) + 1) from nI_add _ _]
    refine pw_cMin l_1_35 (by decide) (Nat.le_of_ble_eq_true rfl) (by decide +kernel) ?_
    show pw_V x m_X1_remember 1 Z 50 [(0, .ref 11), (1, .ref 42)] [.int (pw_min (nI 8) (nI ((pw_g mm 11 2) + 1))), .ref 11] (pw_up (pw_cpI mm 62 42 6) 11 4 (nI (4 + 1)))
    rw [pw_minN (by omega) (by omega)]
    refine pw_blk (pc' := 53) [.putfield 102] (by decide +kernel) ?_
    show pw_V x m_X1_remember 1 Z 53 [(0, .ref 11), (1, .ref 42)] [] (pw_up (pw_up (pw_cpI mm 62 42 6) 11 4 (nI (4 + 1))) 11 2 (nI (min 8 ((pw_g mm 11 2) + 1))))
    rw [← hZ]
    refine pw_rv (by decide +kernel) ?_
    first
    | (exfalso; omega)
    | (refine ⟨rfl, ?_⟩; unfold pw_rem pw_nx; rw [ex]; rfl)
  · rw [ex]
    show pw_V x m_X1_remember 1 Z 8 [(0, .ref 11), (1, .ref 42)] [.int (nI 5), .ref 12] mm
    refine pw_blk (pc' := 10) [.aaload, .aload 1] (by decide +kernel) ?_
    refine ⟨5, rfl, by omega, ?_⟩
    show pw_V x m_X1_remember 1 Z 10 [(0, .ref 11), (1, .ref 42)] [.ref 42, .ref 66] mm
    refine pw_cV (vs := [.ref 42]) (rest := []) k_X0_copy (c_copy_66_42 mm) l_1_31 rfl rfl rfl rfl (by decide) (Nat.le_of_ble_eq_true rfl) (by decide +kernel) ?_
    rintro _ m1 ⟨rfl, e1⟩
    rw [e1]
    clear e1 m1
    show pw_V x m_X1_remember 1 Z 13 [(0, .ref 11), (1, .ref 42)] [] (pw_cpI mm 66 42 6)
    refine pw_blk (pc' := 22) [.aload 0, .aload 0, .getfield 104, .iconst 1, .iadd, .iconst (8)] (by decide +kernel) ?_
    show pw_V x m_X1_remember 1 Z 22 [(0, .ref 11), (1, .ref 42)] [.int (nI 8), .int ((mm 11 4) + (nI 1)), .ref 11] (pw_cpI mm 66 42 6)
    rw [show mm 11 4 = nI 5 from (pw_q114 hok).trans (congrArg nI ex)]
    rw [show (nI 5) + (nI 1) = nI (5 + 1) from nI_add _ _]
    refine pw_in_ge (tgt := 34) (off := 12) (by omega) (by omega) (by decide +kernel) (by decide) (fun h => by omega) (fun _ => ?_)
    refine pw_blk (pc' := 31) [.aload 0, .getfield 104, .iconst 1, .iadd] (by decide +kernel) ?_
    show pw_V x m_X1_remember 1 Z 31 [(0, .ref 11), (1, .ref 42)] [.int ((mm 11 4) + (nI 1)), .ref 11] (pw_cpI mm 66 42 6)
    rw [show mm 11 4 = nI 5 from (pw_q114 hok).trans (congrArg nI ex)]
    rw [show (nI 5) + (nI 1) = nI (5 + 1) from nI_add _ _]
    refine pw_goto (tgt := 35) (off := 4) (by decide +kernel) (by decide) ?_
    refine pw_blk (pc' := 47) [.putfield 104, .aload 0, .iconst (8), .aload 0, .getfield 102, .iconst 1, .iadd] (by decide +kernel) ?_
    show pw_V x m_X1_remember 1 Z 47 [(0, .ref 11), (1, .ref 42)] [.int ((mm 11 2) + (nI 1)), .int (nI 8), .ref 11] (pw_up (pw_cpI mm 66 42 6) 11 4 (nI (5 + 1)))
    rw [show mm 11 2 = nI (pw_g mm 11 2) from pw_q112 hok]
    rw [show (nI (pw_g mm 11 2)) + (nI 1) = nI ((pw_g mm 11 2) + 1) from nI_add _ _]
    refine pw_cMin l_1_35 (by decide) (Nat.le_of_ble_eq_true rfl) (by decide +kernel) ?_
    show pw_V x m_X1_remember 1 Z 50 [(0, .ref 11), (1, .ref 42)] [.int (pw_min (nI 8) (nI ((pw_g mm 11 2) + 1))), .ref 11] (pw_up (pw_cpI mm 66 42 6) 11 4 (nI (5 + 1)))
    rw [pw_minN (by omega) (by omega)]
    refine pw_blk (pc' := 53) [.putfield 102] (by decide +kernel) ?_
    show pw_V x m_X1_remember 1 Z 53 [(0, .ref 11), (1, .ref 42)] [] (pw_up (pw_up (pw_cpI mm 66 42 6) 11 4 (nI (5 + 1))) 11 2 (nI (min 8 ((pw_g mm 11 2) + 1))))
    rw [← hZ]
    refine pw_rv (by decide +kernel) ?_
    first
    | (exfalso; omega)
    | (refine ⟨rfl, ?_⟩; unfold pw_rem pw_nx; rw [ex]; rfl)
  · rw [ex]
    show pw_V x m_X1_remember 1 Z 8 [(0, .ref 11), (1, .ref 42)] [.int (nI 6), .ref 12] mm
    refine pw_blk (pc' := 10) [.aaload, .aload 1] (by decide +kernel) ?_
    refine ⟨6, rfl, by omega, ?_⟩
    show pw_V x m_X1_remember 1 Z 10 [(0, .ref 11), (1, .ref 42)] [.ref 42, .ref 70] mm
    refine pw_cV (vs := [.ref 42]) (rest := []) k_X0_copy (c_copy_70_42 mm) l_1_31 rfl rfl rfl rfl (by decide) (Nat.le_of_ble_eq_true rfl) (by decide +kernel) ?_
    rintro _ m1 ⟨rfl, e1⟩
    rw [e1]
    clear e1 m1
    show pw_V x m_X1_remember 1 Z 13 [(0, .ref 11), (1, .ref 42)] [] (pw_cpI mm 70 42 6)
    refine pw_blk (pc' := 22) [.aload 0, .aload 0, .getfield 104, .iconst 1, .iadd, .iconst (8)] (by decide +kernel) ?_
    show pw_V x m_X1_remember 1 Z 22 [(0, .ref 11), (1, .ref 42)] [.int (nI 8), .int ((mm 11 4) + (nI 1)), .ref 11] (pw_cpI mm 70 42 6)
    rw [show mm 11 4 = nI 6 from (pw_q114 hok).trans (congrArg nI ex)]
    rw [show (nI 6) + (nI 1) = nI (6 + 1) from nI_add _ _]
    refine pw_in_ge (tgt := 34) (off := 12) (by omega) (by omega) (by decide +kernel) (by decide) (fun h => by omega) (fun _ => ?_)
    refine pw_blk (pc' := 31) [.aload 0, .getfield 104, .iconst 1, .iadd] (by decide +kernel) ?_
    show pw_V x m_X1_remember 1 Z 31 [(0, .ref 11), (1, .ref 42)] [.int ((mm 11 4) + (nI 1)), .ref 11] (pw_cpI mm 70 42 6)
    rw [show mm 11 4 = nI 6 from (pw_q114 hok).trans (congrArg nI ex)]
    rw [show (nI 6) + (nI 1) = nI (6 + 1) from nI_add _ _]
    refine pw_goto (tgt := 35) (off := 4) (by decide +kernel) (by decide) ?_
    refine pw_blk (pc' := 47) [.putfield 104, .aload 0, .iconst (8), .aload 0, .getfield 102, .iconst 1, .iadd] (by decide +kernel) ?_
    show pw_V x m_X1_remember 1 Z 47 [(0, .ref 11), (1, .ref 42)] [.int ((mm 11 2) + (nI 1)), .int (nI 8), .ref 11] (pw_up (pw_cpI mm 70 42 6) 11 4 (nI (6 + 1)))
    rw [show mm 11 2 = nI (pw_g mm 11 2) from pw_q112 hok]
    rw [show (nI (pw_g mm 11 2)) + (nI 1) = nI ((pw_g mm 11 2) + 1) from nI_add _ _]
    refine pw_cMin l_1_35 (by decide) (Nat.le_of_ble_eq_true rfl) (by decide +kernel) ?_
    show pw_V x m_X1_remember 1 Z 50 [(0, .ref 11), (1, .ref 42)] [.int (pw_min (nI 8) (nI ((pw_g mm 11 2) + 1))), .ref 11] (pw_up (pw_cpI mm 70 42 6) 11 4 (nI (6 + 1)))
    rw [pw_minN (by omega) (by omega)]
    refine pw_blk (pc' := 53) [.putfield 102] (by decide +kernel) ?_
    show pw_V x m_X1_remember 1 Z 53 [(0, .ref 11), (1, .ref 42)] [] (pw_up (pw_up (pw_cpI mm 70 42 6) 11 4 (nI (6 + 1))) 11 2 (nI (min 8 ((pw_g mm 11 2) + 1))))
    rw [← hZ]
    refine pw_rv (by decide +kernel) ?_
    first
    | (exfalso; omega)
    | (refine ⟨rfl, ?_⟩; unfold pw_rem pw_nx; rw [ex]; rfl)
  · rw [ex]
    show pw_V x m_X1_remember 1 Z 8 [(0, .ref 11), (1, .ref 42)] [.int (nI 7), .ref 12] mm
    refine pw_blk (pc' := 10) [.aaload, .aload 1] (by decide +kernel) ?_
    refine ⟨7, rfl, by omega, ?_⟩
    show pw_V x m_X1_remember 1 Z 10 [(0, .ref 11), (1, .ref 42)] [.ref 42, .ref 74] mm
    refine pw_cV (vs := [.ref 42]) (rest := []) k_X0_copy (c_copy_74_42 mm) l_1_31 rfl rfl rfl rfl (by decide) (Nat.le_of_ble_eq_true rfl) (by decide +kernel) ?_
    rintro _ m1 ⟨rfl, e1⟩
    rw [e1]
    clear e1 m1
    show pw_V x m_X1_remember 1 Z 13 [(0, .ref 11), (1, .ref 42)] [] (pw_cpI mm 74 42 6)
    refine pw_blk (pc' := 22) [.aload 0, .aload 0, .getfield 104, .iconst 1, .iadd, .iconst (8)] (by decide +kernel) ?_
    show pw_V x m_X1_remember 1 Z 22 [(0, .ref 11), (1, .ref 42)] [.int (nI 8), .int ((mm 11 4) + (nI 1)), .ref 11] (pw_cpI mm 74 42 6)
    rw [show mm 11 4 = nI 7 from (pw_q114 hok).trans (congrArg nI ex)]
    rw [show (nI 7) + (nI 1) = nI (7 + 1) from nI_add _ _]
    refine pw_in_ge (tgt := 34) (off := 12) (by omega) (by omega) (by decide +kernel) (by decide) (fun _ => ?_) (fun h => by omega)
    refine pw_blk (pc' := 47) [.iconst 0, .putfield 104, .aload 0, .iconst (8), .aload 0, .getfield 102, .iconst 1, .iadd] (by decide +kernel) ?_
    show pw_V x m_X1_remember 1 Z 47 [(0, .ref 11), (1, .ref 42)] [.int ((mm 11 2) + (nI 1)), .int (nI 8), .ref 11] (pw_up (pw_cpI mm 74 42 6) 11 4 (nI 0))
    rw [show mm 11 2 = nI (pw_g mm 11 2) from pw_q112 hok]
    rw [show (nI (pw_g mm 11 2)) + (nI 1) = nI ((pw_g mm 11 2) + 1) from nI_add _ _]
    refine pw_cMin l_1_35 (by decide) (Nat.le_of_ble_eq_true rfl) (by decide +kernel) ?_
    show pw_V x m_X1_remember 1 Z 50 [(0, .ref 11), (1, .ref 42)] [.int (pw_min (nI 8) (nI ((pw_g mm 11 2) + 1))), .ref 11] (pw_up (pw_cpI mm 74 42 6) 11 4 (nI 0))
    rw [pw_minN (by omega) (by omega)]
    refine pw_blk (pc' := 53) [.putfield 102] (by decide +kernel) ?_
    show pw_V x m_X1_remember 1 Z 53 [(0, .ref 11), (1, .ref 42)] [] (pw_up (pw_up (pw_cpI mm 74 42 6) 11 4 (nI 0)) 11 2 (nI (min 8 ((pw_g mm 11 2) + 1))))
    rw [← hZ]
    refine pw_rv (by decide +kernel) ?_
    first
    | (exfalso; omega)
    | (refine ⟨rfl, ?_⟩; unfold pw_rem pw_nx; rw [ex]; rfl)

set_option maxHeartbeats 4000000 in
set_option maxRecDepth 100000 in
theorem c_recall (mm : pw_m) (hok : pw_ok mm) (h0 : 0 < pw_g mm 11 2) : pw_Ct 1 yX1_recall m_X1_recall [.ref 11, .ref 42] mm (fun r m' => r = none ∧ m' = pw_rec mm) := by
  refine pw_ct (by decide +kernel) rfl (Nat.le_of_ble_eq_true rfl) (fun x => ?_)
  generalize hZ : pw_Z x _ = Z
  have bu := pw_b112 hok
  show pw_V x m_X1_recall 1 Z 0 [(0, .ref 11), (1, .ref 42)] [] mm
  refine pw_blk (pc' := 1) [.aload 0] (by decide +kernel) ?_
  show pw_V x m_X1_recall 1 Z 1 [(0, .ref 11), (1, .ref 42)] [.ref 11] mm
  have bx := pw_b114 hok
  rcases pw_lt8 bx with ex | ex | ex | ex | ex | ex | ex | ex
  · show pw_V x m_X1_recall 1 Z 1 [(0, .ref 11), (1, .ref 42)] [.ref 11] mm
    refine pw_blk (pc' := 5) [.aload 0, .getfield 104] (by decide +kernel) ?_
    show pw_V x m_X1_recall 1 Z 5 [(0, .ref 11), (1, .ref 42)] [.int (mm 11 4), .ref 11] mm
    rw [show mm 11 4 = nI 0 from (pw_q114 hok).trans (congrArg nI ex)]
    refine pw_iz_le (tgt := 17) (off := 12) (by omega) (by decide +kernel) (by decide) (fun _ => ?_) (fun h => by omega)
    refine pw_blk (pc' := 32) [.iconst (7), .putfield 104, .aload 1, .aload 0, .getfield 100, .aload 0, .getfield 104, .aaload] (by decide +kernel) ?_
    refine ⟨7, rfl, by omega, ?_⟩
    show pw_V x m_X1_recall 1 Z 32 [(0, .ref 11), (1, .ref 42)] [.ref 74, .ref 42] (pw_up mm 11 4 (nI 7))
    refine pw_cV (vs := [.ref 74]) (rest := []) k_X0_copy (c_copy_42_74 (pw_up mm 11 4 (nI 7))) l_1_31 rfl rfl rfl rfl (by decide) (Nat.le_of_ble_eq_true rfl) (by decide +kernel) ?_
    rintro _ m1 ⟨rfl, e1⟩
    rw [e1]
    clear e1 m1
    show pw_V x m_X1_recall 1 Z 35 [(0, .ref 11), (1, .ref 42)] [] (pw_cpI (pw_up mm 11 4 (nI 7)) 42 74 6)
    refine pw_blk (pc' := 41) [.aload 0, .dup, .getfield 102, .iconst 1] (by decide +kernel) ?_
    show pw_V x m_X1_recall 1 Z 41 [(0, .ref 11), (1, .ref 42)] [.int (nI 1), .int (mm 11 2), .ref 11] (pw_cpI (pw_up mm 11 4 (nI 7)) 42 74 6)
    rw [show mm 11 2 = nI (pw_g mm 11 2) from pw_q112 hok]
    refine pw_blk (pc' := 42) [.isub] (by decide +kernel) ?_
    show pw_V x m_X1_recall 1 Z 42 [(0, .ref 11), (1, .ref 42)] [.int (nI (pw_g mm 11 2) - nI 1), .ref 11] (pw_cpI (pw_up mm 11 4 (nI 7)) 42 74 6)
    rw [pk_sub (show 1 ≤ (pw_g mm 11 2) by omega)]
    refine pw_blk (pc' := 45) [.putfield 102] (by decide +kernel) ?_
    show pw_V x m_X1_recall 1 Z 45 [(0, .ref 11), (1, .ref 42)] [] (pw_up (pw_cpI (pw_up mm 11 4 (nI 7)) 42 74 6) 11 2 (nI ((pw_g mm 11 2) - 1)))
    rw [← hZ]
    refine pw_rv (by decide +kernel) ?_
    first
    | (exfalso; omega)
    | (refine ⟨rfl, ?_⟩; unfold pw_rec pw_px; rw [ex]; rfl)
  · show pw_V x m_X1_recall 1 Z 1 [(0, .ref 11), (1, .ref 42)] [.ref 11] mm
    refine pw_blk (pc' := 5) [.aload 0, .getfield 104] (by decide +kernel) ?_
    show pw_V x m_X1_recall 1 Z 5 [(0, .ref 11), (1, .ref 42)] [.int (mm 11 4), .ref 11] mm
    rw [show mm 11 4 = nI 1 from (pw_q114 hok).trans (congrArg nI ex)]
    refine pw_iz_le (tgt := 17) (off := 12) (by omega) (by decide +kernel) (by decide) (fun h => by omega) (fun _ => ?_)
    refine pw_blk (pc' := 13) [.aload 0, .getfield 104, .iconst 1] (by decide +kernel) ?_
    show pw_V x m_X1_recall 1 Z 13 [(0, .ref 11), (1, .ref 42)] [.int (nI 1), .int (mm 11 4), .ref 11] mm
    rw [show mm 11 4 = nI 1 from (pw_q114 hok).trans (congrArg nI ex)]
    refine pw_blk (pc' := 14) [.isub] (by decide +kernel) ?_
    show pw_V x m_X1_recall 1 Z 14 [(0, .ref 11), (1, .ref 42)] [.int (nI 1 - nI 1), .ref 11] mm
    rw [pk_sub (show 1 ≤ 1 by omega)]
    refine pw_goto (tgt := 19) (off := 5) (by decide +kernel) (by decide) ?_
    refine pw_blk (pc' := 32) [.putfield 104, .aload 1, .aload 0, .getfield 100, .aload 0, .getfield 104, .aaload] (by decide +kernel) ?_
    refine ⟨(1 - 1), rfl, by omega, ?_⟩
    show pw_V x m_X1_recall 1 Z 32 [(0, .ref 11), (1, .ref 42)] [.ref 46, .ref 42] (pw_up mm 11 4 (nI (1 - 1)))
    refine pw_cV (vs := [.ref 46]) (rest := []) k_X0_copy (c_copy_42_46 (pw_up mm 11 4 (nI (1 - 1)))) l_1_31 rfl rfl rfl rfl (by decide) (Nat.le_of_ble_eq_true rfl) (by decide +kernel) ?_
    rintro _ m1 ⟨rfl, e1⟩
    rw [e1]
    clear e1 m1
    show pw_V x m_X1_recall 1 Z 35 [(0, .ref 11), (1, .ref 42)] [] (pw_cpI (pw_up mm 11 4 (nI (1 - 1))) 42 46 6)
    refine pw_blk (pc' := 41) [.aload 0, .dup, .getfield 102, .iconst 1] (by decide +kernel) ?_
    show pw_V x m_X1_recall 1 Z 41 [(0, .ref 11), (1, .ref 42)] [.int (nI 1), .int (mm 11 2), .ref 11] (pw_cpI (pw_up mm 11 4 (nI (1 - 1))) 42 46 6)
    rw [show mm 11 2 = nI (pw_g mm 11 2) from pw_q112 hok]
    refine pw_blk (pc' := 42) [.isub] (by decide +kernel) ?_
    show pw_V x m_X1_recall 1 Z 42 [(0, .ref 11), (1, .ref 42)] [.int (nI (pw_g mm 11 2) - nI 1), .ref 11] (pw_cpI (pw_up mm 11 4 (nI (1 - 1))) 42 46 6)
    rw [pk_sub (show 1 ≤ (pw_g mm 11 2) by omega)]
    refine pw_blk (pc' := 45) [.putfield 102] (by decide +kernel) ?_
    show pw_V x m_X1_recall 1 Z 45 [(0, .ref 11), (1, .ref 42)] [] (pw_up (pw_cpI (pw_up mm 11 4 (nI (1 - 1))) 42 46 6) 11 2 (nI ((pw_g mm 11 2) - 1)))
    rw [← hZ]
    refine pw_rv (by decide +kernel) ?_
    first
    | (exfalso; omega)
    | (refine ⟨rfl, ?_⟩; unfold pw_rec pw_px; rw [ex]; rfl)
  · show pw_V x m_X1_recall 1 Z 1 [(0, .ref 11), (1, .ref 42)] [.ref 11] mm
    refine pw_blk (pc' := 5) [.aload 0, .getfield 104] (by decide +kernel) ?_
    show pw_V x m_X1_recall 1 Z 5 [(0, .ref 11), (1, .ref 42)] [.int (mm 11 4), .ref 11] mm
    rw [show mm 11 4 = nI 2 from (pw_q114 hok).trans (congrArg nI ex)]
    refine pw_iz_le (tgt := 17) (off := 12) (by omega) (by decide +kernel) (by decide) (fun h => by omega) (fun _ => ?_)
    refine pw_blk (pc' := 13) [.aload 0, .getfield 104, .iconst 1] (by decide +kernel) ?_
    show pw_V x m_X1_recall 1 Z 13 [(0, .ref 11), (1, .ref 42)] [.int (nI 1), .int (mm 11 4), .ref 11] mm
    rw [show mm 11 4 = nI 2 from (pw_q114 hok).trans (congrArg nI ex)]
    refine pw_blk (pc' := 14) [.isub] (by decide +kernel) ?_
    show pw_V x m_X1_recall 1 Z 14 [(0, .ref 11), (1, .ref 42)] [.int (nI 2 - nI 1), .ref 11] mm
    rw [pk_sub (show 1 ≤ 2 by omega)]
    refine pw_goto (tgt := 19) (off := 5) (by decide +kernel) (by decide) ?_
    refine pw_blk (pc' := 32) [.putfield 104, .aload 1, .aload 0, .getfield 100, .aload 0, .getfield 104, .aaload] (by decide +kernel) ?_
    refine ⟨(2 - 1), rfl, by omega, ?_⟩
    show pw_V x m_X1_recall 1 Z 32 [(0, .ref 11), (1, .ref 42)] [.ref 50, .ref 42] (pw_up mm 11 4 (nI (2 - 1)))
    refine pw_cV (vs := [.ref 50]) (rest := []) k_X0_copy (c_copy_42_50 (pw_up mm 11 4 (nI (2 - 1)))) l_1_31 rfl rfl rfl rfl (by decide) (Nat.le_of_ble_eq_true rfl) (by decide +kernel) ?_
    rintro _ m1 ⟨rfl, e1⟩
    rw [e1]
    clear e1 m1
    show pw_V x m_X1_recall 1 Z 35 [(0, .ref 11), (1, .ref 42)] [] (pw_cpI (pw_up mm 11 4 (nI (2 - 1))) 42 50 6)
    refine pw_blk (pc' := 41) [.aload 0, .dup, .getfield 102, .iconst 1] (by decide +kernel) ?_
    show pw_V x m_X1_recall 1 Z 41 [(0, .ref 11), (1, .ref 42)] [.int (nI 1), .int (mm 11 2), .ref 11] (pw_cpI (pw_up mm 11 4 (nI (2 - 1))) 42 50 6)
    rw [show mm 11 2 = nI (pw_g mm 11 2) from pw_q112 hok]
    refine pw_blk (pc' := 42) [.isub] (by decide +kernel) ?_
    show pw_V x m_X1_recall 1 Z 42 [(0, .ref 11), (1, .ref 42)] [.int (nI (pw_g mm 11 2) - nI 1), .ref 11] (pw_cpI (pw_up mm 11 4 (nI (2 - 1))) 42 50 6)
    rw [pk_sub (show 1 ≤ (pw_g mm 11 2) by omega)]
    refine pw_blk (pc' := 45) [.putfield 102] (by decide +kernel) ?_
    show pw_V x m_X1_recall 1 Z 45 [(0, .ref 11), (1, .ref 42)] [] (pw_up (pw_cpI (pw_up mm 11 4 (nI (2 - 1))) 42 50 6) 11 2 (nI ((pw_g mm 11 2) - 1)))
    rw [← hZ]
    refine pw_rv (by decide +kernel) ?_
    first
    | (exfalso; omega)
    | (refine ⟨rfl, ?_⟩; unfold pw_rec pw_px; rw [ex]; rfl)
  · show pw_V x m_X1_recall 1 Z 1 [(0, .ref 11), (1, .ref 42)] [.ref 11] mm
    refine pw_blk (pc' := 5) [.aload 0, .getfield 104] (by decide +kernel) ?_
    show pw_V x m_X1_recall 1 Z 5 [(0, .ref 11), (1, .ref 42)] [.int (mm 11 4), .ref 11] mm
    rw [show mm 11 4 = nI 3 from (pw_q114 hok).trans (congrArg nI ex)]
    refine pw_iz_le (tgt := 17) (off := 12) (by omega) (by decide +kernel) (by decide) (fun h => by omega) (fun _ => ?_)
    refine pw_blk (pc' := 13) [.aload 0, .getfield 104, .iconst 1] (by decide +kernel) ?_
    show pw_V x m_X1_recall 1 Z 13 [(0, .ref 11), (1, .ref 42)] [.int (nI 1), .int (mm 11 4), .ref 11] mm
    rw [show mm 11 4 = nI 3 from (pw_q114 hok).trans (congrArg nI ex)]
    refine pw_blk (pc' := 14) [.isub] (by decide +kernel) ?_
    show pw_V x m_X1_recall 1 Z 14 [(0, .ref 11), (1, .ref 42)] [.int (nI 3 - nI 1), .ref 11] mm
    rw [pk_sub (show 1 ≤ 3 by omega)]
    refine pw_goto (tgt := 19) (off := 5) (by decide +kernel) (by decide) ?_
    refine pw_blk (pc' := 32) [.putfield 104, .aload 1, .aload 0, .getfield 100, .aload 0, .getfield 104, .aaload] (by decide +kernel) ?_
    refine ⟨(3 - 1), rfl, by omega, ?_⟩
    show pw_V x m_X1_recall 1 Z 32 [(0, .ref 11), (1, .ref 42)] [.ref 54, .ref 42] (pw_up mm 11 4 (nI (3 - 1)))
    refine pw_cV (vs := [.ref 54]) (rest := []) k_X0_copy (c_copy_42_54 (pw_up mm 11 4 (nI (3 - 1)))) l_1_31 rfl rfl rfl rfl (by decide) (Nat.le_of_ble_eq_true rfl) (by decide +kernel) ?_
    rintro _ m1 ⟨rfl, e1⟩
    rw [e1]
    clear e1 m1
    show pw_V x m_X1_recall 1 Z 35 [(0, .ref 11), (1, .ref 42)] [] (pw_cpI (pw_up mm 11 4 (nI (3 - 1))) 42 54 6)
    refine pw_blk (pc' := 41) [.aload 0, .dup, .getfield 102, .iconst 1] (by decide +kernel) ?_
    show pw_V x m_X1_recall 1 Z 41 [(0, .ref 11), (1, .ref 42)] [.int (nI 1), .int (mm 11 2), .ref 11] (pw_cpI (pw_up mm 11 4 (nI (3 - 1))) 42 54 6)
    rw [show mm 11 2 = nI (pw_g mm 11 2) from pw_q112 hok]
    refine pw_blk (pc' := 42) [.isub] (by decide +kernel) ?_
    show pw_V x m_X1_recall 1 Z 42 [(0, .ref 11), (1, .ref 42)] [.int (nI (pw_g mm 11 2) - nI 1), .ref 11] (pw_cpI (pw_up mm 11 4 (nI (3 - 1))) 42 54 6)
    rw [pk_sub (show 1 ≤ (pw_g mm 11 2) by omega)]
    refine pw_blk (pc' := 45) [.putfield 102] (by decide +kernel) ?_
    show pw_V x m_X1_recall 1 Z 45 [(0, .ref 11), (1, .ref 42)] [] (pw_up (pw_cpI (pw_up mm 11 4 (nI (3 - 1))) 42 54 6) 11 2 (nI ((pw_g mm 11 2) - 1)))
    rw [← hZ]
    refine pw_rv (by decide +kernel) ?_
    first
    | (exfalso; omega)
    | (refine ⟨rfl, ?_⟩; unfold pw_rec pw_px; rw [ex]; rfl)
  · show pw_V x m_X1_recall 1 Z 1 [(0, .ref 11), (1, .ref 42)] [.ref 11] mm
    refine pw_blk (pc' := 5) [.aload 0, .getfield 104] (by decide +kernel) ?_
    show pw_V x m_X1_recall 1 Z 5 [(0, .ref 11), (1, .ref 42)] [.int (mm 11 4), .ref 11] mm
    rw [show mm 11 4 = nI 4 from (pw_q114 hok).trans (congrArg nI ex)]
    refine pw_iz_le (tgt := 17) (off := 12) (by omega) (by decide +kernel) (by decide) (fun h => by omega) (fun _ => ?_)
    refine pw_blk (pc' := 13) [.aload 0, .getfield 104, .iconst 1] (by decide +kernel) ?_
    show pw_V x m_X1_recall 1 Z 13 [(0, .ref 11), (1, .ref 42)] [.int (nI 1), .int (mm 11 4), .ref 11] mm
    rw [show mm 11 4 = nI 4 from (pw_q114 hok).trans (congrArg nI ex)]
    refine pw_blk (pc' := 14) [.isub] (by decide +kernel) ?_
    show pw_V x m_X1_recall 1 Z 14 [(0, .ref 11), (1, .ref 42)] [.int (nI 4 - nI 1), .ref 11] mm
    rw [pk_sub (show 1 ≤ 4 by omega)]
    refine pw_goto (tgt := 19) (off := 5) (by decide +kernel) (by decide) ?_
    refine pw_blk (pc' := 32) [.putfield 104, .aload 1, .aload 0, .getfield 100, .aload 0, .getfield 104, .aaload] (by decide +kernel) ?_
    refine ⟨(4 - 1), rfl, by omega, ?_⟩
    show pw_V x m_X1_recall 1 Z 32 [(0, .ref 11), (1, .ref 42)] [.ref 58, .ref 42] (pw_up mm 11 4 (nI (4 - 1)))
    refine pw_cV (vs := [.ref 58]) (rest := []) k_X0_copy (c_copy_42_58 (pw_up mm 11 4 (nI (4 - 1)))) l_1_31 rfl rfl rfl rfl (by decide) (Nat.le_of_ble_eq_true rfl) (by decide +kernel) ?_
    rintro _ m1 ⟨rfl, e1⟩
    rw [e1]
    clear e1 m1
    show pw_V x m_X1_recall 1 Z 35 [(0, .ref 11), (1, .ref 42)] [] (pw_cpI (pw_up mm 11 4 (nI (4 - 1))) 42 58 6)
    refine pw_blk (pc' := 41) [.aload 0, .dup, .getfield 102, .iconst 1] (by decide +kernel) ?_
    show pw_V x m_X1_recall 1 Z 41 [(0, .ref 11), (1, .ref 42)] [.int (nI 1), .int (mm 11 2), .ref 11] (pw_cpI (pw_up mm 11 4 (nI (4 - 1))) 42 58 6)
    rw [show mm 11 2 = nI (pw_g mm 11 2) from pw_q112 hok]
    refine pw_blk (pc' := 42) [.isub] (by decide +kernel) ?_
    show pw_V x m_X1_recall 1 Z 42 [(0, .ref 11), (1, .ref 42)] [.int (nI (pw_g mm 11 2) - nI 1), .ref 11] (pw_cpI (pw_up mm 11 4 (nI (4 - 1))) 42 58 6)
    rw [pk_sub (show 1 ≤ (pw_g mm 11 2) by omega)]
    refine pw_blk (pc' := 45) [.putfield 102] (by decide +kernel) ?_
    show pw_V x m_X1_recall 1 Z 45 [(0, .ref 11), (1, .ref 42)] [] (pw_up (pw_cpI (pw_up mm 11 4 (nI (4 - 1))) 42 58 6) 11 2 (nI ((pw_g mm 11 2) - 1)))
    rw [← hZ]
    refine pw_rv (by decide +kernel) ?_
    first
    | (exfalso; omega)
    | (refine ⟨rfl, ?_⟩; unfold pw_rec pw_px; rw [ex]; rfl)
  · show pw_V x m_X1_recall 1 Z 1 [(0, .ref 11), (1, .ref 42)] [.ref 11] mm
    refine pw_blk (pc' := 5) [.aload 0, .getfield 104] (by decide +kernel) ?_
    show pw_V x m_X1_recall 1 Z 5 [(0, .ref 11), (1, .ref 42)] [.int (mm 11 4), .ref 11] mm
    rw [show mm 11 4 = nI 5 from (pw_q114 hok).trans (congrArg nI ex)]
    refine pw_iz_le (tgt := 17) (off := 12) (by omega) (by decide +kernel) (by decide) (fun h => by omega) (fun _ => ?_)
    refine pw_blk (pc' := 13) [.aload 0, .getfield 104, .iconst 1] (by decide +kernel) ?_
    show pw_V x m_X1_recall 1 Z 13 [(0, .ref 11), (1, .ref 42)] [.int (nI 1), .int (mm 11 4), .ref 11] mm
    rw [show mm 11 4 = nI 5 from (pw_q114 hok).trans (congrArg nI ex)]
    refine pw_blk (pc' := 14) [.isub] (by decide +kernel) ?_
    show pw_V x m_X1_recall 1 Z 14 [(0, .ref 11), (1, .ref 42)] [.int (nI 5 - nI 1), .ref 11] mm
    rw [pk_sub (show 1 ≤ 5 by omega)]
    refine pw_goto (tgt := 19) (off := 5) (by decide +kernel) (by decide) ?_
    refine pw_blk (pc' := 32) [.putfield 104, .aload 1, .aload 0, .getfield 100, .aload 0, .getfield 104, .aaload] (by decide +kernel) ?_
    refine ⟨(5 - 1), rfl, by omega, ?_⟩
    show pw_V x m_X1_recall 1 Z 32 [(0, .ref 11), (1, .ref 42)] [.ref 62, .ref 42] (pw_up mm 11 4 (nI (5 - 1)))
    refine pw_cV (vs := [.ref 62]) (rest := []) k_X0_copy (c_copy_42_62 (pw_up mm 11 4 (nI (5 - 1)))) l_1_31 rfl rfl rfl rfl (by decide) (Nat.le_of_ble_eq_true rfl) (by decide +kernel) ?_
    rintro _ m1 ⟨rfl, e1⟩
    rw [e1]
    clear e1 m1
    show pw_V x m_X1_recall 1 Z 35 [(0, .ref 11), (1, .ref 42)] [] (pw_cpI (pw_up mm 11 4 (nI (5 - 1))) 42 62 6)
    refine pw_blk (pc' := 41) [.aload 0, .dup, .getfield 102, .iconst 1] (by decide +kernel) ?_
    show pw_V x m_X1_recall 1 Z 41 [(0, .ref 11), (1, .ref 42)] [.int (nI 1), .int (mm 11 2), .ref 11] (pw_cpI (pw_up mm 11 4 (nI (5 - 1))) 42 62 6)
    rw [show mm 11 2 = nI (pw_g mm 11 2) from pw_q112 hok]
    refine pw_blk (pc' := 42) [.isub] (by decide +kernel) ?_
    show pw_V x m_X1_recall 1 Z 42 [(0, .ref 11), (1, .ref 42)] [.int (nI (pw_g mm 11 2) - nI 1), .ref 11] (pw_cpI (pw_up mm 11 4 (nI (5 - 1))) 42 62 6)
    rw [pk_sub (show 1 ≤ (pw_g mm 11 2) by omega)]
    refine pw_blk (pc' := 45) [.putfield 102] (by decide +kernel) ?_
    show pw_V x m_X1_recall 1 Z 45 [(0, .ref 11), (1, .ref 42)] [] (pw_up (pw_cpI (pw_up mm 11 4 (nI (5 - 1))) 42 62 6) 11 2 (nI ((pw_g mm 11 2) - 1)))
    rw [← hZ]
    refine pw_rv (by decide +kernel) ?_
    first
    | (exfalso; omega)
    | (refine ⟨rfl, ?_⟩; unfold pw_rec pw_px; rw [ex]; rfl)
  · show pw_V x m_X1_recall 1 Z 1 [(0, .ref 11), (1, .ref 42)] [.ref 11] mm
    refine pw_blk (pc' := 5) [.aload 0, .getfield 104] (by decide +kernel) ?_
    show pw_V x m_X1_recall 1 Z 5 [(0, .ref 11), (1, .ref 42)] [.int (mm 11 4), .ref 11] mm
    rw [show mm 11 4 = nI 6 from (pw_q114 hok).trans (congrArg nI ex)]
    refine pw_iz_le (tgt := 17) (off := 12) (by omega) (by decide +kernel) (by decide) (fun h => by omega) (fun _ => ?_)
    refine pw_blk (pc' := 13) [.aload 0, .getfield 104, .iconst 1] (by decide +kernel) ?_
    show pw_V x m_X1_recall 1 Z 13 [(0, .ref 11), (1, .ref 42)] [.int (nI 1), .int (mm 11 4), .ref 11] mm
    rw [show mm 11 4 = nI 6 from (pw_q114 hok).trans (congrArg nI ex)]
    refine pw_blk (pc' := 14) [.isub] (by decide +kernel) ?_
    show pw_V x m_X1_recall 1 Z 14 [(0, .ref 11), (1, .ref 42)] [.int (nI 6 - nI 1), .ref 11] mm
    rw [pk_sub (show 1 ≤ 6 by omega)]
    refine pw_goto (tgt := 19) (off := 5) (by decide +kernel) (by decide) ?_
    refine pw_blk (pc' := 32) [.putfield 104, .aload 1, .aload 0, .getfield 100, .aload 0, .getfield 104, .aaload] (by decide +kernel) ?_
    refine ⟨(6 - 1), rfl, by omega, ?_⟩
    show pw_V x m_X1_recall 1 Z 32 [(0, .ref 11), (1, .ref 42)] [.ref 66, .ref 42] (pw_up mm 11 4 (nI (6 - 1)))
    refine pw_cV (vs := [.ref 66]) (rest := []) k_X0_copy (c_copy_42_66 (pw_up mm 11 4 (nI (6 - 1)))) l_1_31 rfl rfl rfl rfl (by decide) (Nat.le_of_ble_eq_true rfl) (by decide +kernel) ?_
    rintro _ m1 ⟨rfl, e1⟩
    rw [e1]
    clear e1 m1
    show pw_V x m_X1_recall 1 Z 35 [(0, .ref 11), (1, .ref 42)] [] (pw_cpI (pw_up mm 11 4 (nI (6 - 1))) 42 66 6)
    refine pw_blk (pc' := 41) [.aload 0, .dup, .getfield 102, .iconst 1] (by decide +kernel) ?_
    show pw_V x m_X1_recall 1 Z 41 [(0, .ref 11), (1, .ref 42)] [.int (nI 1), .int (mm 11 2), .ref 11] (pw_cpI (pw_up mm 11 4 (nI (6 - 1))) 42 66 6)
    rw [show mm 11 2 = nI (pw_g mm 11 2) from pw_q112 hok]
    refine pw_blk (pc' := 42) [.isub] (by decide +kernel) ?_
    show pw_V x m_X1_recall 1 Z 42 [(0, .ref 11), (1, .ref 42)] [.int (nI (pw_g mm 11 2) - nI 1), .ref 11] (pw_cpI (pw_up mm 11 4 (nI (6 - 1))) 42 66 6)
    rw [pk_sub (show 1 ≤ (pw_g mm 11 2) by omega)]
    refine pw_blk (pc' := 45) [.putfield 102] (by decide +kernel) ?_
    show pw_V x m_X1_recall 1 Z 45 [(0, .ref 11), (1, .ref 42)] [] (pw_up (pw_cpI (pw_up mm 11 4 (nI (6 - 1))) 42 66 6) 11 2 (nI ((pw_g mm 11 2) - 1)))
    rw [← hZ]
    refine pw_rv (by decide +kernel) ?_
    first
    | (exfalso; omega)
    | (refine ⟨rfl, ?_⟩; unfold pw_rec pw_px; rw [ex]; rfl)
  · show pw_V x m_X1_recall 1 Z 1 [(0, .ref 11), (1, .ref 42)] [.ref 11] mm
    refine pw_blk (pc' := 5) [.aload 0, .getfield 104] (by decide +kernel) ?_
    show pw_V x m_X1_recall 1 Z 5 [(0, .ref 11), (1, .ref 42)] [.int (mm 11 4), .ref 11] mm
    rw [show mm 11 4 = nI 7 from (pw_q114 hok).trans (congrArg nI ex)]
    refine pw_iz_le (tgt := 17) (off := 12) (by omega) (by decide +kernel) (by decide) (fun h => by omega) (fun _ => ?_)
    refine pw_blk (pc' := 13) [.aload 0, .getfield 104, .iconst 1] (by decide +kernel) ?_
    show pw_V x m_X1_recall 1 Z 13 [(0, .ref 11), (1, .ref 42)] [.int (nI 1), .int (mm 11 4), .ref 11] mm
    rw [show mm 11 4 = nI 7 from (pw_q114 hok).trans (congrArg nI ex)]
    refine pw_blk (pc' := 14) [.isub] (by decide +kernel) ?_
    show pw_V x m_X1_recall 1 Z 14 [(0, .ref 11), (1, .ref 42)] [.int (nI 7 - nI 1), .ref 11] mm
    rw [pk_sub (show 1 ≤ 7 by omega)]
    refine pw_goto (tgt := 19) (off := 5) (by decide +kernel) (by decide) ?_
    refine pw_blk (pc' := 32) [.putfield 104, .aload 1, .aload 0, .getfield 100, .aload 0, .getfield 104, .aaload] (by decide +kernel) ?_
    refine ⟨(7 - 1), rfl, by omega, ?_⟩
    show pw_V x m_X1_recall 1 Z 32 [(0, .ref 11), (1, .ref 42)] [.ref 70, .ref 42] (pw_up mm 11 4 (nI (7 - 1)))
    refine pw_cV (vs := [.ref 70]) (rest := []) k_X0_copy (c_copy_42_70 (pw_up mm 11 4 (nI (7 - 1)))) l_1_31 rfl rfl rfl rfl (by decide) (Nat.le_of_ble_eq_true rfl) (by decide +kernel) ?_
    rintro _ m1 ⟨rfl, e1⟩
    rw [e1]
    clear e1 m1
    show pw_V x m_X1_recall 1 Z 35 [(0, .ref 11), (1, .ref 42)] [] (pw_cpI (pw_up mm 11 4 (nI (7 - 1))) 42 70 6)
    refine pw_blk (pc' := 41) [.aload 0, .dup, .getfield 102, .iconst 1] (by decide +kernel) ?_
    show pw_V x m_X1_recall 1 Z 41 [(0, .ref 11), (1, .ref 42)] [.int (nI 1), .int (mm 11 2), .ref 11] (pw_cpI (pw_up mm 11 4 (nI (7 - 1))) 42 70 6)
    rw [show mm 11 2 = nI (pw_g mm 11 2) from pw_q112 hok]
    refine pw_blk (pc' := 42) [.isub] (by decide +kernel) ?_
    show pw_V x m_X1_recall 1 Z 42 [(0, .ref 11), (1, .ref 42)] [.int (nI (pw_g mm 11 2) - nI 1), .ref 11] (pw_cpI (pw_up mm 11 4 (nI (7 - 1))) 42 70 6)
    rw [pk_sub (show 1 ≤ (pw_g mm 11 2) by omega)]
    refine pw_blk (pc' := 45) [.putfield 102] (by decide +kernel) ?_
    show pw_V x m_X1_recall 1 Z 45 [(0, .ref 11), (1, .ref 42)] [] (pw_up (pw_cpI (pw_up mm 11 4 (nI (7 - 1))) 42 70 6) 11 2 (nI ((pw_g mm 11 2) - 1)))
    rw [← hZ]
    refine pw_rv (by decide +kernel) ?_
    first
    | (exfalso; omega)
    | (refine ⟨rfl, ?_⟩; unfold pw_rec pw_px; rw [ex]; rfl)

set_option maxHeartbeats 4000000 in
set_option maxRecDepth 100000 in
theorem c_clear (mm : pw_m) : pw_Ct 0 yX1_clear m_X1_clear [.ref 11] mm (fun r m' => r = none ∧ m' = pw_up (pw_up mm 11 2 0) 11 3 0) := by
  refine pw_ct (by decide +kernel) rfl (Nat.le_of_ble_eq_true rfl) (fun x => ?_)
  generalize hZ : pw_Z x _ = Z
  show pw_V x m_X1_clear 0 Z 0 [(0, .ref 11)] [] mm
  refine pw_blk (pc' := 10) [.aload 0, .iconst 0, .putfield 102, .aload 0, .iconst 0, .putfield 103] (by decide +kernel) ?_
  show pw_V x m_X1_clear 0 Z 10 [(0, .ref 11)] [] (pw_up (pw_up mm 11 2 (nI 0)) 11 3 (nI 0))
  rw [← hZ]
  refine pw_rv (by decide +kernel) ?_
  exact ⟨rfl, rfl⟩

def pw_rsI (A : pw_m) (i : Nat) : pw_m := fun c => if c = 45 then pw_c6 (A 45) (fun _ => -1) i else A c
theorem pw_rsI_s {A : pw_m} {i : Nat} : pw_up (pw_rsI A i) 45 i (-1) = pw_rsI A (i + 1) := by
  funext c
  by_cases h : c = 45
  · subst h; rw [pw_up_eq]; exact pw_c6_s (g := fun _ => -1)
  · rw [pw_up_ne h]; unfold pw_rsI; rw [if_neg h, if_neg h]
theorem pw_rsI_0 {A : pw_m} : pw_rsI A 0 = A := by
  funext c
  unfold pw_rsI
  split
  · rename_i h; subst h; exact pw_c6_0
  · rfl

set_option maxHeartbeats 4000000 in
set_option maxRecDepth 100000 in
theorem c_allRise (mm : pw_m) : pw_Ct 0 yX0_allRise m_X0_allRise [.ref 42] mm (fun r m' => r = none ∧ m' = pw_rsI mm 6) := by
  refine pw_ct (by decide +kernel) rfl (Nat.le_of_ble_eq_true rfl) (fun x => ?_)
  generalize hZ : pw_Z x _ = Z
  have loop : ∀ i : Nat, i ≤ 6 → pw_V x m_X0_allRise 0 Z 2 [(0, .ref 42), (1, .int (nI i))] [] (pw_rsI mm i) := by
    refine pw_dn 6 (fun i hi ih => ?_)
    refine pw_blk (pc' := 5) [.iload 1, .iconst (6)] (by decide +kernel) ?_
    show pw_V x m_X0_allRise 0 Z 5 [(0, .ref 42), (1, .int (nI i))] [.int (nI 6), .int (nI i)] (pw_rsI mm i)
    refine pw_in_ge (tgt := 21) (off := 16) (by omega) (by omega) (by decide +kernel) (by decide) (fun h5 => ?_) (fun h5 => ?_)
    · rw [← hZ]
      refine pw_rv (by decide +kernel) ?_
      have e : i = 6 := by omega
      subst e
      exact ⟨rfl, rfl⟩
    · refine pw_blk (pc' := 18) [.aload 0, .getfield 4, .iload 1, .iconst (-1), .iastore, .iinc 1 1] (by decide +kernel) ?_
      refine ⟨i, rfl, by omega, ?_⟩
      show pw_V x m_X0_allRise 0 Z 18 [(1, .int ((nI i) + (nI 1))), (0, .ref 42)] [] (pw_up (pw_rsI mm i) 45 i (-1))
      rw [show (nI i) + (nI 1) = nI (i + 1) from nI_add _ _]
      refine pw_goto (tgt := 2) (off := -16) (by decide +kernel) (by decide) ?_
      refine pw_lvp [1, 0] rfl ?_
      rw [pw_rsI_s]
      exact ih (by omega)
  show pw_V x m_X0_allRise 0 Z 0 [(0, .ref 42)] [] mm
  refine pw_blk (pc' := 2) [.iconst 0, .istore 1] (by decide +kernel) ?_
  show pw_V x m_X0_allRise 0 Z 2 [(1, .int (nI 0)), (0, .ref 42)] [] mm
  refine pw_lvp [1, 0] rfl ?_
  have e := loop 0 (by omega)
  rw [pw_rsI_0] at e
  exact e
