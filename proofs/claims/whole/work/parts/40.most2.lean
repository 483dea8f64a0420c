def F_mf (A : pw_m) (w : Int32) : Int32 := if w = nI 0 then nI 8 else if w = nI 5 ∨ w = nI 6 ∨ w = nI 7 then nI 9 else if w = nI 8 ∨ w = nI 10 then A 1 3 - nI 1 else A 1 2 - nI 1
def F_ms (A : pw_m) (w : Int32) : Int32 := if w = nI 8 then A 1 3 - nI 1 else if w = nI 9 then nI 7 else nI 9

set_option maxHeartbeats 4000000 in
set_option maxRecDepth 100000 in
theorem c_mostSecond (w : Int32) (mm : pw_m) : pw_Ct 0 yX2_mostSecond m_X2_mostSecond [.ref 1, .int w] mm (fun r m' => r = some (.int (F_ms mm w)) ∧ m' = mm) := by
  refine pw_ct (by decide +kernel) rfl (Nat.le_of_ble_eq_true rfl) (fun x => ?_)
  generalize hZ : pw_Z x _ = Z
  show pw_V x m_X2_mostSecond 0 Z 0 [(0, .ref 1), (1, .int w)] [] mm
  refine pw_blk (pc' := 1) [.iload 1] (by decide +kernel) ?_
  show pw_V x m_X2_mostSecond 0 Z 1 [(0, .ref 1), (1, .int w)] [.int w] mm
  refine pw_lsw (dflt := 37) (ps := #[(8, 27), (9, 34)]) (len := 27) (by decide +kernel) (by decide) ?_
  by_cases h1_8 : w = nI 8
  · refine ⟨27, 28, by rw [h1_8]; rfl, by decide, ?_⟩
    subst h1_8
    refine pw_blk (pc' := 34) [.aload 0, .getfield 203, .iconst 1, .isub] (by decide +kernel) ?_
    show pw_V x m_X2_mostSecond 0 Z 34 [(0, .ref 1), (1, .int (nI 8))] [.int ((mm 1 3) - (nI 1))] mm
    rw [← hZ]
    refine pw_ri (by decide +kernel) ?_
    refine ⟨?_, rfl⟩
    simp [F_mf, F_ms, ]
    try first | rfl | decide
  by_cases h1_9 : w = nI 9
  · refine ⟨34, 35, by rw [h1_9]; rfl, by decide, ?_⟩
    subst h1_9
    refine pw_blk (pc' := 37) [.iconst (7)] (by decide +kernel) ?_
    show pw_V x m_X2_mostSecond 0 Z 37 [(0, .ref 1), (1, .int (nI 9))] [.int (nI 7)] mm
    rw [← hZ]
    refine pw_ri (by decide +kernel) ?_
    refine ⟨?_, rfl⟩
    simp [F_mf, F_ms, h1_8]
    try first | rfl | decide
  refine ⟨37, 38, by rw [show (#[(8, 27), (9, 34)] : Array (Int × Int)).toList = [(8, 27), (9, 34)] from rfl, lv_osw h1_8 (by decide), lv_osw h1_9 (by decide)]; rfl, by decide, ?_⟩
  refine pw_blk (pc' := 40) [.iconst (9)] (by decide +kernel) ?_
  show pw_V x m_X2_mostSecond 0 Z 40 [(0, .ref 1), (1, .int w)] [.int (nI 9)] mm
  rw [← hZ]
  refine pw_ri (by decide +kernel) ?_
  refine ⟨?_, rfl⟩
  simp [F_mf, F_ms, h1_8, h1_9]
  try first | rfl | decide

set_option maxHeartbeats 4000000 in
set_option maxRecDepth 100000 in
theorem c_mostFirst (w : Int32) (mm : pw_m) : pw_Ct 0 yX2_mostFirst m_X2_mostFirst [.ref 1, .int w] mm (fun r m' => r = some (.int (F_mf mm w)) ∧ m' = mm) := by
  refine pw_ct (by decide +kernel) rfl (Nat.le_of_ble_eq_true rfl) (fun x => ?_)
  generalize hZ : pw_Z x _ = Z
  show pw_V x m_X2_mostFirst 0 Z 0 [(0, .ref 1), (1, .int w)] [] mm
  refine pw_blk (pc' := 1) [.iload 1] (by decide +kernel) ?_
  show pw_V x m_X2_mostFirst 0 Z 1 [(0, .ref 1), (1, .int w)] [.int w] mm
  refine pw_tsw (tgt := 73) (dflt := 72) (lo := 0) (hi := 10) (offs := #[59, 72, 72, 72, 72, 62, 62, 62, 65, 72, 65]) (len := 59) (by decide +kernel) (by decide) (fun h1 => ?_) (fun j hj h1 => ?_)
  · have e1_0 : ¬ w = nI 0 := fun q => by rw [q] at h1; revert h1; decide
    have e1_1 : ¬ w = nI 1 := fun q => by rw [q] at h1; revert h1; decide
    have e1_2 : ¬ w = nI 2 := fun q => by rw [q] at h1; revert h1; decide
    have e1_3 : ¬ w = nI 3 := fun q => by rw [q] at h1; revert h1; decide
    have e1_4 : ¬ w = nI 4 := fun q => by rw [q] at h1; revert h1; decide
    have e1_5 : ¬ w = nI 5 := fun q => by rw [q] at h1; revert h1; decide
    have e1_6 : ¬ w = nI 6 := fun q => by rw [q] at h1; revert h1; decide
    have e1_7 : ¬ w = nI 7 := fun q => by rw [q] at h1; revert h1; decide
    have e1_8 : ¬ w = nI 8 := fun q => by rw [q] at h1; revert h1; decide
    have e1_9 : ¬ w = nI 9 := fun q => by rw [q] at h1; revert h1; decide
    have e1_10 : ¬ w = nI 10 := fun q => by rw [q] at h1; revert h1; decide
    refine pw_blk (pc' := 79) [.aload 0, .getfield 202, .iconst 1, .isub] (by decide +kernel) ?_
    show pw_V x m_X2_mostFirst 0 Z 79 [(0, .ref 1), (1, .int w)] [.int ((mm 1 2) - (nI 1))] mm
    rw [← hZ]
    refine pw_ri (by decide +kernel) ?_
    refine ⟨?_, rfl⟩
    simp [F_mf, F_ms, e1_0, e1_1, e1_2, e1_3, e1_4, e1_5, e1_6, e1_7, e1_8, e1_9, e1_10]
    try first | rfl | decide
  · match j, hj, h1 with
    | 0, hj, h1 =>
      refine ⟨59, 60, rfl, by decide, ?_⟩
      have e1 : w = nI 0 := Int32.toInt_inj.mp (by rw [h1]; rfl)
      subst e1
      refine pw_blk (pc' := 62) [.iconst (8)] (by decide +kernel) ?_
      show pw_V x m_X2_mostFirst 0 Z 62 [(0, .ref 1), (1, .int (nI 0))] [.int (nI 8)] mm
      rw [← hZ]
      refine pw_ri (by decide +kernel) ?_
      refine ⟨?_, rfl⟩
      simp [F_mf, F_ms, ]
      try first | rfl | decide
    | 1, hj, h1 =>
      refine ⟨72, 73, rfl, by decide, ?_⟩
      have e1 : w = nI 1 := Int32.toInt_inj.mp (by rw [h1]; rfl)
      subst e1
      refine pw_blk (pc' := 79) [.aload 0, .getfield 202, .iconst 1, .isub] (by decide +kernel) ?_
      show pw_V x m_X2_mostFirst 0 Z 79 [(0, .ref 1), (1, .int (nI 1))] [.int ((mm 1 2) - (nI 1))] mm
      rw [← hZ]
      refine pw_ri (by decide +kernel) ?_
      refine ⟨?_, rfl⟩
      simp [F_mf, F_ms, ]
      try first | rfl | decide
    | 2, hj, h1 =>
      refine ⟨72, 73, rfl, by decide, ?_⟩
      have e1 : w = nI 2 := Int32.toInt_inj.mp (by rw [h1]; rfl)
      subst e1
      refine pw_blk (pc' := 79) [.aload 0, .getfield 202, .iconst 1, .isub] (by decide +kernel) ?_
      show pw_V x m_X2_mostFirst 0 Z 79 [(0, .ref 1), (1, .int (nI 2))] [.int ((mm 1 2) - (nI 1))] mm
      rw [← hZ]
      refine pw_ri (by decide +kernel) ?_
      refine ⟨?_, rfl⟩
      simp [F_mf, F_ms, ]
      try first | rfl | decide
    | 3, hj, h1 =>
      refine ⟨72, 73, rfl, by decide, ?_⟩
      have e1 : w = nI 3 := Int32.toInt_inj.mp (by rw [h1]; rfl)
      subst e1
      refine pw_blk (pc' := 79) [.aload 0, .getfield 202, .iconst 1, .isub] (by decide +kernel) ?_
      show pw_V x m_X2_mostFirst 0 Z 79 [(0, .ref 1), (1, .int (nI 3))] [.int ((mm 1 2) - (nI 1))] mm
      rw [← hZ]
      refine pw_ri (by decide +kernel) ?_
      refine ⟨?_, rfl⟩
      simp [F_mf, F_ms, ]
      try first | rfl | decide
    | 4, hj, h1 =>
      refine ⟨72, 73, rfl, by decide, ?_⟩
      have e1 : w = nI 4 := Int32.toInt_inj.mp (by rw [h1]; rfl)
      subst e1
      refine pw_blk (pc' := 79) [.aload 0, .getfield 202, .iconst 1, .isub] (by decide +kernel) ?_
      show pw_V x m_X2_mostFirst 0 Z 79 [(0, .ref 1), (1, .int (nI 4))] [.int ((mm 1 2) - (nI 1))] mm
      rw [← hZ]
      refine pw_ri (by decide +kernel) ?_
      refine ⟨?_, rfl⟩
      simp [F_mf, F_ms, ]
      try first | rfl | decide
    | 5, hj, h1 =>
      refine ⟨62, 63, rfl, by decide, ?_⟩
      have e1 : w = nI 5 := Int32.toInt_inj.mp (by rw [h1]; rfl)
      subst e1
      refine pw_blk (pc' := 65) [.iconst (9)] (by decide +kernel) ?_
      show pw_V x m_X2_mostFirst 0 Z 65 [(0, .ref 1), (1, .int (nI 5))] [.int (nI 9)] mm
      rw [← hZ]
      refine pw_ri (by decide +kernel) ?_
      refine ⟨?_, rfl⟩
      simp [F_mf, F_ms, ]
      try first | rfl | decide
    | 6, hj, h1 =>
      refine ⟨62, 63, rfl, by decide, ?_⟩
      have e1 : w = nI 6 := Int32.toInt_inj.mp (by rw [h1]; rfl)
      subst e1
      refine pw_blk (pc' := 65) [.iconst (9)] (by decide +kernel) ?_
      show pw_V x m_X2_mostFirst 0 Z 65 [(0, .ref 1), (1, .int (nI 6))] [.int (nI 9)] mm
      rw [← hZ]
      refine pw_ri (by decide +kernel) ?_
      refine ⟨?_, rfl⟩
      simp [F_mf, F_ms, ]
      try first | rfl | decide
    | 7, hj, h1 =>
      refine ⟨62, 63, rfl, by decide, ?_⟩
      have e1 : w = nI 7 := Int32.toInt_inj.mp (by rw [h1]; rfl)
      subst e1
      refine pw_blk (pc' := 65) [.iconst (9)] (by decide +kernel) ?_
      show pw_V x m_X2_mostFirst 0 Z 65 [(0, .ref 1), (1, .int (nI 7))] [.int (nI 9)] mm
      rw [← hZ]
      refine pw_ri (by decide +kernel) ?_
      refine ⟨?_, rfl⟩
      simp [F_mf, F_ms, ]
      try first | rfl | decide
    | 8, hj, h1 =>
      refine ⟨65, 66, rfl, by decide, ?_⟩
      have e1 : w = nI 8 := Int32.toInt_inj.mp (by rw [h1]; rfl)
      subst e1
      refine pw_blk (pc' := 72) [.aload 0, .getfield 203, .iconst 1, .isub] (by decide +kernel) ?_
      show pw_V x m_X2_mostFirst 0 Z 72 [(0, .ref 1), (1, .int (nI 8))] [.int ((mm 1 3) - (nI 1))] mm
      rw [← hZ]
      refine pw_ri (by decide +kernel) ?_
      refine ⟨?_, rfl⟩
      simp [F_mf, F_ms, ]
      try first | rfl | decide
    | 9, hj, h1 =>
      refine ⟨72, 73, rfl, by decide, ?_⟩
      have e1 : w = nI 9 := Int32.toInt_inj.mp (by rw [h1]; rfl)
      subst e1
      refine pw_blk (pc' := 79) [.aload 0, .getfield 202, .iconst 1, .isub] (by decide +kernel) ?_
      show pw_V x m_X2_mostFirst 0 Z 79 [(0, .ref 1), (1, .int (nI 9))] [.int ((mm 1 2) - (nI 1))] mm
      rw [← hZ]
      refine pw_ri (by decide +kernel) ?_
      refine ⟨?_, rfl⟩
      simp [F_mf, F_ms, ]
      try first | rfl | decide
    | 10, hj, h1 =>
      refine ⟨65, 66, rfl, by decide, ?_⟩
      have e1 : w = nI 10 := Int32.toInt_inj.mp (by rw [h1]; rfl)
      subst e1
      refine pw_blk (pc' := 72) [.aload 0, .getfield 203, .iconst 1, .isub] (by decide +kernel) ?_
      show pw_V x m_X2_mostFirst 0 Z 72 [(0, .ref 1), (1, .int (nI 10))] [.int ((mm 1 3) - (nI 1))] mm
      rw [← hZ]
      refine pw_ri (by decide +kernel) ?_
      refine ⟨?_, rfl⟩
      simp [F_mf, F_ms, ]
      try first | rfl | decide
    | j + 11, hj, h1 => exact absurd hj (by omega)
