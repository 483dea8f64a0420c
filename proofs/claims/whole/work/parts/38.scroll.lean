def F_sc (A : pw_m) (b : Nat) : Bool := decide (A 2 2 = nI 3 ∧ b < pw_g A 2 1 ∧ A 3 b = nI 59)
def pw_dg (A : pw_m) (b : Nat) : Nat → Int32
  | 0 => nI 0
  | i + 1 => pw_dg A b i * nI 10 + (A 3 (b + i) - nI 48)
def F_num (A : pw_m) (b e : Nat) : Int32 := if A 2 2 = nI 2 ∧ e - b ≤ 2 then pw_dg A b (e - b) else -1

set_option maxHeartbeats 4000000 in
set_option maxRecDepth 100000 in
theorem c_isSemicolon (mm : pw_m) (hx : mm 2 1 = nI (pw_g mm 2 1)) (bwr : pw_g mm 2 1 ≤ 160) (b : Nat) (hb : mm 2 3 = nI b) (hb2 : b ≤ pw_g mm 2 1) : pw_Ct 0 yX3_isSemicolon m_X3_isSemicolon [.ref 2] mm (fun r m' => r = some (.int (pw_b (F_sc mm b))) ∧ m' = mm) := by
  refine pw_ct (by decide +kernel) rfl (Nat.le_of_ble_eq_true rfl) (fun x => ?_)
  generalize hZ : pw_Z x _ = Z
  show pw_V x m_X3_isSemicolon 0 Z 0 [(0, .ref 2)] [] mm
  refine pw_blk (pc' := 5) [.aload 0, .getfield 302, .iconst 3] (by decide +kernel) ?_
  show pw_V x m_X3_isSemicolon 0 Z 5 [(0, .ref 2)] [.int (nI 3), .int (mm 2 2)] mm
  refine pw_ic_ne (tgt := 37) (off := 32) (by decide +kernel) (by decide) (fun h5 => ?_) (fun h5 => ?_)
  · refine pw_blk (pc' := 38) [.iconst 0] (by decide +kernel) ?_
    show pw_V x m_X3_isSemicolon 0 Z 38 [(0, .ref 2)] [.int (nI 0)] mm
    rw [← hZ]
    refine pw_rz (by decide +kernel) (Or.inl rfl) ?_
    refine ⟨?_, rfl⟩
    simp [F_sc, h5]
    try rfl
  · refine pw_blk (pc' := 16) [.aload 0, .getfield 303, .aload 0, .getfield 301] (by decide +kernel) ?_
    show pw_V x m_X3_isSemicolon 0 Z 16 [(0, .ref 2)] [.int (mm 2 1), .int (mm 2 3)] mm
    rw [show mm 2 1 = nI (pw_g mm 2 1) from hx]
    rw [show mm 2 3 = nI b from hb]
    refine pw_in_ge (tgt := 37) (off := 21) (by omega) (by omega) (by decide +kernel) (by decide) (fun h16 => ?_) (fun h16 => ?_)
    · refine pw_blk (pc' := 38) [.iconst 0] (by decide +kernel) ?_
      show pw_V x m_X3_isSemicolon 0 Z 38 [(0, .ref 2)] [.int (nI 0)] mm
      rw [← hZ]
      refine pw_rz (by decide +kernel) (Or.inl rfl) ?_
      refine ⟨?_, rfl⟩
      simp [F_sc, h5, Nat.not_lt.mpr h16]
      try rfl
    · refine pw_blk (pc' := 30) [.aload 0, .getfield 300, .aload 0, .getfield 303, .iaload, .iconst (59)] (by decide +kernel) ?_
      refine ⟨b, (show mm 2 3 = nI b from by rw [show mm 2 3 = nI b from hb]), by omega, ?_⟩
      show pw_V x m_X3_isSemicolon 0 Z 30 [(0, .ref 2)] [.int (nI 59), .int (mm 3 b)] mm
      refine pw_ic_ne (tgt := 37) (off := 7) (by decide +kernel) (by decide) (fun h30 => ?_) (fun h30 => ?_)
      · refine pw_blk (pc' := 38) [.iconst 0] (by decide +kernel) ?_
        show pw_V x m_X3_isSemicolon 0 Z 38 [(0, .ref 2)] [.int (nI 0)] mm
        rw [← hZ]
        refine pw_rz (by decide +kernel) (Or.inl rfl) ?_
        refine ⟨?_, rfl⟩
        simp [F_sc, h5, h16, h30]
        try rfl
      · refine pw_blk (pc' := 34) [.iconst 1] (by decide +kernel) ?_
        show pw_V x m_X3_isSemicolon 0 Z 34 [(0, .ref 2)] [.int (nI 1)] mm
        refine pw_goto (tgt := 38) (off := 4) (by decide +kernel) (by decide) ?_
        rw [← hZ]
        refine pw_rz (by decide +kernel) (Or.inr rfl) ?_
        refine ⟨?_, rfl⟩
        simp [F_sc, h5, h16, h30]
        try rfl

set_option maxHeartbeats 4000000 in
set_option maxRecDepth 100000 in
theorem c_number (mm : pw_m) (hx : mm 2 1 = nI (pw_g mm 2 1)) (bwr : pw_g mm 2 1 ≤ 160) (b e : Nat) (hb : mm 2 3 = nI b) (he : mm 2 4 = nI e) (hbe : b ≤ e) (he2 : e ≤ pw_g mm 2 1) : pw_Ct 0 yX3_number m_X3_number [.ref 2] mm (fun r m' => r = some (.int (F_num mm b e)) ∧ m' = mm) := by
  refine pw_ct (by decide +kernel) rfl (Nat.le_of_ble_eq_true rfl) (fun x => ?_)
  generalize hZ : pw_Z x _ = Z
  show pw_V x m_X3_number 0 Z 0 [(0, .ref 2)] [] mm
  refine pw_blk (pc' := 5) [.aload 0, .getfield 302, .iconst 2] (by decide +kernel) ?_
  show pw_V x m_X3_number 0 Z 5 [(0, .ref 2)] [.int (nI 2), .int (mm 2 2)] mm
  refine pw_ic_ne (tgt := 21) (off := 16) (by decide +kernel) (by decide) (fun h5 => ?_) (fun h5 => ?_)
  · refine pw_blk (pc' := 22) [.iconst (-1)] (by decide +kernel) ?_
    show pw_V x m_X3_number 0 Z 22 [(0, .ref 2)] [.int (-1)] mm
    rw [← hZ]
    refine pw_ri (by decide +kernel) ?_
    refine ⟨?_, rfl⟩
    unfold F_num
    rw [if_neg (fun z => absurd z.1 h5)]
    try rfl
  · refine pw_blk (pc' := 16) [.aload 0, .getfield 304, .aload 0, .getfield 303] (by decide +kernel) ?_
    show pw_V x m_X3_number 0 Z 16 [(0, .ref 2)] [.int (mm 2 3), .int (mm 2 4)] mm
    rw [show mm 2 3 = nI b from hb]
    rw [show mm 2 4 = nI e from he]
    refine pw_blk (pc' := 17) [.isub] (by decide +kernel) ?_
    show pw_V x m_X3_number 0 Z 17 [(0, .ref 2)] [.int (nI e - nI b)] mm
    rw [pk_sub (show b ≤ e by omega)]
    refine pw_blk (pc' := 18) [.iconst 2] (by decide +kernel) ?_
    show pw_V x m_X3_number 0 Z 18 [(0, .ref 2)] [.int (nI 2), .int (nI (e - b))] mm
    refine pw_in_le (tgt := 23) (off := 5) (by omega) (by omega) (by decide +kernel) (by decide) (fun h18 => ?_) (fun h18 => ?_)
    · refine pw_blk (pc' := 30) [.iconst 0, .istore 1, .aload 0, .getfield 303, .istore 2] (by decide +kernel) ?_
      show pw_V x m_X3_number 0 Z 30 [(2, .int (mm 2 3)), (1, .int (nI 0)), (0, .ref 2)] [] mm
      rw [show mm 2 3 = nI b from hb]
      refine pw_lvp [2, 1, 0] rfl ?_
      suffices lo : ∀ ix : Nat, ix ≤ e - b → pw_V x m_X3_number 0 Z 30 [(0, .ref 2), (1, .int (pw_dg mm b ix)), (2, .int (nI (b + ix)))] [] mm from lo 0 (by omega)
      refine pw_dn (e - b) (fun ix hix ih => ?_)
      refine pw_blk (pc' := 35) [.iload 2, .aload 0, .getfield 304] (by decide +kernel) ?_
      show pw_V x m_X3_number 0 Z 35 [(0, .ref 2), (1, .int (pw_dg mm b ix)), (2, .int (nI (b + ix)))] [.int (mm 2 4), .int (nI (b + ix))] mm
      rw [show mm 2 4 = nI e from he]
      refine pw_in_ge (tgt := 59) (off := 24) (by omega) (by omega) (by decide +kernel) (by decide) (fun h35 => ?_) (fun h35 => ?_)
      · refine pw_blk (pc' := 60) [.iload 1] (by decide +kernel) ?_
        show pw_V x m_X3_number 0 Z 60 [(0, .ref 2), (1, .int (pw_dg mm b ix)), (2, .int (nI (b + ix)))] [.int (pw_dg mm b ix)] mm
        rw [← hZ]
        refine pw_ri (by decide +kernel) ?_
        refine ⟨?_, rfl⟩
        unfold F_num
        rw [if_pos ⟨h5, by omega⟩, show e - b = ix by omega]
      · refine pw_blk (pc' := 56) [.iload 1, .iconst (10), .imul, .aload 0, .getfield 300, .iload 2, .iaload, .iconst (48), .isub, .iadd, .istore 1, .iinc 2 1] (by decide +kernel) ?_
        refine ⟨(b + ix), rfl, by omega, ?_⟩
        show pw_V x m_X3_number 0 Z 56 [(2, .int ((nI (b + ix)) + (nI 1))), (1, .int (((pw_dg mm b ix) * (nI 10)) + ((mm 3 (b + ix)) - (nI 48)))), (0, .ref 2)] [] mm
        rw [show (nI (b + ix)) + (nI 1) = nI ((b + ix) + 1) from nI_add _ _]
        refine pw_goto (tgt := 30) (off := -26) (by decide +kernel) (by decide) ?_
        refine pw_lvp [2, 1, 0] rfl ?_
        exact ih (by omega)
    · refine pw_blk (pc' := 22) [.iconst (-1)] (by decide +kernel) ?_
      show pw_V x m_X3_number 0 Z 22 [(0, .ref 2)] [.int (-1)] mm
      rw [← hZ]
      refine pw_ri (by decide +kernel) ?_
      refine ⟨?_, rfl⟩
      unfold F_num
      rw [if_neg (fun z => absurd z.2 (by omega))]
      try rfl
