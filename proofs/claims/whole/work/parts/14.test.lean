theorem pw_shl1 {i : Nat} (h : i < 31) : nI 1 <<< (nI i &&& 31) = nI (2 ^ i) := by
  have e : (nI i &&& 31).toBitVec.smod 32 = BitVec.ofNat 32 i := by
    revert i; decide
  exact (pk_shlN (n := 1) _ i (by rw [e]; simp; omega) (by have := Nat.pow_lt_pow_right (show 1 < 2 by omega) (show i < 32 by omega); omega)).trans (by rw [Nat.one_mul])
def pw_hs (b a : Int32) : Bool := !decide ((b >>> (a &&& 31)) &&& 1 = 0)
/-- backwards along a counter -/
theorem pw_dn {P : Nat → Prop} (N : Nat) (h : ∀ i, i ≤ N → (i + 1 ≤ N → P (i + 1)) → P i) : ∀ i, i ≤ N → P i := by
  have key : ∀ n i, i + n = N → P i := by
    intro n
    induction n with
    | zero => intro i hi; exact h i (by omega) (fun q => absurd q (by omega))
    | succ n ih => intro i hi; exact h i (by omega) (fun _ => ih (i + 1) (by omega))
  exact fun i hi => key (N - i) i (by omega)
def pw_sf (pl : Nat → Int32) (s : Int32) : Nat → Nat → Int32
  | _, 0 => -1
  | i, n + 1 => if pl i = s then nI i else pw_sf pl s (i + 1) n

set_option maxHeartbeats 4000000 in
set_option maxRecDepth 100000 in
theorem c_has (b a : Int32) (mm : pw_m) : pw_Ct 0 yX7_has m_X7_has [.int b, .int a] mm (fun r m' => r = some (.int (pw_b (pw_hs b a))) ∧ m' = mm) := by
  refine pw_ct (by decide +kernel) rfl (Nat.le_of_ble_eq_true rfl) (fun x => ?_)
  generalize hZ : pw_Z x _ = Z
  show pw_V x m_X7_has 0 Z 0 [(0, .int b), (1, .int a)] [] mm
  refine pw_blk (pc' := 5) [.iload 0, .iload 1, .ishr, .iconst 1, .iand] (by decide +kernel) ?_
  show pw_V x m_X7_has 0 Z 5 [(0, .int b), (1, .int a)] [.int ((b >>> (a &&& 31)) &&& (nI 1))] mm
  refine pw_if_eq (tgt := 12) (off := 7) (by decide +kernel) (by decide) (fun h5 => ?_) (fun h5 => ?_)
  · refine pw_blk (pc' := 13) [.iconst 0] (by decide +kernel) ?_
    show pw_V x m_X7_has 0 Z 13 [(0, .int b), (1, .int a)] [.int (nI 0)] mm
    rw [← hZ]
    refine pw_rz (by decide +kernel) (Or.inl rfl) ?_
    refine ⟨?_, rfl⟩
    simp_all [pw_hs, pw_b, nI]
  · refine pw_blk (pc' := 9) [.iconst 1] (by decide +kernel) ?_
    show pw_V x m_X7_has 0 Z 9 [(0, .int b), (1, .int a)] [.int (nI 1)] mm
    refine pw_goto (tgt := 13) (off := 4) (by decide +kernel) (by decide) ?_
    rw [← hZ]
    refine pw_rz (by decide +kernel) (Or.inr rfl) ?_
    refine ⟨?_, rfl⟩
    simp_all [pw_hs, pw_b, nI]

set_option maxHeartbeats 4000000 in
set_option maxRecDepth 100000 in
theorem c_whoSitsOn (s : Int32) (mm : pw_m) : pw_Ct 0 yX0_whoSitsOn m_X0_whoSitsOn [.ref 42, .int s] mm (fun r m' => r = some (.int (pw_sf (mm 45) s 0 6)) ∧ m' = mm) := by
  refine pw_ct (by decide +kernel) rfl (Nat.le_of_ble_eq_true rfl) (fun x => ?_)
  generalize hZ : pw_Z x _ = Z
  have loop : ∀ i : Nat, i ≤ 6 → (pw_sf (mm 45) s 0 6 = pw_sf (mm 45) s i (6 - i)) → pw_V x m_X0_whoSitsOn 0 Z 2 [(0, .ref 42), (1, .int s), (2, .int (nI i))] [] mm := by
    refine pw_dn 6 (fun i hi ih hq => ?_)
    refine pw_blk (pc' := 5) [.iload 2, .iconst (6)] (by decide +kernel) ?_
    show pw_V x m_X0_whoSitsOn 0 Z 5 [(0, .ref 42), (1, .int s), (2, .int (nI i))] [.int (nI 6), .int (nI i)] mm
    refine pw_in_ge (tgt := 26) (off := 21) (by omega) (by omega) (by decide +kernel) (by decide) (fun h5 => ?_) (fun h5 => ?_)
    · refine pw_blk (pc' := 27) [.iconst (-1)] (by decide +kernel) ?_
      show pw_V x m_X0_whoSitsOn 0 Z 27 [(0, .ref 42), (1, .int s), (2, .int (nI i))] [.int (-1)] mm
      rw [← hZ]
      refine pw_ri (by decide +kernel) ?_
      refine ⟨?_, rfl⟩
      rw [hq, show 6 - i = 0 by omega]; rfl
    · refine pw_blk (pc' := 15) [.aload 0, .getfield 4, .iload 2, .iaload, .iload 1] (by decide +kernel) ?_
      refine ⟨i, rfl, by omega, ?_⟩
      show pw_V x m_X0_whoSitsOn 0 Z 15 [(0, .ref 42), (1, .int s), (2, .int (nI i))] [.int s, .int (mm 45 i)] mm
      refine pw_ic_ne (tgt := 20) (off := 5) (by decide +kernel) (by decide) (fun h15 => ?_) (fun h15 => ?_)
      · refine pw_blk (pc' := 23) [.iinc 2 1] (by decide +kernel) ?_
        show pw_V x m_X0_whoSitsOn 0 Z 23 [(2, .int ((nI i) + (nI 1))), (0, .ref 42), (1, .int s)] [] mm
        rw [show (nI i) + (nI 1) = nI (i + 1) from nI_add _ _]
        refine pw_goto (tgt := 2) (off := -21) (by decide +kernel) (by decide) ?_
        refine pw_lvp [1, 2, 0] rfl ?_
        refine ih (by omega) ?_
        rw [hq, show 6 - i = (6 - (i + 1)) + 1 by omega]; simp [pw_sf, h15]
      · refine pw_blk (pc' := 19) [.iload 2] (by decide +kernel) ?_
        show pw_V x m_X0_whoSitsOn 0 Z 19 [(0, .ref 42), (1, .int s), (2, .int (nI i))] [.int (nI i)] mm
        rw [← hZ]
        refine pw_ri (by decide +kernel) ?_
        refine ⟨?_, rfl⟩
        rw [hq, show 6 - i = (6 - (i + 1)) + 1 by omega]; simp [pw_sf, h15]
  show pw_V x m_X0_whoSitsOn 0 Z 0 [(0, .ref 42), (1, .int s)] [] mm
  refine pw_blk (pc' := 2) [.iconst 0, .istore 2] (by decide +kernel) ?_
  show pw_V x m_X0_whoSitsOn 0 Z 2 [(2, .int (nI 0)), (0, .ref 42), (1, .int s)] [] mm
  refine pw_lvp [1, 2, 0] rfl ?_
  exact loop 0 (by omega) rfl
