/-! quests -/
theorem pw_lpow {b i : Nat} (hb : b < 2 ^ 31) : lN (b ^ i) * (nI b).toInt64 = lN (b ^ (i + 1)) := by rw [nI_l hb, lN_mul, Nat.pow_succ]
theorem pw_lcmp0 {a : Nat} (ha : a < 2 ^ 63) : lg_cmp (lN a) (0 : Int64) = 0 ↔ a = 0 := by
  have e0 : (0 : Int64) = lN 0 := rfl
  have h1 := pk_lLT (a := 0) (b := a) (by omega) ha
  have h2 := pk_lLT (a := a) (b := 0) ha (by omega)
  rw [e0]
  unfold lg_cmp
  rcases Nat.eq_zero_or_pos a with q | q
  · subst q; decide
  · have h3 : lN 0 < lN a := h1.mpr q
    simp [h3]
    omega
theorem pw_half {a b c : Nat} (hb : 0 < b) (hab : b ≤ a) (h : a * b < 2 ^ (c + 1)) : b * (a % b) < 2 ^ c := by
  have h1 := Nat.mod_lt a hb
  have h2 : a = b * (a / b) + a % b := (Nat.div_add_mod a b).symm
  have h3 : 1 ≤ a / b := (Nat.one_le_div_iff hb).mpr hab
  have h4 : b * 1 ≤ b * (a / b) := Nat.mul_le_mul_left b h3
  have h5 : 2 * (a % b) ≤ a := by omega
  have h6 : b * (2 * (a % b)) ≤ b * a := Nat.mul_le_mul_left b h5
  have h7 : b * (2 * (a % b)) = 2 * (b * (a % b)) := by rw [← Nat.mul_assoc, Nat.mul_comm b 2, Nat.mul_assoc]
  rw [h7, Nat.mul_comm b a] at h6
  rw [Nat.pow_succ] at h
  omega

set_option maxHeartbeats 4000000 in
set_option maxRecDepth 100000 in
theorem c_power (bx tx : Nat) (mm : pw_m) (hb : bx < 2 ^ 31) (ht : tx < 2 ^ 30) : pw_Ct 0 yX7_power m_X7_power [.int (nI bx), .int (nI tx)] mm (fun r m' => r = some (.long (lN (bx ^ tx))) ∧ m' = mm) := by
  refine pw_ct (by decide +kernel) rfl (Nat.le_of_ble_eq_true rfl) (fun x => ?_)
  generalize hZ : pw_Z x _ = Z
  have loop : ∀ i : Nat, i ≤ tx → pw_V x m_X7_power 0 Z 5 [(0, .int (nI bx)), (1, .int (nI tx)), (2, .long (lN (bx ^ i))), (4, .int (nI i))] [] mm := by
    refine pw_dn (tx) (fun i hi ih => ?_)
    refine pw_blk (pc' := 8) [.iload 4, .iload 1] (by decide +kernel) ?_
    show pw_V x m_X7_power 0 Z 8 [(0, .int (nI bx)), (1, .int (nI tx)), (2, .long (lN (bx ^ i))), (4, .int (nI i))] [.int (nI tx), .int (nI i)] mm
    refine pw_in_ge (tgt := 22) (off := 14) (by omega) (by omega) (by decide +kernel) (by decide) (fun h8 => ?_) (fun h8 => ?_)
    · refine pw_blk (pc' := 23) [.lload 2] (by decide +kernel) ?_
      show pw_V x m_X7_power 0 Z 23 [(0, .int (nI bx)), (1, .int (nI tx)), (2, .long (lN (bx ^ i))), (4, .int (nI i))] [.long (lN (bx ^ i))] mm
      rw [← hZ]
      refine pw_rl (by decide +kernel) ?_
      have e : i = tx := by omega
      subst e
      exact ⟨rfl, rfl⟩
    · refine pw_blk (pc' := 19) [.lload 2, .iload 0, .i2l, .lmul, .lstore 2, .iinc 4 1] (by decide +kernel) ?_
      show pw_V x m_X7_power 0 Z 19 [(4, .int ((nI i) + (nI 1))), (2, .long ((lN (bx ^ i)) * ((nI bx).toInt64))), (0, .int (nI bx)), (1, .int (nI tx))] [] mm
      rw [show (nI i) + (nI 1) = nI (i + 1) from nI_add _ _]
      refine pw_goto (tgt := 5) (off := -14) (by decide +kernel) (by decide) ?_
      rw [show (lN (bx ^ i)) * ((nI bx).toInt64) = lN (bx ^ (i + 1)) from pw_lpow hb]
      refine pw_lvp [2, 3, 1, 0] rfl ?_
      exact ih (by omega)
  show pw_V x m_X7_power 0 Z 0 [(0, .int (nI bx)), (1, .int (nI tx))] [] mm
  refine pw_blk (pc' := 5) [.jsr 1, .lstore 2, .iconst 0, .istore 4] (by decide +kernel) ?_
  show pw_V x m_X7_power 0 Z 5 [(4, .int (nI 0)), (2, .long (1 : Int64)), (0, .int (nI bx)), (1, .int (nI tx))] [] mm
  refine pw_lvp [2, 3, 1, 0] rfl ?_
  exact loop 0 (by omega)

set_option maxHeartbeats 4000000 in
set_option maxRecDepth 100000 in
theorem c_commonDivisor (oa ob : Nat) (mm : pw_m) (h0 : 0 < oa) (h1 : ob ≤ oa) (h2 : oa * ob < 2 ^ 60) (h3 : oa < 2 ^ 60) : pw_Ct 0 yX7_commonDivisor m_X7_commonDivisor [.long (lN oa), .long (lN ob)] mm (fun r m' => r = some (.long (lN (Nat.gcd oa ob))) ∧ m' = mm) := by
  refine pw_ct (by decide +kernel) rfl (Nat.le_of_ble_eq_true rfl) (fun x => ?_)
  generalize hZ : pw_Z x _ = Z
  show pw_V x m_X7_commonDivisor 0 Z 0 [(0, .long (lN oa)), (2, .long (lN ob))] [] mm
  refine pw_blk (pc' := 9) [.lload 0, .lstore 4, .lload 2, .lstore 6, .iconst 0, .istore 8] (by decide +kernel) ?_
  show pw_V x m_X7_commonDivisor 0 Z 9 [(8, .int (nI 0)), (6, .long (lN ob)), (4, .long (lN oa)), (0, .long (lN oa)), (2, .long (lN ob))] [] mm
  refine pw_lvp [3, 4, 2, 1, 0] rfl ?_
  suffices lo : ∀ i : Nat, i ≤ 100 → ∀ ax bx : Nat, 0 < ax → ax < 2 ^ 60 → bx ≤ ax → ax * bx < 2 ^ (100 - i) → Nat.gcd ax bx = Nat.gcd oa ob → pw_V x m_X7_commonDivisor 0 Z 9 [(0, .long (lN oa)), (2, .long (lN ob)), (4, .long (lN ax)), (6, .long (lN bx)), (8, .int (nI i))] [] mm from lo 0 (by omega) oa ob h0 (by omega) h1 (Nat.lt_of_lt_of_le h2 (Nat.pow_le_pow_right (by omega) (by omega))) rfl
  refine pw_dn 100 (fun i hi ih ax bx ha ha2 hba hp hg => ?_)
  refine pw_blk (pc' := 13) [.iload 8, .iconst (100)] (by decide +kernel) ?_
  show pw_V x m_X7_commonDivisor 0 Z 13 [(0, .long (lN oa)), (2, .long (lN ob)), (4, .long (lN ax)), (6, .long (lN bx)), (8, .int (nI i))] [.int (nI 100), .int (nI i)] mm
  refine pw_in_ge (tgt := 44) (off := 31) (by omega) (by omega) (by decide +kernel) (by decide) (fun h13 => ?_) (fun h13 => ?_)
  · refine pw_blk (pc' := 46) [.lload 4] (by decide +kernel) ?_
    show pw_V x m_X7_commonDivisor 0 Z 46 [(0, .long (lN oa)), (2, .long (lN ob)), (4, .long (lN ax)), (6, .long (lN bx)), (8, .int (nI i))] [.long (lN ax)] mm
    rw [← hZ]
    refine pw_rl (by decide +kernel) ?_
    have hi0 : 100 - i = 0 := by omega
    rw [hi0] at hp
    have z : bx = 0 := Nat.eq_zero_of_not_pos (fun q9 => by have := Nat.mul_pos ha q9; omega)
    subst z
    rw [Nat.gcd_zero_right] at hg
    exact ⟨by rw [hg], rfl⟩
  · refine pw_blk (pc' := 20) [.lload 6, .jsr 0, .lcmp] (by decide +kernel) ?_
    show pw_V x m_X7_commonDivisor 0 Z 20 [(0, .long (lN oa)), (2, .long (lN ob)), (4, .long (lN ax)), (6, .long (lN bx)), (8, .int (nI i))] [.int (lg_cmp (lN bx) (0 : Int64))] mm
    refine pw_if_eq (tgt := 44) (off := 24) (by decide +kernel) (by decide) (fun h20 => ?_) (fun h20 => ?_)
    · refine pw_blk (pc' := 46) [.lload 4] (by decide +kernel) ?_
      show pw_V x m_X7_commonDivisor 0 Z 46 [(0, .long (lN oa)), (2, .long (lN ob)), (4, .long (lN ax)), (6, .long (lN bx)), (8, .int (nI i))] [.long (lN ax)] mm
      rw [← hZ]
      refine pw_rl (by decide +kernel) ?_
      have z : bx = 0 := (pw_lcmp0 (by omega)).mp h20
      subst z
      rw [Nat.gcd_zero_right] at hg
      exact ⟨by rw [hg], rfl⟩
    · have hb0 : 0 < bx := Nat.pos_of_ne_zero (fun z => h20 ((pw_lcmp0 (by omega)).mpr z))
      have hbn : ¬ lN bx = 0 := fun z => Nat.ne_of_gt hb0 ((pk_lEQ (a := bx) (b := 0) (by omega) (by omega)).mp z)
      refine pw_blk (pc' := 28) [.lload 4, .lload 6, .lrem] (by decide +kernel) ?_
      refine ⟨hbn, ?_⟩
      show pw_V x m_X7_commonDivisor 0 Z 28 [(0, .long (lN oa)), (2, .long (lN ob)), (4, .long (lN ax)), (6, .long (lN bx)), (8, .int (nI i))] [.long ((lN ax) - (lN ax) / (lN bx) * (lN bx))] mm
      rw [pk_lRem (a := ax) (b := bx) (by omega) hb0 (by omega)]
      show pw_V x m_X7_commonDivisor 0 Z 28 [(0, .long (lN oa)), (2, .long (lN ob)), (4, .long (lN ax)), (6, .long (lN bx)), (8, .int (nI i))] [.long (lN (ax % bx))] mm
      refine pw_blk (pc' := 41) [.lstore 9, .lload 6, .lstore 4, .lload 9, .lstore 6, .iinc 8 1] (by decide +kernel) ?_
      show pw_V x m_X7_commonDivisor 0 Z 41 [(8, .int ((nI i) + (nI 1))), (6, .long (lN (ax % bx))), (4, .long (lN bx)), (9, .long (lN (ax % bx))), (0, .long (lN oa)), (2, .long (lN ob))] [] mm
      rw [show (nI i) + (nI 1) = nI (i + 1) from nI_add _ _]
      refine pw_goto (tgt := 9) (off := -32) (by decide +kernel) (by decide) ?_
      refine pw_lvp [4, 5, 2, 1, 0] rfl ?_
      have hc : 100 - i = (100 - (i + 1)) + 1 := by omega
      rw [hc] at hp
      exact ih (by omega) bx (ax % bx) hb0 (by omega) (Nat.le_of_lt (Nat.mod_lt _ hb0)) (pw_half hb0 hba hp) (by rw [← hg, Nat.gcd_comm ax bx, Nat.gcd_rec bx ax, Nat.gcd_comm])
