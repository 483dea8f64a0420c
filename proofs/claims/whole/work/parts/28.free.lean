/-! the search itself -/
theorem pw_anG (a b : Nat) : nI a &&& (nI b ^^^ (-1)) = nI (pw_an a b) := by
  apply Int32.toBitVec_inj.1
  show BitVec.ofNat 32 a &&& (BitVec.ofNat 32 b ^^^ BitVec.allOnes 32) = BitVec.ofNat 32 (a ^^^ (a &&& b))
  apply BitVec.eq_of_getLsbD_eq
  intro i hi
  simp only [BitVec.getLsbD_and, BitVec.getLsbD_xor, BitVec.getLsbD_allOnes, BitVec.getLsbD_ofNat, Nat.testBit_xor, Nat.testBit_and, hi, decide_true, Bool.true_and]
  cases a.testBit i <;> cases b.testBit i <;> rfl
/-- what the search knows: seats, knights, who is there, good seats, enemies -/
def pw_SC (m : pw_m) (n kn th : Nat) (gd en : Nat → Nat) : Prop := (n ≤ 8 ∧ kn ≤ 6 ∧ th < 64) ∧ (m 20 0 = nI n ∧ m 20 1 = nI kn ∧ m 20 2 = nI th) ∧ ∀ k, k < kn → (m 21 k = nI (gd k) ∧ gd k < 2 ^ n) ∧ m 22 k = nI (en k) ∧ en k < 64
theorem pw_SC.c {m m' : pw_m} {n kn th : Nat} {gd en : Nat → Nat} (h : pw_SC m n kn th gd en) (hc : ∀ c, c ≠ 23 → m' c = m c) : pw_SC m' n kn th gd en := by
  obtain ⟨h1, h2, h3⟩ := h
  exact ⟨h1, by rw [hc 20 (by omega)]; exact h2, fun k hk => by rw [hc 21 (by omega), hc 22 (by omega)]; exact h3 k hk⟩
/-- those below k who are there sit as pl says -/
def pw_PL (m : pw_m) (n th : Nat) (pl : Nat → Nat) (k : Nat) : Prop := ∀ j, j < k → th.testBit j = true → m 23 j = nI (pl j) ∧ pl j < n
def pw_ns (pl : Nat → Nat) (k s : Nat) : Nat → Nat := fun j => if j = k then s else pl j
theorem pw_PL.put {m : pw_m} {n th k s : Nat} {pl : Nat → Nat} (h : pw_PL m n th pl k) (hs : s < n) : pw_PL (pw_up m 23 k (nI s)) n th (pw_ns pl k s) (k + 1) := by
  intro j hj ht
  rw [pw_up_eq]
  unfold upd pw_ns
  by_cases e : j = k
  · rw [if_pos e, if_pos e]; exact ⟨rfl, hs⟩
  · rw [if_neg e, if_neg e]; exact h j (by omega) ht
theorem pw_PL.skip {m : pw_m} {n th k : Nat} {pl : Nat → Nat} (h : pw_PL m n th pl k) (ht : th.testBit k = false) : pw_PL m n th pl (k + 1) := by
  intro j hj hb
  by_cases e : j = k
  · rw [e, ht] at hb; cases hb
  · exact h j (by omega) hb
theorem pw_PL.c {m m' : pw_m} {n th k : Nat} {pl : Nat → Nat} (h : pw_PL m n th pl k) (hc : ∀ j, j < k → m' 23 j = m 23 j) : pw_PL m' n th pl k := fun j hj ht => by rw [hc j hj]; exact h j hj ht
def pw_bs (n s : Nat) : Nat := 2 ^ pw_bh n s ||| 2 ^ pw_ah n s
def pw_frI (n th gd en : Nat) (pl : Nat → Nat) (us : Nat) : Nat → Nat
  | 0 => pw_an gd us
  | i + 1 => if (en.testBit i && th.testBit i) = true then pw_an (pw_frI n th gd en pl us i) (pw_bs n (pl i)) else pw_frI n th gd en pl us i
theorem pw_frI_lt {n th gd en us i : Nat} {pl : Nat → Nat} (h : gd < 2 ^ n) : pw_frI n th gd en pl us i < 2 ^ n := by
  induction i with
  | zero => exact pw_an_lt h
  | succ i ih =>
    unfold pw_frI
    split
    · exact pw_an_lt ih
    · exact ih
theorem pw_bs_lt {n s : Nat} (h : s < n) : pw_bs n s < 2 ^ n := Nat.or_lt_two_pow (Nat.pow_lt_pow_right (by omega) (pw_bh_lt h)) (Nat.pow_lt_pow_right (by omega) (pw_ah_lt h))
theorem pw_p8 {n a : Nat} (hn : n ≤ 8) (h : a < 2 ^ n) : a < 256 := Nat.lt_of_lt_of_le h (Nat.pow_le_pow_right (by omega) hn : 2 ^ n ≤ 2 ^ 8)

set_option maxHeartbeats 4000000 in
set_option maxRecDepth 100000 in
theorem c_besides (s : Nat) (mm : pw_m) {n kn th : Nat} {gd en : Nat → Nat} (hs : pw_SC mm n kn th gd en) (h0 : s < n) : pw_Ct 1 yX4_besides m_X4_besides [.ref 20, .int (nI s)] mm (fun r m' => r = some (.int (nI (pw_bs n s))) ∧ m' = mm) := by
  refine pw_ct (by decide +kernel) rfl (Nat.le_of_ble_eq_true rfl) (fun x => ?_)
  generalize hZ : pw_Z x _ = Z
  obtain ⟨bn, bk, bt⟩ := hs.1
  have b1 := pw_bh_lt h0
  have b2 := pw_ah_lt h0
  show pw_V x m_X4_besides 1 Z 0 [(0, .ref 20), (1, .int (nI s))] [] mm
  refine pw_blk (pc' := 6) [.iconst 1, .iload 1, .aload 0, .getfield 400] (by decide +kernel) ?_
  show pw_V x m_X4_besides 1 Z 6 [(0, .ref 20), (1, .int (nI s))] [.int (mm 20 0), .int (nI s), .int (nI 1)] mm
  rw [show mm 20 0 = nI n from hs.2.1.1]
  refine pw_cN (idx := 81) (vs := [.int (nI s), .int (nI n)]) (rest := [.int (nI 1)]) (host := RX7) k_X7_behind (c_behind s n (by omega) (by omega) mm) (by decide +kernel) rfl (by decide) (Nat.le_of_ble_eq_true rfl) (by decide +kernel) ?_
  rintro _ m1 ⟨rfl, e1⟩
  rw [e1]
  clear e1 m1
  show pw_V x m_X4_besides 1 Z 9 [(0, .ref 20), (1, .int (nI s))] [.int (nI (pw_bh n s)), .int (nI 1)] mm
  refine pw_blk (pc' := 16) [.ishl, .iconst 1, .iload 1, .aload 0, .getfield 400] (by decide +kernel) ?_
  show pw_V x m_X4_besides 1 Z 16 [(0, .ref 20), (1, .int (nI s))] [.int (mm 20 0), .int (nI s), .int (nI 1), .int ((nI 1) <<< ((nI (pw_bh n s)) &&& 31))] mm
  rw [show mm 20 0 = nI n from hs.2.1.1]
  rw [show (nI 1) <<< ((nI (pw_bh n s)) &&& 31) = nI (2 ^ (pw_bh n s)) from pw_shl1 (by omega)]
  refine pw_cN (idx := 84) (vs := [.int (nI s), .int (nI n)]) (rest := [.int (nI 1), .int (nI (2 ^ (pw_bh n s)))]) (host := RX7) k_X7_ahead (c_ahead s n (by omega) (by omega) mm) (by decide +kernel) rfl (by decide) (Nat.le_of_ble_eq_true rfl) (by decide +kernel) ?_
  rintro _ m1 ⟨rfl, e1⟩
  rw [e1]
  clear e1 m1
  show pw_V x m_X4_besides 1 Z 19 [(0, .ref 20), (1, .int (nI s))] [.int (nI (pw_ah n s)), .int (nI 1), .int (nI (2 ^ (pw_bh n s)))] mm
  refine pw_blk (pc' := 21) [.ishl, .ior] (by decide +kernel) ?_
  show pw_V x m_X4_besides 1 Z 21 [(0, .ref 20), (1, .int (nI s))] [.int ((nI (2 ^ (pw_bh n s))) ||| ((nI 1) <<< ((nI (pw_ah n s)) &&& 31)))] mm
  rw [show (nI 1) <<< ((nI (pw_ah n s)) &&& 31) = nI (2 ^ (pw_ah n s)) from pw_shl1 (by omega)]
  rw [show (nI (2 ^ (pw_bh n s))) ||| (nI (2 ^ (pw_ah n s))) = nI ((2 ^ (pw_bh n s)) ||| (2 ^ (pw_ah n s))) from fa_or _ _]
  rw [← hZ]
  refine pw_ri (by decide +kernel) ?_
  exact ⟨rfl, rfl⟩

set_option maxHeartbeats 4000000 in
set_option maxRecDepth 100000 in
theorem c_freeSeats (k us : Nat) (pl : Nat → Nat) (mm : pw_m) {n kn th : Nat} {gd en : Nat → Nat} (hs : pw_SC mm n kn th gd en) (hk : k < kn) (hp : pw_PL mm n th pl k) : pw_Ct 2 yX4_freeSeats m_X4_freeSeats [.ref 20, .int (nI k), .int (nI us)] mm (fun r m' => r = some (.int (nI (pw_frI n th (gd k) (en k) pl us k))) ∧ m' = mm) := by
  refine pw_ct (by decide +kernel) rfl (Nat.le_of_ble_eq_true rfl) (fun x => ?_)
  generalize hZ : pw_Z x _ = Z
  obtain ⟨bn, bk, bt⟩ := hs.1
  have be := (hs.2.2 k hk).2.2
  have loop : ∀ i : Nat, i ≤ k → pw_V x m_X4_freeSeats 2 Z 14 [(0, .ref 20), (1, .int (nI k)), (2, .int (nI us)), (3, .int (nI (pw_frI n th (gd k) (en k) pl us i))), (4, .int (nI i))] [] mm := by
    refine pw_dn k (fun i hi ih => ?_)
    refine pw_blk (pc' := 17) [.iload 4, .iload 1] (by decide +kernel) ?_
    show pw_V x m_X4_freeSeats 2 Z 17 [(0, .ref 20), (1, .int (nI k)), (2, .int (nI us)), (3, .int (nI (pw_frI n th (gd k) (en k) pl us i))), (4, .int (nI i))] [.int (nI k), .int (nI i)] mm
    refine pw_in_ge (tgt := 68) (off := 51) (by omega) (by omega) (by decide +kernel) (by decide) (fun h17 => ?_) (fun h17 => ?_)
    · refine pw_blk (pc' := 69) [.iload 3] (by decide +kernel) ?_
      show pw_V x m_X4_freeSeats 2 Z 69 [(0, .ref 20), (1, .int (nI k)), (2, .int (nI us)), (3, .int (nI (pw_frI n th (gd k) (en k) pl us i))), (4, .int (nI i))] [.int (nI (pw_frI n th (gd k) (en k) pl us i))] mm
      rw [← hZ]
      refine pw_ri (by decide +kernel) ?_
      have e : i = k := by omega
      subst e
      exact ⟨rfl, rfl⟩
    · refine pw_blk (pc' := 28) [.aload 0, .getfield 404, .iload 1, .iaload, .iload 4] (by decide +kernel) ?_
      refine ⟨k, rfl, by omega, ?_⟩
      show pw_V x m_X4_freeSeats 2 Z 28 [(0, .ref 20), (1, .int (nI k)), (2, .int (nI us)), (3, .int (nI (pw_frI n th (gd k) (en k) pl us i))), (4, .int (nI i))] [.int (nI i), .int (mm 22 k)] mm
      rw [show mm 22 k = nI (en k) from (hs.2.2 k (by omega)).2.1]
      refine pw_cN (idx := 63) (vs := [.int (nI (en k)), .int (nI i)]) (rest := []) (host := RX7) k_X7_has (c_has (nI (en k)) (nI i) mm) (by decide +kernel) rfl (by decide) (Nat.le_of_ble_eq_true rfl) (by decide +kernel) ?_
      rintro _ m1 ⟨rfl, e1⟩
      rw [e1]
      clear e1 m1
      show pw_V x m_X4_freeSeats 2 Z 31 [(0, .ref 20), (1, .int (nI k)), (2, .int (nI us)), (3, .int (nI (pw_frI n th (gd k) (en k) pl us i))), (4, .int (nI i))] [.int (pw_b (pw_hs (nI (en k)) (nI i)))] mm
      rw [pw_hs_n (by omega) (by omega)]
      refine pw_ib_eq (tgt := 62) (off := 31) (by decide +kernel) (by decide) (fun h31 => ?_) (fun h31 => ?_)
      · refine pw_blk (pc' := 65) [.iinc 4 1] (by decide +kernel) ?_
        show pw_V x m_X4_freeSeats 2 Z 65 [(4, .int ((nI i) + (nI 1))), (0, .ref 20), (1, .int (nI k)), (2, .int (nI us)), (3, .int (nI (pw_frI n th (gd k) (en k) pl us i)))] [] mm
        rw [show (nI i) + (nI 1) = nI (i + 1) from nI_add _ _]
        refine pw_goto (tgt := 14) (off := -51) (by decide +kernel) (by decide) ?_
        rw [show (pw_frI n th (gd k) (en k) pl us i) = (pw_frI n th (gd k) (en k) pl us (i + 1)) from by simp [pw_frI, h31]]
        refine pw_lvp [1, 2, 3, 4, 0] rfl ?_
        exact ih (by omega)
      · refine pw_blk (pc' := 40) [.aload 0, .getfield 402, .iload 4] (by decide +kernel) ?_
        show pw_V x m_X4_freeSeats 2 Z 40 [(0, .ref 20), (1, .int (nI k)), (2, .int (nI us)), (3, .int (nI (pw_frI n th (gd k) (en k) pl us i))), (4, .int (nI i))] [.int (nI i), .int (mm 20 2)] mm
        rw [show mm 20 2 = nI th from hs.2.1.2.2]
        refine pw_cN (idx := 63) (vs := [.int (nI th), .int (nI i)]) (rest := []) (host := RX7) k_X7_has (c_has (nI th) (nI i) mm) (by decide +kernel) rfl (by decide) (Nat.le_of_ble_eq_true rfl) (by decide +kernel) ?_
        rintro _ m1 ⟨rfl, e1⟩
        rw [e1]
        clear e1 m1
        show pw_V x m_X4_freeSeats 2 Z 43 [(0, .ref 20), (1, .int (nI k)), (2, .int (nI us)), (3, .int (nI (pw_frI n th (gd k) (en k) pl us i))), (4, .int (nI i))] [.int (pw_b (pw_hs (nI th) (nI i)))] mm
        rw [pw_hs_n (by omega) (by omega)]
        refine pw_ib_eq (tgt := 62) (off := 19) (by decide +kernel) (by decide) (fun h43 => ?_) (fun h43 => ?_)
        · refine pw_blk (pc' := 65) [.iinc 4 1] (by decide +kernel) ?_
          show pw_V x m_X4_freeSeats 2 Z 65 [(4, .int ((nI i) + (nI 1))), (0, .ref 20), (1, .int (nI k)), (2, .int (nI us)), (3, .int (nI (pw_frI n th (gd k) (en k) pl us i)))] [] mm
          rw [show (nI i) + (nI 1) = nI (i + 1) from nI_add _ _]
          refine pw_goto (tgt := 14) (off := -51) (by decide +kernel) (by decide) ?_
          rw [show (pw_frI n th (gd k) (en k) pl us i) = (pw_frI n th (gd k) (en k) pl us (i + 1)) from by simp [pw_frI, h31, h43]]
          refine pw_lvp [1, 2, 3, 4, 0] rfl ?_
          exact ih (by omega)
        · obtain ⟨p1, p2⟩ := hp i (by omega) h43
          refine pw_blk (pc' := 55) [.iload 3, .aload 0, .aload 0, .getfield 405, .iload 4, .iaload] (by decide +kernel) ?_
          refine ⟨i, rfl, by omega, ?_⟩
          show pw_V x m_X4_freeSeats 2 Z 55 [(0, .ref 20), (1, .int (nI k)), (2, .int (nI us)), (3, .int (nI (pw_frI n th (gd k) (en k) pl us i))), (4, .int (nI i))] [.int (mm 23 i), .ref 20, .int (nI (pw_frI n th (gd k) (en k) pl us i))] mm
          rw [show mm 23 i = nI (pl i) from p1]
          refine pw_cV (vs := [.int (nI (pl i))]) (rest := [.int (nI (pw_frI n th (gd k) (en k) pl us i))]) k_X4_besides (c_besides (pl i) mm hs (by omega)) l_4_78 rfl rfl rfl rfl (by decide) (Nat.le_of_ble_eq_true rfl) (by decide +kernel) ?_
          rintro _ m1 ⟨rfl, e1⟩
          rw [e1]
          clear e1 m1
          show pw_V x m_X4_freeSeats 2 Z 58 [(0, .ref 20), (1, .int (nI k)), (2, .int (nI us)), (3, .int (nI (pw_frI n th (gd k) (en k) pl us i))), (4, .int (nI i))] [.int (nI (pw_bs n (pl i))), .int (nI (pw_frI n th (gd k) (en k) pl us i))] mm
          refine pw_blk (pc' := 60) [.iconst (-1), .ixor] (by decide +kernel) ?_
          show pw_V x m_X4_freeSeats 2 Z 60 [(0, .ref 20), (1, .int (nI k)), (2, .int (nI us)), (3, .int (nI (pw_frI n th (gd k) (en k) pl us i))), (4, .int (nI i))] [.int ((nI (pw_bs n (pl i))) ^^^ (-1)), .int (nI (pw_frI n th (gd k) (en k) pl us i))] mm
          refine pw_blk (pc' := 61) [.iand] (by decide +kernel) ?_
          show pw_V x m_X4_freeSeats 2 Z 61 [(0, .ref 20), (1, .int (nI k)), (2, .int (nI us)), (3, .int (nI (pw_frI n th (gd k) (en k) pl us i))), (4, .int (nI i))] [.int ((nI (pw_frI n th (gd k) (en k) pl us i)) &&& ((nI (pw_bs n (pl i))) ^^^ (-1)))] mm
          rw [pw_anG]
          refine pw_blk (pc' := 65) [.istore 3, .iinc 4 1] (by decide +kernel) ?_
          show pw_V x m_X4_freeSeats 2 Z 65 [(4, .int ((nI i) + (nI 1))), (3, .int (nI (pw_an (pw_frI n th (gd k) (en k) pl us i) (pw_bs n (pl i))))), (0, .ref 20), (1, .int (nI k)), (2, .int (nI us))] [] mm
          rw [show (nI i) + (nI 1) = nI (i + 1) from nI_add _ _]
          refine pw_goto (tgt := 14) (off := -51) (by decide +kernel) (by decide) ?_
          rw [show (pw_an (pw_frI n th (gd k) (en k) pl us i) (pw_bs n (pl i))) = (pw_frI n th (gd k) (en k) pl us (i + 1)) from by simp [pw_frI, h31, h43]]
          refine pw_lvp [2, 3, 4, 1, 0] rfl ?_
          exact ih (by omega)
  show pw_V x m_X4_freeSeats 2 Z 0 [(0, .ref 20), (1, .int (nI k)), (2, .int (nI us))] [] mm
  refine pw_blk (pc' := 9) [.aload 0, .getfield 403, .iload 1, .iaload, .iload 2, .iconst (-1), .ixor] (by decide +kernel) ?_
  refine ⟨k, rfl, by omega, ?_⟩
  show pw_V x m_X4_freeSeats 2 Z 9 [(0, .ref 20), (1, .int (nI k)), (2, .int (nI us))] [.int ((nI us) ^^^ (-1)), .int (mm 21 k)] mm
  rw [show mm 21 k = nI (gd k) from (hs.2.2 k (by omega)).1.1]
  refine pw_blk (pc' := 10) [.iand] (by decide +kernel) ?_
  show pw_V x m_X4_freeSeats 2 Z 10 [(0, .ref 20), (1, .int (nI k)), (2, .int (nI us))] [.int ((nI (gd k)) &&& ((nI us) ^^^ (-1)))] mm
  rw [pw_anG]
  refine pw_blk (pc' := 14) [.istore 3, .iconst 0, .istore 4] (by decide +kernel) ?_
  show pw_V x m_X4_freeSeats 2 Z 14 [(4, .int (nI 0)), (3, .int (nI (pw_an (gd k) us))), (0, .ref 20), (1, .int (nI k)), (2, .int (nI us))] [] mm
  refine pw_lvp [2, 3, 4, 1, 0] rfl ?_
  exact loop 0 (by omega)
