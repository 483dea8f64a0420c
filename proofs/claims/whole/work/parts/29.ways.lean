def pw_sumS (p : Nat → Bool) (f : Nat → Nat) : Nat → Nat
  | 0 => 0
  | s + 1 => pw_sumS p f s + (if p s then f s else 0)
/-- how many seatings go on so; f knights are left -/
def pw_wy (n kn th : Nat) (gd en : Nat → Nat) : Nat → (Nat → Nat) → Nat → Nat
  | 0, _, _ => 1
  | f + 1, pl, us => if th.testBit (kn - (f + 1)) = true then pw_sumS (fun s => (pw_frI n th (gd (kn - (f + 1))) (en (kn - (f + 1))) pl us (kn - (f + 1))).testBit s) (fun s => pw_wy n kn th gd en f (pw_ns pl (kn - (f + 1)) s) (us ||| 2 ^ s)) n else pw_wy n kn th gd en f pl us
theorem pw_ct_up {b n m : Nat} (h : b < 2 ^ n) (hm : n ≤ m) : pw_ct_ (fun i => b.testBit i) m = pw_ct_ (fun i => b.testBit i) n := by
  induction m with
  | zero => have : n = 0 := by omega
            subst this; rfl
  | succ m ih =>
    rcases Nat.lt_or_ge m n with q | q
    · have : n = m + 1 := by omega
      subst this; rfl
    · simp only [pw_ct_]
      simp [ih q, Nat.testBit_lt_two_pow (Nat.lt_of_lt_of_le h (Nat.pow_le_pow_right (by omega) q))]
theorem pw_sum1 {p : Nat → Bool} {n : Nat} : pw_sumS p (fun _ => 1) n = pw_ct_ p n := by
  induction n with
  | zero => rfl
  | succ n ih => simp only [pw_sumS, pw_ct_, ih]
theorem pw_wyS {n kn th f k : Nat} {gd en pl : Nat → Nat} {us : Nat} (hk : k + (f + 1) = kn) (ht : th.testBit k = true) : pw_wy n kn th gd en (f + 1) pl us = pw_sumS (fun s => (pw_frI n th (gd k) (en k) pl us k).testBit s) (fun s => pw_wy n kn th gd en f (pw_ns pl k s) (us ||| 2 ^ s)) n := by
  have e : kn - (f + 1) = k := by omega
  simp only [pw_wy, e, if_pos ht]
theorem pw_wyN {n kn th f k : Nat} {gd en pl : Nat → Nat} {us : Nat} (hk : k + (f + 1) = kn) (ht : th.testBit k = false) : pw_wy n kn th gd en (f + 1) pl us = pw_wy n kn th gd en f pl us := by
  have e : kn - (f + 1) = k := by omega
  simp only [pw_wy, e, ht]
  rfl

set_option maxHeartbeats 8000000 in
set_option maxRecDepth 100000 in
theorem c_waysFrom {n kn th : Nat} {gd en : Nat → Nat} : ∀ (f k : Nat), k + f = kn → ∀ (pl : Nat → Nat) (us : Nat) (mm : pw_m), pw_SC mm n kn th gd en → pw_PL mm n th pl k → pw_Ct (3 + f) yX4_waysFrom m_X4_waysFrom [.ref 20, .int (nI k), .int (nI us)] mm (fun r m' => r = some (.int (nI (pw_wy n kn th gd en f pl us))) ∧ (∀ c, c ≠ 23 → m' c = mm c) ∧ ∀ j, j < k → m' 23 j = mm 23 j) := by
  intro f
  induction f with
  | zero =>
    intro k hkf pl us mm hs hp
    obtain ⟨bn, bk, bt⟩ := hs.1
    refine pw_ct (by decide +kernel) rfl (Nat.le_of_ble_eq_true rfl) (fun x => ?_)
    generalize hZ : pw_Z x _ = Z
    show pw_V x m_X4_waysFrom (3 + 0) Z 0 [(0, .ref 20), (1, .int (nI k)), (2, .int (nI us))] [] mm
    refine pw_blk (pc' := 5) [.iload 1, .aload 0, .getfield 401] (by decide +kernel) ?_
    show pw_V x m_X4_waysFrom (3 + 0) Z 5 [(0, .ref 20), (1, .int (nI k)), (2, .int (nI us))] [.int (mm 20 1), .int (nI k)] mm
    rw [show mm 20 1 = nI kn from hs.2.1.2.1]
    refine pw_in_lt (tgt := 10) (off := 5) (by omega) (by omega) (by decide +kernel) (by decide) (fun h5 => ?_) (fun h5 => ?_)
    · omega
    · refine pw_blk (pc' := 9) [.iconst 1] (by decide +kernel) ?_
      show pw_V x m_X4_waysFrom (3 + 0) Z 9 [(0, .ref 20), (1, .int (nI k)), (2, .int (nI us))] [.int (nI 1)] mm
      rw [← hZ]
      refine pw_ri (by decide +kernel) ?_
      exact ⟨rfl, fun _ _ => rfl, fun _ _ => rfl⟩
  | succ f ih =>
    intro k hkf pl us mm hs hp
    obtain ⟨bn, bk, bt⟩ := hs.1
    refine pw_ct (by decide +kernel) rfl (Nat.le_of_ble_eq_true rfl) (fun x => ?_)
    generalize hZ : pw_Z x _ = Z
    show pw_V x m_X4_waysFrom (3 + (f + 1)) Z 0 [(0, .ref 20), (1, .int (nI k)), (2, .int (nI us))] [] mm
    refine pw_blk (pc' := 5) [.iload 1, .aload 0, .getfield 401] (by decide +kernel) ?_
    show pw_V x m_X4_waysFrom (3 + (f + 1)) Z 5 [(0, .ref 20), (1, .int (nI k)), (2, .int (nI us))] [.int (mm 20 1), .int (nI k)] mm
    rw [show mm 20 1 = nI kn from hs.2.1.2.1]
    refine pw_in_lt (tgt := 10) (off := 5) (by omega) (by omega) (by decide +kernel) (by decide) (fun h5 => ?_) (fun h5 => ?_)
    · refine pw_blk (pc' := 15) [.aload 0, .getfield 402, .iload 1] (by decide +kernel) ?_
      show pw_V x m_X4_waysFrom (3 + (f + 1)) Z 15 [(0, .ref 20), (1, .int (nI k)), (2, .int (nI us))] [.int (nI k), .int (mm 20 2)] mm
      rw [show mm 20 2 = nI th from hs.2.1.2.2]
      refine pw_cN (idx := 63) (vs := [.int (nI th), .int (nI k)]) (rest := []) (host := RX7) k_X7_has (c_has (nI th) (nI k) mm) (by decide +kernel) rfl (by omega) (Nat.le_of_ble_eq_true rfl) (by decide +kernel) ?_
      rintro _ m1 ⟨rfl, e1⟩
      rw [e1]
      clear e1 m1
      show pw_V x m_X4_waysFrom (3 + (f + 1)) Z 18 [(0, .ref 20), (1, .int (nI k)), (2, .int (nI us))] [.int (pw_b (pw_hs (nI th) (nI k)))] mm
      rw [pw_hs_n (by omega) (by omega)]
      refine pw_ib_ne (tgt := 30) (off := 12) (by decide +kernel) (by decide) (fun h18 => ?_) (fun h18 => ?_)
      · refine pw_blk (pc' := 33) [.aload 0, .iload 1, .iload 2] (by decide +kernel) ?_
        show pw_V x m_X4_waysFrom (3 + (f + 1)) Z 33 [(0, .ref 20), (1, .int (nI k)), (2, .int (nI us))] [.int (nI us), .int (nI k), .ref 20] mm
        refine pw_cV (vs := [.int (nI k), .int (nI us)]) (rest := []) k_X4_freeSeats (c_freeSeats k us pl mm hs (by omega) hp) l_4_66 rfl rfl rfl rfl (by omega) (Nat.le_of_ble_eq_true rfl) (by decide +kernel) ?_
        rintro _ m1 ⟨rfl, e1⟩
        rw [e1]
        clear e1 m1
        show pw_V x m_X4_waysFrom (3 + (f + 1)) Z 36 [(0, .ref 20), (1, .int (nI k)), (2, .int (nI us))] [.int (nI (pw_frI n th (gd k) (en k) pl us k))] mm
        refine pw_blk (pc' := 37) [.istore 3] (by decide +kernel) ?_
        show pw_V x m_X4_waysFrom (3 + (f + 1)) Z 37 [(3, .int (nI (pw_frI n th (gd k) (en k) pl us k))), (0, .ref 20), (1, .int (nI k)), (2, .int (nI us))] [] mm
        have bf : (pw_frI n th (gd k) (en k) pl us k) < 2 ^ n := pw_frI_lt (hs.2.2 k (by omega)).1.2
        have bf8 := pw_p8 bn bf
        refine pw_blk (pc' := 43) [.iload 1, .aload 0, .getfield 401, .iconst 1] (by decide +kernel) ?_
        show pw_V x m_X4_waysFrom (3 + (f + 1)) Z 43 [(3, .int (nI (pw_frI n th (gd k) (en k) pl us k))), (0, .ref 20), (1, .int (nI k)), (2, .int (nI us))] [.int (nI 1), .int (mm 20 1), .int (nI k)] mm
        rw [show mm 20 1 = nI kn from hs.2.1.2.1]
        refine pw_blk (pc' := 44) [.isub] (by decide +kernel) ?_
        show pw_V x m_X4_waysFrom (3 + (f + 1)) Z 44 [(3, .int (nI (pw_frI n th (gd k) (en k) pl us k))), (0, .ref 20), (1, .int (nI k)), (2, .int (nI us))] [.int (nI kn - nI 1), .int (nI k)] mm
        rw [pk_sub (show 1 ≤ kn by omega)]
        refine pw_in_ne (tgt := 52) (off := 8) (by omega) (by omega) (by decide +kernel) (by decide) (fun h44 => ?_) (fun h44 => ?_)
        · refine pw_blk (pc' := 58) [.iconst 0, .istore 4, .iconst 0, .istore 5] (by decide +kernel) ?_
          show pw_V x m_X4_waysFrom (3 + (f + 1)) Z 58 [(5, .int (nI 0)), (4, .int (nI 0)), (3, .int (nI (pw_frI n th (gd k) (en k) pl us k))), (0, .ref 20), (1, .int (nI k)), (2, .int (nI us))] [] mm
          refine pw_lvp [3, 4, 5, 2, 1, 0] rfl ?_
          suffices loop : ∀ s : Nat, s ≤ n → ∀ m : pw_m, (∀ c, c ≠ 23 → m c = mm c) → (∀ j, j < k → m 23 j = mm 23 j) → pw_V x m_X4_waysFrom (3 + (f + 1)) Z 58 [(0, .ref 20), (1, .int (nI k)), (2, .int (nI us)), (3, .int (nI (pw_frI n th (gd k) (en k) pl us k))), (4, .int (nI (pw_sumS (fun s => (pw_frI n th (gd k) (en k) pl us k).testBit s) (fun s => pw_wy n kn th gd en f (pw_ns pl k s) (us ||| 2 ^ s)) s))), (5, .int (nI s))] [] m from loop 0 (by omega) mm (fun _ _ => rfl) (fun _ _ => rfl)
          refine pw_dn n (fun s hsn ih2 m hm hpm => ?_)
          have hsm := hs.c hm
          refine pw_blk (pc' := 64) [.iload 5, .aload 0, .getfield 400] (by decide +kernel) ?_
          show pw_V x m_X4_waysFrom (3 + (f + 1)) Z 64 [(0, .ref 20), (1, .int (nI k)), (2, .int (nI us)), (3, .int (nI (pw_frI n th (gd k) (en k) pl us k))), (4, .int (nI (pw_sumS (fun s => (pw_frI n th (gd k) (en k) pl us k).testBit s) (fun s => pw_wy n kn th gd en f (pw_ns pl k s) (us ||| 2 ^ s)) s))), (5, .int (nI s))] [.int (m 20 0), .int (nI s)] m
          rw [show m 20 0 = nI n from hsm.2.1.1]
          refine pw_in_ge (tgt := 108) (off := 44) (by omega) (by omega) (by decide +kernel) (by decide) (fun h64 => ?_) (fun h64 => ?_)
          · refine pw_blk (pc' := 110) [.iload 4] (by decide +kernel) ?_
            show pw_V x m_X4_waysFrom (3 + (f + 1)) Z 110 [(0, .ref 20), (1, .int (nI k)), (2, .int (nI us)), (3, .int (nI (pw_frI n th (gd k) (en k) pl us k))), (4, .int (nI (pw_sumS (fun s => (pw_frI n th (gd k) (en k) pl us k).testBit s) (fun s => pw_wy n kn th gd en f (pw_ns pl k s) (us ||| 2 ^ s)) s))), (5, .int (nI s))] [.int (nI (pw_sumS (fun s => (pw_frI n th (gd k) (en k) pl us k).testBit s) (fun s => pw_wy n kn th gd en f (pw_ns pl k s) (us ||| 2 ^ s)) s))] m
            rw [← hZ]
            refine pw_ri (by decide +kernel) ?_
            refine ⟨?_, hm, hpm⟩
            have e : s = n := by omega
            subst e
            rw [pw_wyS hkf h18]
          · refine pw_blk (pc' := 70) [.iload 3, .iload 5] (by decide +kernel) ?_
            show pw_V x m_X4_waysFrom (3 + (f + 1)) Z 70 [(0, .ref 20), (1, .int (nI k)), (2, .int (nI us)), (3, .int (nI (pw_frI n th (gd k) (en k) pl us k))), (4, .int (nI (pw_sumS (fun s => (pw_frI n th (gd k) (en k) pl us k).testBit s) (fun s => pw_wy n kn th gd en f (pw_ns pl k s) (us ||| 2 ^ s)) s))), (5, .int (nI s))] [.int (nI s), .int (nI (pw_frI n th (gd k) (en k) pl us k))] m
            refine pw_cN (idx := 63) (vs := [.int (nI (pw_frI n th (gd k) (en k) pl us k)), .int (nI s)]) (rest := []) (host := RX7) k_X7_has (c_has (nI (pw_frI n th (gd k) (en k) pl us k)) (nI s) m) (by decide +kernel) rfl (by omega) (Nat.le_of_ble_eq_true rfl) (by decide +kernel) ?_
            rintro _ m1 ⟨rfl, e1⟩
            rw [e1]
            clear e1 m1
            show pw_V x m_X4_waysFrom (3 + (f + 1)) Z 73 [(0, .ref 20), (1, .int (nI k)), (2, .int (nI us)), (3, .int (nI (pw_frI n th (gd k) (en k) pl us k))), (4, .int (nI (pw_sumS (fun s => (pw_frI n th (gd k) (en k) pl us k).testBit s) (fun s => pw_wy n kn th gd en f (pw_ns pl k s) (us ||| 2 ^ s)) s))), (5, .int (nI s))] [.int (pw_b (pw_hs (nI (pw_frI n th (gd k) (en k) pl us k)) (nI s)))] m
            rw [pw_hs_n (by omega) (by omega)]
            refine pw_ib_eq (tgt := 102) (off := 29) (by decide +kernel) (by decide) (fun h73 => ?_) (fun h73 => ?_)
            · refine pw_blk (pc' := 105) [.iinc 5 1] (by decide +kernel) ?_
              show pw_V x m_X4_waysFrom (3 + (f + 1)) Z 105 [(5, .int ((nI s) + (nI 1))), (0, .ref 20), (1, .int (nI k)), (2, .int (nI us)), (3, .int (nI (pw_frI n th (gd k) (en k) pl us k))), (4, .int (nI (pw_sumS (fun s => (pw_frI n th (gd k) (en k) pl us k).testBit s) (fun s => pw_wy n kn th gd en f (pw_ns pl k s) (us ||| 2 ^ s)) s)))] [] m
              rw [show (nI s) + (nI 1) = nI (s + 1) from nI_add _ _]
              refine pw_goto (tgt := 58) (off := -47) (by decide +kernel) (by decide) ?_
              rw [show (pw_sumS (fun s => (pw_frI n th (gd k) (en k) pl us k).testBit s) (fun s => pw_wy n kn th gd en f (pw_ns pl k s) (us ||| 2 ^ s)) s) = (pw_sumS (fun s => (pw_frI n th (gd k) (en k) pl us k).testBit s) (fun s => pw_wy n kn th gd en f (pw_ns pl k s) (us ||| 2 ^ s)) (s + 1)) from by simp [pw_sumS, h73]]
              refine pw_lvp [1, 2, 3, 4, 5, 0] rfl ?_
              exact ih2 (by omega) m hm hpm
            · refine pw_blk (pc' := 96) [.aload 0, .getfield 405, .iload 1, .iload 5, .iastore, .iload 4, .aload 0, .iload 1, .iconst 1, .iadd, .iload 2, .iconst 1, .iload 5, .ishl, .ior] (by decide +kernel) ?_
              refine ⟨k, rfl, by omega, ?_⟩
              show pw_V x m_X4_waysFrom (3 + (f + 1)) Z 96 [(0, .ref 20), (1, .int (nI k)), (2, .int (nI us)), (3, .int (nI (pw_frI n th (gd k) (en k) pl us k))), (4, .int (nI (pw_sumS (fun s => (pw_frI n th (gd k) (en k) pl us k).testBit s) (fun s => pw_wy n kn th gd en f (pw_ns pl k s) (us ||| 2 ^ s)) s))), (5, .int (nI s))] [.int ((nI us) ||| ((nI 1) <<< ((nI s) &&& 31))), .int ((nI k) + (nI 1)), .ref 20, .int (nI (pw_sumS (fun s => (pw_frI n th (gd k) (en k) pl us k).testBit s) (fun s => pw_wy n kn th gd en f (pw_ns pl k s) (us ||| 2 ^ s)) s))] (pw_up m 23 k (nI s))
              rw [show (nI 1) <<< ((nI s) &&& 31) = nI (2 ^ s) from pw_shl1 (by omega)]
              rw [show (nI us) ||| (nI (2 ^ s)) = nI (us ||| (2 ^ s)) from fa_or _ _]
              rw [show (nI k) + (nI 1) = nI (k + 1) from nI_add _ _]
              refine pw_cV (vs := [.int (nI (k + 1)), .int (nI (us ||| (2 ^ s)))]) (rest := [.int (nI (pw_sumS (fun s => (pw_frI n th (gd k) (en k) pl us k).testBit s) (fun s => pw_wy n kn th gd en f (pw_ns pl k s) (us ||| 2 ^ s)) s))]) k_X4_waysFrom (ih (k + 1) (by omega) (pw_ns pl k s) (us ||| 2 ^ s) (pw_up m 23 k (nI s)) (hsm.c (fun c hc => pw_up_ne hc)) ((hp.c hpm).put (by omega))) l_4_24 rfl rfl rfl rfl (by omega) (Nat.le_of_ble_eq_true rfl) (by decide +kernel) ?_
              rintro _ m1 ⟨rfl, e1, e2⟩
              show pw_V x m_X4_waysFrom (3 + (f + 1)) Z 99 [(0, .ref 20), (1, .int (nI k)), (2, .int (nI us)), (3, .int (nI (pw_frI n th (gd k) (en k) pl us k))), (4, .int (nI (pw_sumS (fun s => (pw_frI n th (gd k) (en k) pl us k).testBit s) (fun s => pw_wy n kn th gd en f (pw_ns pl k s) (us ||| 2 ^ s)) s))), (5, .int (nI s))] [.int (nI (pw_wy n kn th gd en f (pw_ns pl k s) (us ||| (2 ^ s)))), .int (nI (pw_sumS (fun s => (pw_frI n th (gd k) (en k) pl us k).testBit s) (fun s => pw_wy n kn th gd en f (pw_ns pl k s) (us ||| 2 ^ s)) s))] m1
              refine pw_blk (pc' := 105) [.iadd, .istore 4, .iinc 5 1] (by decide +kernel) ?_
              show pw_V x m_X4_waysFrom (3 + (f + 1)) Z 105 [(5, .int ((nI s) + (nI 1))), (4, .int ((nI (pw_sumS (fun s => (pw_frI n th (gd k) (en k) pl us k).testBit s) (fun s => pw_wy n kn th gd en f (pw_ns pl k s) (us ||| 2 ^ s)) s)) + (nI (pw_wy n kn th gd en f (pw_ns pl k s) (us ||| (2 ^ s)))))), (0, .ref 20), (1, .int (nI k)), (2, .int (nI us)), (3, .int (nI (pw_frI n th (gd k) (en k) pl us k)))] [] m1
              rw [show (nI s) + (nI 1) = nI (s + 1) from nI_add _ _]
              rw [show (nI (pw_sumS (fun s => (pw_frI n th (gd k) (en k) pl us k).testBit s) (fun s => pw_wy n kn th gd en f (pw_ns pl k s) (us ||| 2 ^ s)) s)) + (nI (pw_wy n kn th gd en f (pw_ns pl k s) (us ||| (2 ^ s)))) = nI ((pw_sumS (fun s => (pw_frI n th (gd k) (en k) pl us k).testBit s) (fun s => pw_wy n kn th gd en f (pw_ns pl k s) (us ||| 2 ^ s)) s) + (pw_wy n kn th gd en f (pw_ns pl k s) (us ||| (2 ^ s)))) from nI_add _ _]
              refine pw_goto (tgt := 58) (off := -47) (by decide +kernel) (by decide) ?_
              rw [show ((pw_sumS (fun s => (pw_frI n th (gd k) (en k) pl us k).testBit s) (fun s => pw_wy n kn th gd en f (pw_ns pl k s) (us ||| 2 ^ s)) s) + (pw_wy n kn th gd en f (pw_ns pl k s) (us ||| (2 ^ s)))) = (pw_sumS (fun s => (pw_frI n th (gd k) (en k) pl us k).testBit s) (fun s => pw_wy n kn th gd en f (pw_ns pl k s) (us ||| 2 ^ s)) (s + 1)) from by simp [pw_sumS, h73]]
              refine pw_lvp [2, 3, 4, 5, 1, 0] rfl ?_
              exact ih2 (by omega) m1 (fun c hc => by rw [e1 c hc, pw_up_ne hc]; exact hm c hc) (fun j hj => by rw [e2 j (by omega), pw_up_eq]; unfold upd; rw [if_neg (by omega)]; exact hpm j hj)
        · refine pw_blk (pc' := 48) [.iload 3] (by decide +kernel) ?_
          show pw_V x m_X4_waysFrom (3 + (f + 1)) Z 48 [(3, .int (nI (pw_frI n th (gd k) (en k) pl us k))), (0, .ref 20), (1, .int (nI k)), (2, .int (nI us))] [.int (nI (pw_frI n th (gd k) (en k) pl us k))] mm
          refine pw_cS (vs := [.int (nI (pw_frI n th (gd k) (en k) pl us k))]) (rest := []) k_J6_bitCount_0f7a4 (c_bitCount (nI (pw_frI n th (gd k) (en k) pl us k)) mm) l_4_43 rfl (by omega) (Nat.le_of_ble_eq_true rfl) (by decide +kernel) ?_
          rintro _ m1 ⟨rfl, e1⟩
          rw [e1]
          clear e1 m1
          show pw_V x m_X4_waysFrom (3 + (f + 1)) Z 51 [(3, .int (nI (pw_frI n th (gd k) (en k) pl us k))), (0, .ref 20), (1, .int (nI k)), (2, .int (nI us))] [.int (pw_bc (nI (pw_frI n th (gd k) (en k) pl us k)))] mm
          rw [pw_bcN _ (by omega)]
          rw [← hZ]
          refine pw_ri (by decide +kernel) ?_
          refine ⟨?_, fun _ _ => rfl, fun _ _ => rfl⟩
          have ef : f = 0 := by omega
          subst ef
          rw [pw_wyS hkf h18]
          have e9 : pw_pc (pw_frI n th (gd k) (en k) pl us k) = pw_ct_ (fun i => (pw_frI n th (gd k) (en k) pl us k).testBit i) n := pw_ct_up bf bn
          rw [e9, ← pw_sum1]
          rfl
      · refine pw_blk (pc' := 26) [.aload 0, .iload 1, .iconst 1, .iadd, .iload 2] (by decide +kernel) ?_
        show pw_V x m_X4_waysFrom (3 + (f + 1)) Z 26 [(0, .ref 20), (1, .int (nI k)), (2, .int (nI us))] [.int (nI us), .int ((nI k) + (nI 1)), .ref 20] mm
        rw [show (nI k) + (nI 1) = nI (k + 1) from nI_add _ _]
        refine pw_cV (vs := [.int (nI (k + 1)), .int (nI us)]) (rest := []) k_X4_waysFrom (ih (k + 1) (by omega) pl us mm hs (hp.skip h18)) l_4_24 rfl rfl rfl rfl (by omega) (Nat.le_of_ble_eq_true rfl) (by decide +kernel) ?_
        rintro _ m1 ⟨rfl, e1, e2⟩
        show pw_V x m_X4_waysFrom (3 + (f + 1)) Z 29 [(0, .ref 20), (1, .int (nI k)), (2, .int (nI us))] [.int (nI (pw_wy n kn th gd en f pl us))] m1
        rw [← hZ]
        refine pw_ri (by decide +kernel) ?_
        refine ⟨?_, e1, fun j hj => e2 j (by omega)⟩
        rw [pw_wyN hkf h18]
    · omega
