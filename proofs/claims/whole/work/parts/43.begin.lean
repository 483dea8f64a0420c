def pw_bgI (A : pw_m) : Nat → pw_m
  | 0 => A
  | i + 1 => pw_up (pw_up (pw_bgI A i) 43 i (pw_bgI A i 8 i)) 44 i (nI 0)

def G_bg (A : pw_m) (k : Nat) : pw_m := pw_rsI (pw_bgI (pw_up (pw_up A 42 0 (nI 0)) 42 1 (nI (2 ^ k - 1))) 6) 6

set_option maxHeartbeats 4000000 in
set_option maxRecDepth 100000 in
theorem c_begin (mm : pw_m) (kx : Nat) (hk : mm 4 1 = nI kx) (hk6 : kx ≤ 6) : pw_Ct 1 yX0_begin m_X0_begin [.ref 42, .ref 4] mm (fun r' m' => r' = none ∧ m' = G_bg mm kx) := by
  refine pw_ct (by decide +kernel) rfl (Nat.le_of_ble_eq_true rfl) (fun x => ?_)
  generalize hZ : pw_Z x _ = Z
  have p2 : 0 < 2 ^ kx := Nat.two_pow_pos kx
  show pw_V x m_X0_begin 1 Z 0 [(0, .ref 42), (1, .ref 4)] [] mm
  refine pw_blk (pc' := 13) [.aload 0, .iconst 0, .putfield 0, .aload 0, .iconst 1, .aload 1, .getfield 501, .ishl, .iconst 1] (by decide +kernel) ?_
  show pw_V x m_X0_begin 1 Z 13 [(0, .ref 42), (1, .ref 4)] [.int (nI 1), .int ((nI 1) <<< ((mm 4 1) &&& 31)), .ref 42] (pw_up mm 42 0 (nI 0))
  rw [show mm 4 1 = nI kx from hk]
  rw [show (nI 1) <<< ((nI kx) &&& 31) = nI (2 ^ kx) from pw_shl1 (by omega)]
  refine pw_blk (pc' := 14) [.isub] (by decide +kernel) ?_
  show pw_V x m_X0_begin 1 Z 14 [(0, .ref 42), (1, .ref 4)] [.int (nI (2 ^ kx) - nI 1), .ref 42] (pw_up mm 42 0 (nI 0))
  rw [pk_sub (show 1 ≤ (2 ^ kx) by omega)]
  refine pw_blk (pc' := 19) [.putfield 1, .iconst 0, .istore 2] (by decide +kernel) ?_
  show pw_V x m_X0_begin 1 Z 19 [(2, .int (nI 0)), (0, .ref 42), (1, .ref 4)] [] (pw_up (pw_up mm 42 0 (nI 0)) 42 1 (nI ((2 ^ kx) - 1)))
  refine pw_lvp [1, 2, 0] rfl ?_
  suffices lo : ∀ ix : Nat, ix ≤ 6 → pw_V x m_X0_begin 1 Z 19 [(0, .ref 42), (1, .ref 4), (2, .int (nI ix))] [] (pw_bgI (pw_up (pw_up mm 42 0 (nI 0)) 42 1 (nI ((2 ^ kx) - 1))) ix) from lo 0 (by omega)
  refine pw_dn 6 (fun ix hix ih => ?_)
  refine pw_blk (pc' := 22) [.iload 2, .iconst (6)] (by decide +kernel) ?_
  show pw_V x m_X0_begin 1 Z 22 [(0, .ref 42), (1, .ref 4), (2, .int (nI ix))] [.int (nI 6), .int (nI ix)] (pw_bgI (pw_up (pw_up mm 42 0 (nI 0)) 42 1 (nI ((2 ^ kx) - 1))) ix)
  refine pw_in_ge (tgt := 50) (off := 28) (by omega) (by omega) (by decide +kernel) (by decide) (fun h22 => ?_) (fun h22 => ?_)
  · refine pw_blk (pc' := 51) [.aload 0] (by decide +kernel) ?_
    show pw_V x m_X0_begin 1 Z 51 [(0, .ref 42), (1, .ref 4), (2, .int (nI ix))] [.ref 42] (pw_bgI (pw_up (pw_up mm 42 0 (nI 0)) 42 1 (nI ((2 ^ kx) - 1))) ix)
    refine pw_cV (vs := []) (rest := []) k_X0_allRise (c_allRise (pw_bgI (pw_up (pw_up mm 42 0 (nI 0)) 42 1 (nI ((2 ^ kx) - 1))) ix)) l_0_34 rfl rfl rfl rfl (by omega) (Nat.le_of_ble_eq_true rfl) (by decide +kernel) ?_
    rintro _ m1 ⟨rfl, e1⟩
    rw [e1]
    clear e1 m1
    show pw_V x m_X0_begin 1 Z 54 [(0, .ref 42), (1, .ref 4), (2, .int (nI ix))] [] (pw_rsI (pw_bgI (pw_up (pw_up mm 42 0 (nI 0)) 42 1 (nI ((2 ^ kx) - 1))) ix) 6)
    rw [← hZ]
    refine pw_rv (by decide +kernel) ?_
    exact ⟨rfl, by unfold G_bg; rw [show ix = 6 by omega]⟩
  · refine pw_blk (pc' := 47) [.aload 0, .getfield 2, .iload 2, .aload 1, .getfield 505, .iload 2, .iaload, .iastore, .aload 0, .getfield 3, .iload 2, .iconst 0, .iastore, .iinc 2 1] (by decide +kernel) ?_
    refine ⟨ix, rfl, by omega, ?_⟩
    refine ⟨ix, rfl, by omega, ?_⟩
    refine ⟨ix, rfl, by omega, ?_⟩
    show pw_V x m_X0_begin 1 Z 47 [(2, .int ((nI ix) + (nI 1))), (0, .ref 42), (1, .ref 4)] [] (pw_up (pw_up (pw_bgI (pw_up (pw_up mm 42 0 (nI 0)) 42 1 (nI ((2 ^ kx) - 1))) ix) 43 ix ((pw_bgI (pw_up (pw_up mm 42 0 (nI 0)) 42 1 (nI ((2 ^ kx) - 1))) ix) 8 ix)) 44 ix (nI 0))
    rw [show (nI ix) + (nI 1) = nI (ix + 1) from nI_add _ _]
    refine pw_goto (tgt := 19) (off := -28) (by decide +kernel) (by decide) ?_
    refine pw_lvp [1, 2, 0] rfl ?_
    exact ih (by omega)
