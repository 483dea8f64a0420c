def G_ns (A : pw_m) (s : Nat) (q v : Int32) : pw_m := pw_up (pw_up A 5 s q) 6 s v
def G_ak (A : pw_m) (k : Nat) (q r h : Int32) : pw_m := pw_up (pw_up (pw_up (pw_up A 7 k q) 8 k r) 9 k h) 4 1 (nI (k + 1))

set_option maxHeartbeats 4000000 in
set_option maxRecDepth 100000 in
theorem c_addKnight (q r h : Int32) (mm : pw_m) (kx : Nat) (hk : mm 4 1 = nI kx) (hk6 : kx < 6) : pw_Ct 0 yX5_addKnight m_X5_addKnight [.ref 4, .int q, .int r, .int h] mm (fun r' m' => r' = none ∧ m' = G_ak mm kx q r h) := by
  refine pw_ct (by decide +kernel) rfl (Nat.le_of_ble_eq_true rfl) (fun x => ?_)
  generalize hZ : pw_Z x _ = Z
  show pw_V x m_X5_addKnight 0 Z 0 [(0, .ref 4), (1, .int q), (2, .int r), (3, .int h)] [] mm
  refine pw_blk (pc' := 6) [.aload 0, .getfield 501, .iconst (6)] (by decide +kernel) ?_
  show pw_V x m_X5_addKnight 0 Z 6 [(0, .ref 4), (1, .int q), (2, .int r), (3, .int h)] [.int (nI 6), .int (mm 4 1)] mm
  rw [show mm 4 1 = nI kx from hk]
  refine pw_in_ge (tgt := 49) (off := 43) (by omega) (by omega) (by decide +kernel) (by decide) (fun h6 => ?_) (fun h6 => ?_)
  · omega
  · refine pw_blk (pc' := 49) [.aload 0, .getfield 504, .aload 0, .getfield 501, .iload 1, .iastore, .aload 0, .getfield 505, .aload 0, .getfield 501, .iload 2, .iastore, .aload 0, .getfield 506, .aload 0, .getfield 501, .iload 3, .iastore, .aload 0, .dup, .getfield 501, .iconst 1, .iadd, .putfield 501] (by decide +kernel) ?_
    refine ⟨kx, (show mm 4 1 = nI kx from by rw [show mm 4 1 = nI kx from hk]), by omega, ?_⟩
    refine ⟨kx, (show mm 4 1 = nI kx from by rw [show mm 4 1 = nI kx from hk]), by omega, ?_⟩
    refine ⟨kx, (show mm 4 1 = nI kx from by rw [show mm 4 1 = nI kx from hk]), by omega, ?_⟩
    show pw_V x m_X5_addKnight 0 Z 49 [(0, .ref 4), (1, .int q), (2, .int r), (3, .int h)] [] (pw_up (pw_up (pw_up (pw_up mm 7 kx q) 8 kx r) 9 kx h) 4 1 ((mm 4 1) + (nI 1)))
    rw [show mm 4 1 = nI kx from hk]
    rw [show (nI kx) + (nI 1) = nI (kx + 1) from nI_add _ _]
    rw [← hZ]
    refine pw_rv (by decide +kernel) ?_
    exact ⟨rfl, rfl⟩

set_option maxHeartbeats 4000000 in
set_option maxRecDepth 100000 in
theorem c_nameSeat (sx : Nat) (q v : Int32) (mm : pw_m) (nx : Nat) (hn : mm 4 0 = nI nx) (hn8 : nx ≤ 8) (hs : sx < nx) : pw_Ct 0 yX5_nameSeat m_X5_nameSeat [.ref 4, .int (nI sx), .int q, .int v] mm (fun r' m' => r' = none ∧ m' = G_ns mm sx q v) := by
  refine pw_ct (by decide +kernel) rfl (Nat.le_of_ble_eq_true rfl) (fun x => ?_)
  generalize hZ : pw_Z x _ = Z
  show pw_V x m_X5_nameSeat 0 Z 0 [(0, .ref 4), (1, .int (nI sx)), (2, .int q), (3, .int v)] [] mm
  refine pw_blk (pc' := 1) [.iload 1] (by decide +kernel) ?_
  show pw_V x m_X5_nameSeat 0 Z 1 [(0, .ref 4), (1, .int (nI sx)), (2, .int q), (3, .int v)] [.int (nI sx)] mm
  refine pw_iz_lt (tgt := 26) (off := 25) (by omega) (by decide +kernel) (by decide) ?_
  refine pw_blk (pc' := 9) [.iload 1, .aload 0, .getfield 500] (by decide +kernel) ?_
  show pw_V x m_X5_nameSeat 0 Z 9 [(0, .ref 4), (1, .int (nI sx)), (2, .int q), (3, .int v)] [.int (mm 4 0), .int (nI sx)] mm
  rw [show mm 4 0 = nI nx from hn]
  refine pw_in_ge (tgt := 26) (off := 17) (by omega) (by omega) (by decide +kernel) (by decide) (fun h9 => ?_) (fun h9 => ?_)
  · omega
  · refine pw_blk (pc' := 26) [.aload 0, .getfield 502, .iload 1, .iload 2, .iastore, .aload 0, .getfield 503, .iload 1, .iload 3, .iastore] (by decide +kernel) ?_
    refine ⟨sx, rfl, by omega, ?_⟩
    refine ⟨sx, rfl, by omega, ?_⟩
    show pw_V x m_X5_nameSeat 0 Z 26 [(0, .ref 4), (1, .int (nI sx)), (2, .int q), (3, .int v)] [] (pw_up (pw_up mm 5 sx q) 6 sx v)
    rw [← hZ]
    refine pw_rv (by decide +kernel) ?_
    exact ⟨rfl, rfl⟩

def pw_zI (A : pw_m) (c : Nat) : Nat → pw_m
  | 0 => A
  | i + 1 => pw_up (pw_zI A c i) c i (nI 0)
def pw_zJ (A : pw_m) : Nat → pw_m
  | 0 => A
  | i + 1 => pw_up (pw_up (pw_zJ A i) 5 i (nI 0)) 6 i (nI 0)

set_option maxHeartbeats 4000000 in
set_option maxRecDepth 100000 in
theorem c_makePeace (mm : pw_m) : pw_Ct 0 yX5_makePeace m_X5_makePeace [.ref 4] mm (fun r' m' => r' = none ∧ m' = pw_zI mm 10 6) := by
  refine pw_ct (by decide +kernel) rfl (Nat.le_of_ble_eq_true rfl) (fun x => ?_)
  generalize hZ : pw_Z x _ = Z
  show pw_V x m_X5_makePeace 0 Z 0 [(0, .ref 4)] [] mm
  refine pw_blk (pc' := 2) [.iconst 0, .istore 1] (by decide +kernel) ?_
  show pw_V x m_X5_makePeace 0 Z 2 [(1, .int (nI 0)), (0, .ref 4)] [] mm
  refine pw_lvp [1, 0] rfl ?_
  suffices lo : ∀ ix : Nat, ix ≤ 6 → pw_V x m_X5_makePeace 0 Z 2 [(0, .ref 4), (1, .int (nI ix))] [] (pw_zI mm 10 ix) from lo 0 (by omega)
  refine pw_dn 6 (fun ix hix ih => ?_)
  refine pw_blk (pc' := 5) [.iload 1, .iconst (6)] (by decide +kernel) ?_
  show pw_V x m_X5_makePeace 0 Z 5 [(0, .ref 4), (1, .int (nI ix))] [.int (nI 6), .int (nI ix)] (pw_zI mm 10 ix)
  refine pw_in_ge (tgt := 21) (off := 16) (by omega) (by omega) (by decide +kernel) (by decide) (fun h5 => ?_) (fun h5 => ?_)
  · rw [← hZ]
    refine pw_rv (by decide +kernel) ?_
    exact ⟨rfl, by rw [show ix = 6 by omega]⟩
  · refine pw_blk (pc' := 18) [.aload 0, .getfield 507, .iload 1, .iconst 0, .iastore, .iinc 1 1] (by decide +kernel) ?_
    refine ⟨ix, rfl, by omega, ?_⟩
    show pw_V x m_X5_makePeace 0 Z 18 [(1, .int ((nI ix) + (nI 1))), (0, .ref 4)] [] (pw_up (pw_zI mm 10 ix) 10 ix (nI 0))
    rw [show (nI ix) + (nI 1) = nI (ix + 1) from nI_add _ _]
    refine pw_goto (tgt := 2) (off := -16) (by decide +kernel) (by decide) ?_
    refine pw_lvp [1, 0] rfl ?_
    exact ih (by omega)

def G_lay (A : pw_m) (n : Int32) : pw_m := pw_up (pw_up (pw_up (pw_zI (pw_zJ (pw_up (pw_up A 4 0 n) 4 1 (nI 0)) 8) 10 6) 4 8 (nI 0)) 4 9 (nI 0)) 4 10 (-1)

set_option maxHeartbeats 4000000 in
set_option maxRecDepth 100000 in
theorem c_layTable (nn : Int32) (mm : pw_m) : pw_Ct 1 yX5_layTable m_X5_layTable [.ref 4, .int nn] mm (fun r' m' => r' = none ∧ m' = G_lay mm nn) := by
  refine pw_ct (by decide +kernel) rfl (Nat.le_of_ble_eq_true rfl) (fun x => ?_)
  generalize hZ : pw_Z x _ = Z
  show pw_V x m_X5_layTable 1 Z 0 [(0, .ref 4), (1, .int nn)] [] mm
  refine pw_blk (pc' := 12) [.aload 0, .iload 1, .putfield 500, .aload 0, .iconst 0, .putfield 501, .iconst 0, .istore 2] (by decide +kernel) ?_
  show pw_V x m_X5_layTable 1 Z 12 [(2, .int (nI 0)), (0, .ref 4), (1, .int nn)] [] (pw_up (pw_up mm 4 0 nn) 4 1 (nI 0))
  refine pw_lvp [1, 2, 0] rfl ?_
  suffices lo : ∀ ix : Nat, ix ≤ 8 → pw_V x m_X5_layTable 1 Z 12 [(0, .ref 4), (1, .int nn), (2, .int (nI ix))] [] (pw_zJ (pw_up (pw_up mm 4 0 nn) 4 1 (nI 0)) ix) from lo 0 (by omega)
  refine pw_dn 8 (fun ix hix ih => ?_)
  refine pw_blk (pc' := 15) [.iload 2, .iconst (8)] (by decide +kernel) ?_
  show pw_V x m_X5_layTable 1 Z 15 [(0, .ref 4), (1, .int nn), (2, .int (nI ix))] [.int (nI 8), .int (nI ix)] (pw_zJ (pw_up (pw_up mm 4 0 nn) 4 1 (nI 0)) ix)
  refine pw_in_ge (tgt := 38) (off := 23) (by omega) (by omega) (by decide +kernel) (by decide) (fun h15 => ?_) (fun h15 => ?_)
  · refine pw_blk (pc' := 39) [.aload 0] (by decide +kernel) ?_
    show pw_V x m_X5_layTable 1 Z 39 [(0, .ref 4), (1, .int nn), (2, .int (nI ix))] [.ref 4] (pw_zJ (pw_up (pw_up mm 4 0 nn) 4 1 (nI 0)) ix)
    refine pw_cV (vs := []) (rest := []) k_X5_makePeace (c_makePeace (pw_zJ (pw_up (pw_up mm 4 0 nn) 4 1 (nI 0)) ix)) l_5_55 rfl rfl rfl rfl (by omega) (Nat.le_of_ble_eq_true rfl) (by decide +kernel) ?_
    rintro _ m1 ⟨rfl, e1⟩
    rw [e1]
    clear e1 m1
    show pw_V x m_X5_layTable 1 Z 42 [(0, .ref 4), (1, .int nn), (2, .int (nI ix))] [] (pw_zI (pw_zJ (pw_up (pw_up mm 4 0 nn) 4 1 (nI 0)) ix) 10 6)
    refine pw_blk (pc' := 57) [.aload 0, .iconst 0, .putfield 508, .aload 0, .iconst 0, .putfield 509, .aload 0, .iconst (-1), .putfield 510] (by decide +kernel) ?_
    show pw_V x m_X5_layTable 1 Z 57 [(0, .ref 4), (1, .int nn), (2, .int (nI ix))] [] (pw_up (pw_up (pw_up (pw_zI (pw_zJ (pw_up (pw_up mm 4 0 nn) 4 1 (nI 0)) ix) 10 6) 4 8 (nI 0)) 4 9 (nI 0)) 4 10 (-1))
    rw [← hZ]
    refine pw_rv (by decide +kernel) ?_
    exact ⟨rfl, by unfold G_lay; rw [show ix = 8 by omega]⟩
  · refine pw_blk (pc' := 35) [.aload 0, .getfield 502, .iload 2, .iconst 0, .iastore, .aload 0, .getfield 503, .iload 2, .iconst 0, .iastore, .iinc 2 1] (by decide +kernel) ?_
    refine ⟨ix, rfl, by omega, ?_⟩
    refine ⟨ix, rfl, by omega, ?_⟩
    show pw_V x m_X5_layTable 1 Z 35 [(2, .int ((nI ix) + (nI 1))), (0, .ref 4), (1, .int nn)] [] (pw_up (pw_up (pw_zJ (pw_up (pw_up mm 4 0 nn) 4 1 (nI 0)) ix) 5 ix (nI 0)) 6 ix (nI 0))
    rw [show (nI ix) + (nI 1) = nI (ix + 1) from nI_add _ _]
    refine pw_goto (tgt := 12) (off := -23) (by decide +kernel) (by decide) ?_
    refine pw_lvp [1, 2, 0] rfl ?_
    exact ih (by omega)

def G_me1 (A : pw_m) (a b : Nat) : pw_m := pw_up A 10 a (A 10 a ||| nI (2 ^ b))
def G_me (A : pw_m) (a b : Nat) : pw_m := G_me1 (G_me1 A a b) b a

set_option maxHeartbeats 4000000 in
set_option maxRecDepth 100000 in
theorem c_makeEnemies (ax bx : Nat) (mm : pw_m) (kx : Nat) (hk : mm 4 1 = nI kx) (hk6 : kx ≤ 6) (ha : ax < kx) (hb : bx < kx) : pw_Ct 0 yX5_makeEnemies m_X5_makeEnemies [.ref 4, .int (nI ax), .int (nI bx)] mm (fun r' m' => r' = none ∧ m' = G_me mm ax bx) := by
  refine pw_ct (by decide +kernel) rfl (Nat.le_of_ble_eq_true rfl) (fun x => ?_)
  generalize hZ : pw_Z x _ = Z
  show pw_V x m_X5_makeEnemies 0 Z 0 [(0, .ref 4), (1, .int (nI ax)), (2, .int (nI bx))] [] mm
  refine pw_blk (pc' := 1) [.iload 1] (by decide +kernel) ?_
  show pw_V x m_X5_makeEnemies 0 Z 1 [(0, .ref 4), (1, .int (nI ax)), (2, .int (nI bx))] [.int (nI ax)] mm
  refine pw_iz_lt (tgt := 48) (off := 47) (by omega) (by decide +kernel) (by decide) ?_
  refine pw_blk (pc' := 9) [.iload 1, .aload 0, .getfield 501] (by decide +kernel) ?_
  show pw_V x m_X5_makeEnemies 0 Z 9 [(0, .ref 4), (1, .int (nI ax)), (2, .int (nI bx))] [.int (mm 4 1), .int (nI ax)] mm
  rw [show mm 4 1 = nI kx from hk]
  refine pw_in_ge (tgt := 48) (off := 39) (by omega) (by omega) (by decide +kernel) (by decide) (fun h9 => ?_) (fun h9 => ?_)
  · omega
  · refine pw_blk (pc' := 13) [.iload 2] (by decide +kernel) ?_
    show pw_V x m_X5_makeEnemies 0 Z 13 [(0, .ref 4), (1, .int (nI ax)), (2, .int (nI bx))] [.int (nI bx)] mm
    refine pw_iz_lt (tgt := 48) (off := 35) (by omega) (by decide +kernel) (by decide) ?_
    refine pw_blk (pc' := 21) [.iload 2, .aload 0, .getfield 501] (by decide +kernel) ?_
    show pw_V x m_X5_makeEnemies 0 Z 21 [(0, .ref 4), (1, .int (nI ax)), (2, .int (nI bx))] [.int (mm 4 1), .int (nI bx)] mm
    rw [show mm 4 1 = nI kx from hk]
    refine pw_in_ge (tgt := 48) (off := 27) (by omega) (by omega) (by decide +kernel) (by decide) (fun h21 => ?_) (fun h21 => ?_)
    · omega
    · refine pw_blk (pc' := 36) [.aload 0, .getfield 507, .iload 1, .dup2, .iaload, .iconst 1, .iload 2, .ishl, .ior, .iastore] (by decide +kernel) ?_
      refine ⟨ax, rfl, by omega, ?_⟩
      refine ⟨ax, rfl, by omega, ?_⟩
      show pw_V x m_X5_makeEnemies 0 Z 36 [(0, .ref 4), (1, .int (nI ax)), (2, .int (nI bx))] [] (pw_up mm 10 ax ((mm 10 ax) ||| ((nI 1) <<< ((nI bx) &&& 31))))
      rw [show (nI 1) <<< ((nI bx) &&& 31) = nI (2 ^ bx) from pw_shl1 (by omega)]
      show pw_V x m_X5_makeEnemies 0 Z 36 [(0, .ref 4), (1, .int (nI ax)), (2, .int (nI bx))] [] (G_me1 mm ax bx)
      refine pw_blk (pc' := 48) [.aload 0, .getfield 507, .iload 2, .dup2, .iaload, .iconst 1, .iload 1, .ishl, .ior, .iastore] (by decide +kernel) ?_
      refine ⟨bx, rfl, by omega, ?_⟩
      refine ⟨bx, rfl, by omega, ?_⟩
      show pw_V x m_X5_makeEnemies 0 Z 48 [(0, .ref 4), (1, .int (nI ax)), (2, .int (nI bx))] [] (pw_up (G_me1 mm ax bx) 10 bx (((G_me1 mm ax bx) 10 bx) ||| ((nI 1) <<< ((nI ax) &&& 31))))
      rw [show (nI 1) <<< ((nI ax) &&& 31) = nI (2 ^ ax) from pw_shl1 (by omega)]
      rw [← hZ]
      refine pw_rv (by decide +kernel) ?_
      exact ⟨rfl, rfl⟩
