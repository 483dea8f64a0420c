/-! the law's walk ahead of its loop -/
theorem pw_yx_X {x : pw_Y} {ad : Nat → Nat} {X : Nat × (Nat → Int32)} {nc ns : Nat} : pw_xX (pw_yx x ad X nc ns) = X := by
  obtain ⟨p, l, ee, R, s, m, args, below, meth, cc, D, ⟨cI, cZ, cE⟩, A⟩ := x
  rfl
set_option maxHeartbeats 4000000 in
theorem law_walk {x : pw_Y} {Z : State → Prop} {b L t0 t1 t2 : Nat} {xs : Nat → Int32} (hT : ∀ ad : Nat → Nat, ad 90 = t0 → ad 91 = t1 → ad 92 = t2 → ad 93 = b → pw_YT x ad (L, xs)) (hs : ∀ (ad : Nat → Nat) (nc ns : Nat), ad 93 = b → pw_sX (pw_yx x ad (L, xs) nc ns) L xs) (hL : L ≤ 3072) (he : ∀ (ad : Nat → Nat) (lv : List (Nat × Value)) (m' : pw_m), pw_V (pw_yx x ad (L, xs) 86 1136) m_law 12 Z 834 lv [] m') : pw_U x m_law 12 86 1136 Z 0 [(0, .ref b)] [] [] 0 0 := by
  refine u_nw (idx := 7) (C := RX7) (T := TX7) (N := 7) (ci := 7) (fs := [.null, .null, .null, .null, .null, .null, .null]) tyX7 (by decide +kernel) rfl tyX7_ok (pw_tb_in (i := 78) (by decide +kernel) rfl) (pw_tb_in (i := 79) (by decide +kernel) rfl) (pw_tb_in (i := 67) (by decide +kernel) rfl) (by decide +kernel) (by decide) (by decide) (fun qc => ?_)
  show pw_U x m_law 12 86 1136 Z 3 [(0, .ref b)] [.ref qc] [(qc, .inr (7, [.null, .null, .null, .null, .null, .null, .null]))] 1 7
  refine u_du (by decide +kernel) ?_
  refine u_ca (wr := []) (idx := 9) 0 [] k_X7_init n_X7 (by decide +kernel) (pw_tb_in (i := 80) (by decide +kernel) rfl) rfl rfl (by decide) (by decide) (by decide) (by decide) (by decide) (Nat.le_of_ble_eq_true rfl) (fun uc => ?_)
  show pw_U x m_law 12 86 1136 Z 7 [(0, .ref b)] [.ref qc] (wX7 (pw_yI x) (pw_yZ x) (pw_yE x) qc uc) 70 586
  refine u_as (k := 1) (lv' := [(1, .ref qc), (0, .ref b)]) (by decide +kernel) (by decide) rfl ?_
  refine u_nw (idx := 10) (C := RX8) (T := TX8) (N := 38) (ci := 8) (fs := [.int 0, .null, .int 0, .null, .null, .int 0, .int 0, .int 0, .null, .int 0, .null, .null, .null, .int 0, .null, .null, .int 0, .int 0, .int 0, .int 0, .int 0, .int 0, .int 0, .int 0, .null, .int 0, .null, .null, .int 0, .int 0, .int 0, .null, .null, .int 0, .int 0, .null, .int 0, .int 0]) tyX8 (by decide +kernel) rfl tyX8_ok (pw_tb_in (i := 748) (by decide +kernel) rfl) (pw_tb_in (i := 749) (by decide +kernel) rfl) (pw_tb_in (i := 75) (by decide +kernel) rfl) (by decide +kernel) (by decide) (by decide) (fun q => ?_)
  show pw_U x m_law 12 86 1136 Z 11 [(1, .ref qc), (0, .ref b)] [.ref q] (pw_w8 (pw_yI x) (pw_yZ x) (pw_yE x) qc uc q) 71 624
  refine u_du (by decide +kernel) ?_
  refine u_c8 (idx := 12) (lv' := [(1, .ref 0), (0, .ref 93)]) (r' := [.ref 26]) (t0 := t0) (t1 := t1) (t2 := t2) (b := b) (X := (L, xs)) (fun u8 => hT _ rfl rfl rfl rfl) (by decide +kernel) (pw_tb_in (i := 750) (by decide +kernel) rfl) (by decide) (by decide) (by decide) (Nat.le_of_ble_eq_true rfl) (fun u8 => rfl) (fun u8 => rfl) (fun u8 => ?_)
  show pw_V (pw_yx x (pw_ad qc uc q u8 t0 t1 t2 b) (L, xs) 86 1136) m_law 12 Z 15 [(1, .ref 0), (0, .ref 93)] [.ref 26] (pw_beM pw_mA 0)
  refine pw_blk (pc' := 18) [.astore 2, .iconst 0, .istore 3] (by decide +kernel) ?_
  show pw_V (pw_yx x (pw_ad qc uc q u8 t0 t1 t2 b) (L, xs) 86 1136) m_law 12 Z 18 [(3, .int (nI 0)), (2, .ref 26), (1, .ref 0), (0, .ref 93)] [] (pw_beM pw_mA 0)
  refine pw_lvp [3, 2, 1, 0] rfl ?_
  exact law_loop pw_yx_X (hs _ _ _ rfl) hL (he _) (L + 1) 0 _ (by omega) (by omega) pw_IV0
