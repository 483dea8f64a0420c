/-! the law: a case each -/
def m_law : pw_M := (9, code, 4, some .boolean)
theorem pw_ai (a k : Nat) : nI a + Int32.ofInt (k : Int) = nI (a + k) := by
  unfold nI
  rw [Int32.ofNat_add]
  rfl
set_option maxHeartbeats 4000000 in
theorem law_c0 {x : pw_X} {Z : State → Prop} {L : Nat} {xs : Nat → Int32} (hx : pw_xX x = (L, xs)) (ix : Nat) (hi : ix + 6 ≤ L) (mm : pw_m) (iv : pw_IV mm) (hk : ∀ m' : pw_m, pw_IV m' → pw_V x m_law 12 Z 828 [(0, .ref 93), (1, .ref 0), (2, .ref 26), (3, .int (nI ix))] [] m') : pw_V x m_law 12 Z 156 [(0, .ref 93), (1, .ref 0), (2, .ref 26), (3, .int (nI ix))] [] mm := by
  refine pw_blk (pc' := 162) [.aload 1, .aload 0, .iload 3, .iconst 1, .iadd, .iaload] (by decide +kernel) ?_
  rw [hx]
  refine ⟨ix + 1, pw_ai ix 1, by omega, ?_⟩
  show pw_V x m_law 12 Z 162 [(0, .ref 93), (1, .ref 0), (2, .ref 26), (3, .int (nI ix))] [.int (xs (ix + 1)), .ref 0] mm
  refine pw_cV (vs := [.int (xs (ix + 1))]) (rest := []) k_X7_write (c_write (xs (ix + 1)) mm iv.1) l_9_13 rfl rfl rfl rfl (by decide) (Nat.le_of_ble_eq_true rfl) (by decide +kernel) ?_
  rintro _ m1 ⟨rfl, e1⟩
  have cs : pw_CS mm (G_write mm (xs (ix + 1))) m1 := by rw [e1]; exact cs_e (nm_write)
  clear e1
  show pw_V x m_law 12 Z 165 [(0, .ref 93), (1, .ref 0), (2, .ref 26), (3, .int (nI ix))] [.int (F_write mm (xs (ix + 1)))] m1
  refine pw_blk (pc' := 171) [.aload 2, .aload 0, .iload 3, .iconst 1, .iadd, .iaload] (by decide +kernel) ?_
  rw [hx]
  refine ⟨ix + 1, pw_ai ix 1, by omega, ?_⟩
  show pw_V x m_law 12 Z 171 [(0, .ref 93), (1, .ref 0), (2, .ref 26), (3, .int (nI ix))] [.int (xs (ix + 1)), .ref 26, .int (F_write mm (xs (ix + 1)))] m1
  refine pw_cV (vs := [.int (xs (ix + 1))]) (rest := [.int (F_write mm (xs (ix + 1)))]) k_X8_write (c_mwrite m1 (cs_mv cs iv.2) iv.1 (xs (ix + 1))) l_9_17 rfl rfl rfl rfl (by decide) (Nat.le_of_ble_eq_true rfl) (by decide +kernel) ?_
  rintro _ m2 ⟨rfl, hv2, hf2⟩
  have iv2 : pw_IV m2 := iv_2 (ok_write iv.1) cs hv2 hf2
  show pw_V x m_law 12 Z 174 [(0, .ref 93), (1, .ref 0), (2, .ref 26), (3, .int (nI ix))] [.int (F_write mm (xs (ix + 1))), .int (F_write mm (xs (ix + 1)))] m2
  refine pw_ic_eq (tgt := 828) (off := 654) (by decide +kernel) (by decide) (fun _ => hk m2 iv2) (fun h => absurd rfl h)
set_option maxHeartbeats 4000000 in
theorem law_c1 {x : pw_X} {Z : State → Prop} {L : Nat} {xs : Nat → Int32} (hx : pw_xX x = (L, xs)) (ix : Nat) (hi : ix + 6 ≤ L) (mm : pw_m) (iv : pw_IV mm) (hk : ∀ m' : pw_m, pw_IV m' → pw_V x m_law 12 Z 828 [(0, .ref 93), (1, .ref 0), (2, .ref 26), (3, .int (nI ix))] [] m') : pw_V x m_law 12 Z 179 [(0, .ref 93), (1, .ref 0), (2, .ref 26), (3, .int (nI ix))] [] mm := by
  refine pw_blk (pc' := 180) [.aload 1] (by decide +kernel) ?_
  show pw_V x m_law 12 Z 180 [(0, .ref 93), (1, .ref 0), (2, .ref 26), (3, .int (nI ix))] [.ref 0] mm
  refine pw_cV (vs := []) (rest := []) k_X7_erase (c_erase mm) l_9_18 rfl rfl rfl rfl (by decide) (Nat.le_of_ble_eq_true rfl) (by decide +kernel) ?_
  rintro _ m1 ⟨rfl, e1⟩
  have cs : pw_CS mm (pw_up mm 2 1 0) m1 := by rw [e1]; exact cs_e (nm_up nmm_r (by omega))
  clear e1
  show pw_V x m_law 12 Z 183 [(0, .ref 93), (1, .ref 0), (2, .ref 26), (3, .int (nI ix))] [.int (mm 2 1)] m1
  refine pw_blk (pc' := 184) [.aload 2] (by decide +kernel) ?_
  show pw_V x m_law 12 Z 184 [(0, .ref 93), (1, .ref 0), (2, .ref 26), (3, .int (nI ix))] [.ref 26, .int (mm 2 1)] m1
  refine pw_cV (vs := []) (rest := [.int (mm 2 1)]) k_X8_erase (c_merase m1 (cs_mv cs iv.2) iv.1) l_9_22 rfl rfl rfl rfl (by decide) (Nat.le_of_ble_eq_true rfl) (by decide +kernel) ?_
  rintro _ m2 ⟨rfl, hv2, hf2⟩
  have iv2 : pw_IV m2 := iv_2 (ok_erase iv.1) cs hv2 hf2
  show pw_V x m_law 12 Z 187 [(0, .ref 93), (1, .ref 0), (2, .ref 26), (3, .int (nI ix))] [.int (mm 2 1), .int (mm 2 1)] m2
  refine pw_ic_eq (tgt := 828) (off := 641) (by decide +kernel) (by decide) (fun _ => hk m2 iv2) (fun h => absurd rfl h)
set_option maxHeartbeats 4000000 in
theorem law_c2 {x : pw_X} {Z : State → Prop} {L : Nat} {xs : Nat → Int32} (hx : pw_xX x = (L, xs)) (ix : Nat) (hi : ix + 6 ≤ L) (mm : pw_m) (iv : pw_IV mm) (hk : ∀ m' : pw_m, pw_IV m' → pw_V x m_law 12 Z 828 [(0, .ref 93), (1, .ref 0), (2, .ref 26), (3, .int (nI ix))] [] m') : pw_V x m_law 12 Z 192 [(0, .ref 93), (1, .ref 0), (2, .ref 26), (3, .int (nI ix))] [] mm := by
  refine pw_blk (pc' := 193) [.aload 1] (by decide +kernel) ?_
  show pw_V x m_law 12 Z 193 [(0, .ref 93), (1, .ref 0), (2, .ref 26), (3, .int (nI ix))] [.ref 0] mm
  refine pw_cV (vs := []) (rest := []) k_X7_fault (c_fault mm iv.1) l_9_23 rfl rfl rfl rfl (by decide) (Nat.le_of_ble_eq_true rfl) (by decide +kernel) ?_
  rintro _ m1 ⟨rfl, e1⟩
  have cs : pw_CS mm mm m1 := cs_fx (nmm_r) e1
  clear e1
  show pw_V x m_law 12 Z 196 [(0, .ref 93), (1, .ref 0), (2, .ref 26), (3, .int (nI ix))] [.int (pw_o (pw_RF mm))] m1
  refine pw_blk (pc' := 197) [.aload 2] (by decide +kernel) ?_
  show pw_V x m_law 12 Z 197 [(0, .ref 93), (1, .ref 0), (2, .ref 26), (3, .int (nI ix))] [.ref 26, .int (pw_o (pw_RF mm))] m1
  refine pw_cV (vs := []) (rest := [.int (pw_o (pw_RF mm))]) k_X8_fault (c_mfault m1 (cs_mv cs iv.2) iv.1) l_9_26 rfl rfl rfl rfl (by decide) (Nat.le_of_ble_eq_true rfl) (by decide +kernel) ?_
  rintro _ m2 ⟨rfl, hv2, hf2⟩
  have iv2 : pw_IV m2 := iv_2 (iv.1) cs hv2 hf2
  show pw_V x m_law 12 Z 200 [(0, .ref 93), (1, .ref 0), (2, .ref 26), (3, .int (nI ix))] [.int (pw_o (pw_RF mm)), .int (pw_o (pw_RF mm))] m2
  refine pw_ic_eq (tgt := 828) (off := 628) (by decide +kernel) (by decide) (fun _ => hk m2 iv2) (fun h => absurd rfl h)
set_option maxHeartbeats 4000000 in
theorem law_c3 {x : pw_X} {Z : State → Prop} {L : Nat} {xs : Nat → Int32} (hx : pw_xX x = (L, xs)) (ix : Nat) (hi : ix + 6 ≤ L) (mm : pw_m) (iv : pw_IV mm) (hk : ∀ m' : pw_m, pw_IV m' → pw_V x m_law 12 Z 828 [(0, .ref 93), (1, .ref 0), (2, .ref 26), (3, .int (nI ix))] [] m') : pw_V x m_law 12 Z 205 [(0, .ref 93), (1, .ref 0), (2, .ref 26), (3, .int (nI ix))] [] mm := by
  refine pw_blk (pc' := 206) [.aload 1] (by decide +kernel) ?_
  show pw_V x m_law 12 Z 206 [(0, .ref 93), (1, .ref 0), (2, .ref 26), (3, .int (nI ix))] [.ref 0] mm
  refine pw_cV (vs := []) (rest := []) k_X7_table (c_table mm iv.1) l_9_27 rfl rfl rfl rfl (by decide) (Nat.le_of_ble_eq_true rfl) (by decide +kernel) ?_
  rintro _ m1 ⟨rfl, e1⟩
  have cs : pw_CS mm (G_table mm) m1 := cs_fx (nm_table iv.1) e1
  clear e1
  show pw_V x m_law 12 Z 209 [(0, .ref 93), (1, .ref 0), (2, .ref 26), (3, .int (nI ix))] [.int (F_table mm)] m1
  refine pw_blk (pc' := 210) [.aload 2] (by decide +kernel) ?_
  show pw_V x m_law 12 Z 210 [(0, .ref 93), (1, .ref 0), (2, .ref 26), (3, .int (nI ix))] [.ref 26, .int (F_table mm)] m1
  refine pw_cV (vs := []) (rest := [.int (F_table mm)]) k_X8_table (c_mtable m1 (cs_mv cs iv.2) iv.1) l_9_30 rfl rfl rfl rfl (by decide) (Nat.le_of_ble_eq_true rfl) (by decide +kernel) ?_
  rintro _ m2 ⟨rfl, hv2, hf2⟩
  have iv2 : pw_IV m2 := iv_2 (pw_ok_table iv.1) cs hv2 hf2
  show pw_V x m_law 12 Z 213 [(0, .ref 93), (1, .ref 0), (2, .ref 26), (3, .int (nI ix))] [.int (F_table mm), .int (F_table mm)] m2
  refine pw_ic_eq (tgt := 828) (off := 615) (by decide +kernel) (by decide) (fun _ => hk m2 iv2) (fun h => absurd rfl h)
set_option maxHeartbeats 4000000 in
theorem law_c4 {x : pw_X} {Z : State → Prop} {L : Nat} {xs : Nat → Int32} (hx : pw_xX x = (L, xs)) (ix : Nat) (hi : ix + 6 ≤ L) (mm : pw_m) (iv : pw_IV mm) (hk : ∀ m' : pw_m, pw_IV m' → pw_V x m_law 12 Z 828 [(0, .ref 93), (1, .ref 0), (2, .ref 26), (3, .int (nI ix))] [] m') : pw_V x m_law 12 Z 218 [(0, .ref 93), (1, .ref 0), (2, .ref 26), (3, .int (nI ix))] [] mm := by
  refine pw_blk (pc' := 229) [.aload 1, .aload 0, .iload 3, .iconst 1, .iadd, .iaload, .aload 0, .iload 3, .iconst 2, .iadd, .iaload] (by decide +kernel) ?_
  rw [hx]
  refine ⟨ix + 1, pw_ai ix 1, by omega, ?_⟩
  refine ⟨ix + 2, pw_ai ix 2, by omega, ?_⟩
  show pw_V x m_law 12 Z 229 [(0, .ref 93), (1, .ref 0), (2, .ref 26), (3, .int (nI ix))] [.int (xs (ix + 2)), .int (xs (ix + 1)), .ref 0] mm
  refine pw_cV (vs := [.int (xs (ix + 1)), .int (xs (ix + 2))]) (rest := []) k_X7_seat (c_seat (xs (ix + 1)) (xs (ix + 2)) mm iv.1) l_9_31 rfl rfl rfl rfl (by decide) (Nat.le_of_ble_eq_true rfl) (by decide +kernel) ?_
  rintro _ m1 ⟨rfl, e1⟩
  have cs : pw_CS mm mm m1 := by rw [e1]; exact cs_e (nmm_r)
  clear e1
  show pw_V x m_law 12 Z 232 [(0, .ref 93), (1, .ref 0), (2, .ref 26), (3, .int (nI ix))] [.int (F_seat mm (xs (ix + 1)) (xs (ix + 2)))] m1
  refine pw_blk (pc' := 243) [.aload 2, .aload 0, .iload 3, .iconst 1, .iadd, .iaload, .aload 0, .iload 3, .iconst 2, .iadd, .iaload] (by decide +kernel) ?_
  rw [hx]
  refine ⟨ix + 1, pw_ai ix 1, by omega, ?_⟩
  refine ⟨ix + 2, pw_ai ix 2, by omega, ?_⟩
  show pw_V x m_law 12 Z 243 [(0, .ref 93), (1, .ref 0), (2, .ref 26), (3, .int (nI ix))] [.int (xs (ix + 2)), .int (xs (ix + 1)), .ref 26, .int (F_seat mm (xs (ix + 1)) (xs (ix + 2)))] m1
  refine pw_cV (vs := [.int (xs (ix + 1)), .int (xs (ix + 2))]) (rest := [.int (F_seat mm (xs (ix + 1)) (xs (ix + 2)))]) k_X8_seat (c_mseat m1 (cs_mv cs iv.2) iv.1 (xs (ix + 1)) (xs (ix + 2))) l_9_35 rfl rfl rfl rfl (by decide) (Nat.le_of_ble_eq_true rfl) (by decide +kernel) ?_
  rintro _ m2 ⟨rfl, e2⟩
  have iv2 : pw_IV m2 := by rw [e2]; exact iv_1 iv cs
  show pw_V x m_law 12 Z 246 [(0, .ref 93), (1, .ref 0), (2, .ref 26), (3, .int (nI ix))] [.int (F_seat mm (xs (ix + 1)) (xs (ix + 2))), .int (F_seat mm (xs (ix + 1)) (xs (ix + 2)))] m2
  refine pw_ic_eq (tgt := 828) (off := 582) (by decide +kernel) (by decide) (fun _ => hk m2 iv2) (fun h => absurd rfl h)
set_option maxHeartbeats 4000000 in
theorem law_c5 {x : pw_X} {Z : State → Prop} {L : Nat} {xs : Nat → Int32} (hx : pw_xX x = (L, xs)) (ix : Nat) (hi : ix + 6 ≤ L) (mm : pw_m) (iv : pw_IV mm) (hk : ∀ m' : pw_m, pw_IV m' → pw_V x m_law 12 Z 828 [(0, .ref 93), (1, .ref 0), (2, .ref 26), (3, .int (nI ix))] [] m') : pw_V x m_law 12 Z 251 [(0, .ref 93), (1, .ref 0), (2, .ref 26), (3, .int (nI ix))] [] mm := by
  refine pw_blk (pc' := 262) [.aload 1, .aload 0, .iload 3, .iconst 1, .iadd, .iaload, .aload 0, .iload 3, .iconst 2, .iadd, .iaload] (by decide +kernel) ?_
  rw [hx]
  refine ⟨ix + 1, pw_ai ix 1, by omega, ?_⟩
  refine ⟨ix + 2, pw_ai ix 2, by omega, ?_⟩
  show pw_V x m_law 12 Z 262 [(0, .ref 93), (1, .ref 0), (2, .ref 26), (3, .int (nI ix))] [.int (xs (ix + 2)), .int (xs (ix + 1)), .ref 0] mm
  refine pw_cV (vs := [.int (xs (ix + 1)), .int (xs (ix + 2))]) (rest := []) k_X7_knight (c_knight (xs (ix + 1)) (xs (ix + 2)) mm iv.1) l_9_36 rfl rfl rfl rfl (by decide) (Nat.le_of_ble_eq_true rfl) (by decide +kernel) ?_
  rintro _ m1 ⟨rfl, e1⟩
  have cs : pw_CS mm mm m1 := by rw [e1]; exact cs_e (nmm_r)
  clear e1
  show pw_V x m_law 12 Z 265 [(0, .ref 93), (1, .ref 0), (2, .ref 26), (3, .int (nI ix))] [.int (F_knight mm (xs (ix + 1)) (xs (ix + 2)))] m1
  refine pw_blk (pc' := 276) [.aload 2, .aload 0, .iload 3, .iconst 1, .iadd, .iaload, .aload 0, .iload 3, .iconst 2, .iadd, .iaload] (by decide +kernel) ?_
  rw [hx]
  refine ⟨ix + 1, pw_ai ix 1, by omega, ?_⟩
  refine ⟨ix + 2, pw_ai ix 2, by omega, ?_⟩
  show pw_V x m_law 12 Z 276 [(0, .ref 93), (1, .ref 0), (2, .ref 26), (3, .int (nI ix))] [.int (xs (ix + 2)), .int (xs (ix + 1)), .ref 26, .int (F_knight mm (xs (ix + 1)) (xs (ix + 2)))] m1
  refine pw_cV (vs := [.int (xs (ix + 1)), .int (xs (ix + 2))]) (rest := [.int (F_knight mm (xs (ix + 1)) (xs (ix + 2)))]) k_X8_knight (c_mknight m1 (cs_mv cs iv.2) iv.1 (xs (ix + 1)) (xs (ix + 2))) l_9_39 rfl rfl rfl rfl (by decide) (Nat.le_of_ble_eq_true rfl) (by decide +kernel) ?_
  rintro _ m2 ⟨rfl, e2⟩
  have iv2 : pw_IV m2 := by rw [e2]; exact iv_1 iv cs
  show pw_V x m_law 12 Z 279 [(0, .ref 93), (1, .ref 0), (2, .ref 26), (3, .int (nI ix))] [.int (F_knight mm (xs (ix + 1)) (xs (ix + 2))), .int (F_knight mm (xs (ix + 1)) (xs (ix + 2)))] m2
  refine pw_ic_eq (tgt := 828) (off := 549) (by decide +kernel) (by decide) (fun _ => hk m2 iv2) (fun h => absurd rfl h)
set_option maxHeartbeats 4000000 in
theorem law_c6 {x : pw_X} {Z : State → Prop} {L : Nat} {xs : Nat → Int32} (hx : pw_xX x = (L, xs)) (ix : Nat) (hi : ix + 6 ≤ L) (mm : pw_m) (iv : pw_IV mm) (hk : ∀ m' : pw_m, pw_IV m' → pw_V x m_law 12 Z 828 [(0, .ref 93), (1, .ref 0), (2, .ref 26), (3, .int (nI ix))] [] m') : pw_V x m_law 12 Z 284 [(0, .ref 93), (1, .ref 0), (2, .ref 26), (3, .int (nI ix))] [] mm := by
  refine pw_blk (pc' := 295) [.aload 1, .aload 0, .iload 3, .iconst 1, .iadd, .iaload, .aload 0, .iload 3, .iconst 2, .iadd, .iaload] (by decide +kernel) ?_
  rw [hx]
  refine ⟨ix + 1, pw_ai ix 1, by omega, ?_⟩
  refine ⟨ix + 2, pw_ai ix 2, by omega, ?_⟩
  show pw_V x m_law 12 Z 295 [(0, .ref 93), (1, .ref 0), (2, .ref 26), (3, .int (nI ix))] [.int (xs (ix + 2)), .int (xs (ix + 1)), .ref 0] mm
  refine pw_cV (vs := [.int (xs (ix + 1)), .int (xs (ix + 2))]) (rest := []) k_X7_as (c_as (xs (ix + 1)) (xs (ix + 2)) mm iv.1) l_9_40 rfl rfl rfl rfl (by decide) (Nat.le_of_ble_eq_true rfl) (by decide +kernel) ?_
  rintro _ m1 ⟨rfl, e1⟩
  have cs : pw_CS mm mm m1 := by rw [e1]; exact cs_e (nmm_r)
  clear e1
  show pw_V x m_law 12 Z 298 [(0, .ref 93), (1, .ref 0), (2, .ref 26), (3, .int (nI ix))] [.int (F_as mm (xs (ix + 1)) (xs (ix + 2)))] m1
  refine pw_blk (pc' := 309) [.aload 2, .aload 0, .iload 3, .iconst 1, .iadd, .iaload, .aload 0, .iload 3, .iconst 2, .iadd, .iaload] (by decide +kernel) ?_
  rw [hx]
  refine ⟨ix + 1, pw_ai ix 1, by omega, ?_⟩
  refine ⟨ix + 2, pw_ai ix 2, by omega, ?_⟩
  show pw_V x m_law 12 Z 309 [(0, .ref 93), (1, .ref 0), (2, .ref 26), (3, .int (nI ix))] [.int (xs (ix + 2)), .int (xs (ix + 1)), .ref 26, .int (F_as mm (xs (ix + 1)) (xs (ix + 2)))] m1
  refine pw_cV (vs := [.int (xs (ix + 1)), .int (xs (ix + 2))]) (rest := [.int (F_as mm (xs (ix + 1)) (xs (ix + 2)))]) k_X8_as (c_mas m1 (cs_mv cs iv.2) iv.1 (xs (ix + 1)) (xs (ix + 2))) l_9_43 rfl rfl rfl rfl (by decide) (Nat.le_of_ble_eq_true rfl) (by decide +kernel) ?_
  rintro _ m2 ⟨rfl, e2⟩
  have iv2 : pw_IV m2 := by rw [e2]; exact iv_1 iv cs
  show pw_V x m_law 12 Z 312 [(0, .ref 93), (1, .ref 0), (2, .ref 26), (3, .int (nI ix))] [.int (F_as mm (xs (ix + 1)) (xs (ix + 2))), .int (F_as mm (xs (ix + 1)) (xs (ix + 2)))] m2
  refine pw_ic_eq (tgt := 828) (off := 516) (by decide +kernel) (by decide) (fun _ => hk m2 iv2) (fun h => absurd rfl h)
set_option maxHeartbeats 4000000 in
theorem law_c7 {x : pw_X} {Z : State → Prop} {L : Nat} {xs : Nat → Int32} (hx : pw_xX x = (L, xs)) (ix : Nat) (hi : ix + 6 ≤ L) (mm : pw_m) (iv : pw_IV mm) (hk : ∀ m' : pw_m, pw_IV m' → pw_V x m_law 12 Z 828 [(0, .ref 93), (1, .ref 0), (2, .ref 26), (3, .int (nI ix))] [] m') : pw_V x m_law 12 Z 317 [(0, .ref 93), (1, .ref 0), (2, .ref 26), (3, .int (nI ix))] [] mm := by
  refine pw_blk (pc' := 328) [.aload 1, .aload 0, .iload 3, .iconst 1, .iadd, .iaload, .aload 0, .iload 3, .iconst 2, .iadd, .iaload] (by decide +kernel) ?_
  rw [hx]
  refine ⟨ix + 1, pw_ai ix 1, by omega, ?_⟩
  refine ⟨ix + 2, pw_ai ix 2, by omega, ?_⟩
  show pw_V x m_law 12 Z 328 [(0, .ref 93), (1, .ref 0), (2, .ref 26), (3, .int (nI ix))] [.int (xs (ix + 2)), .int (xs (ix + 1)), .ref 0] mm
  refine pw_cV (vs := [.int (xs (ix + 1)), .int (xs (ix + 2))]) (rest := []) k_X7_seatAs (c_seatAs (xs (ix + 1)) (xs (ix + 2)) mm iv.1) l_9_44 rfl rfl rfl rfl (by decide) (Nat.le_of_ble_eq_true rfl) (by decide +kernel) ?_
  rintro _ m1 ⟨rfl, e1⟩
  have cs : pw_CS mm mm m1 := by rw [e1]; exact cs_e (nmm_r)
  clear e1
  show pw_V x m_law 12 Z 331 [(0, .ref 93), (1, .ref 0), (2, .ref 26), (3, .int (nI ix))] [.int (F_seatAs mm (xs (ix + 1)) (xs (ix + 2)))] m1
  refine pw_blk (pc' := 342) [.aload 2, .aload 0, .iload 3, .iconst 1, .iadd, .iaload, .aload 0, .iload 3, .iconst 2, .iadd, .iaload] (by decide +kernel) ?_
  rw [hx]
  refine ⟨ix + 1, pw_ai ix 1, by omega, ?_⟩
  refine ⟨ix + 2, pw_ai ix 2, by omega, ?_⟩
  show pw_V x m_law 12 Z 342 [(0, .ref 93), (1, .ref 0), (2, .ref 26), (3, .int (nI ix))] [.int (xs (ix + 2)), .int (xs (ix + 1)), .ref 26, .int (F_seatAs mm (xs (ix + 1)) (xs (ix + 2)))] m1
  refine pw_cV (vs := [.int (xs (ix + 1)), .int (xs (ix + 2))]) (rest := [.int (F_seatAs mm (xs (ix + 1)) (xs (ix + 2)))]) k_X8_seatAs (c_mseatAs m1 (cs_mv cs iv.2) iv.1 (xs (ix + 1)) (xs (ix + 2))) l_9_47 rfl rfl rfl rfl (by decide) (Nat.le_of_ble_eq_true rfl) (by decide +kernel) ?_
  rintro _ m2 ⟨rfl, e2⟩
  have iv2 : pw_IV m2 := by rw [e2]; exact iv_1 iv cs
  show pw_V x m_law 12 Z 345 [(0, .ref 93), (1, .ref 0), (2, .ref 26), (3, .int (nI ix))] [.int (F_seatAs mm (xs (ix + 1)) (xs (ix + 2))), .int (F_seatAs mm (xs (ix + 1)) (xs (ix + 2)))] m2
  refine pw_ic_eq (tgt := 828) (off := 483) (by decide +kernel) (by decide) (fun _ => hk m2 iv2) (fun h => absurd rfl h)
set_option maxHeartbeats 4000000 in
theorem law_c8 {x : pw_X} {Z : State → Prop} {L : Nat} {xs : Nat → Int32} (hx : pw_xX x = (L, xs)) (ix : Nat) (hi : ix + 6 ≤ L) (mm : pw_m) (iv : pw_IV mm) (hk : ∀ m' : pw_m, pw_IV m' → pw_V x m_law 12 Z 828 [(0, .ref 93), (1, .ref 0), (2, .ref 26), (3, .int (nI ix))] [] m') : pw_V x m_law 12 Z 350 [(0, .ref 93), (1, .ref 0), (2, .ref 26), (3, .int (nI ix))] [] mm := by
  refine pw_blk (pc' := 361) [.aload 1, .aload 0, .iload 3, .iconst 1, .iadd, .iaload, .aload 0, .iload 3, .iconst 2, .iadd, .iaload] (by decide +kernel) ?_
  rw [hx]
  refine ⟨ix + 1, pw_ai ix 1, by omega, ?_⟩
  refine ⟨ix + 2, pw_ai ix 2, by omega, ?_⟩
  show pw_V x m_law 12 Z 361 [(0, .ref 93), (1, .ref 0), (2, .ref 26), (3, .int (nI ix))] [.int (xs (ix + 2)), .int (xs (ix + 1)), .ref 0] mm
  refine pw_cV (vs := [.int (xs (ix + 1)), .int (xs (ix + 2))]) (rest := []) k_X7_sit (c_sit (xs (ix + 1)) (xs (ix + 2)) mm iv.1) l_9_48 rfl rfl rfl rfl (by decide) (Nat.le_of_ble_eq_true rfl) (by decide +kernel) ?_
  rintro _ m1 ⟨rfl, e1⟩
  have cs : pw_CS mm (G_sit mm (xs (ix + 1)) (xs (ix + 2))) m1 := by rw [e1]; exact cs_e (nm_sit iv.1)
  clear e1
  show pw_V x m_law 12 Z 364 [(0, .ref 93), (1, .ref 0), (2, .ref 26), (3, .int (nI ix))] [.int (F_sit mm (xs (ix + 1)) (xs (ix + 2)))] m1
  refine pw_blk (pc' := 375) [.aload 2, .aload 0, .iload 3, .iconst 1, .iadd, .iaload, .aload 0, .iload 3, .iconst 2, .iadd, .iaload] (by decide +kernel) ?_
  rw [hx]
  refine ⟨ix + 1, pw_ai ix 1, by omega, ?_⟩
  refine ⟨ix + 2, pw_ai ix 2, by omega, ?_⟩
  show pw_V x m_law 12 Z 375 [(0, .ref 93), (1, .ref 0), (2, .ref 26), (3, .int (nI ix))] [.int (xs (ix + 2)), .int (xs (ix + 1)), .ref 26, .int (F_sit mm (xs (ix + 1)) (xs (ix + 2)))] m1
  refine pw_cV (vs := [.int (xs (ix + 1)), .int (xs (ix + 2))]) (rest := [.int (F_sit mm (xs (ix + 1)) (xs (ix + 2)))]) k_X8_sit (c_msit m1 (cs_mv cs iv.2) iv.1 (xs (ix + 1)) (xs (ix + 2))) l_9_51 rfl rfl rfl rfl (by decide) (Nat.le_of_ble_eq_true rfl) (by decide +kernel) ?_
  rintro _ m2 ⟨rfl, hv2, hf2⟩
  have iv2 : pw_IV m2 := iv_2 (ok_sit iv.1) cs hv2 hf2
  show pw_V x m_law 12 Z 378 [(0, .ref 93), (1, .ref 0), (2, .ref 26), (3, .int (nI ix))] [.int (F_sit mm (xs (ix + 1)) (xs (ix + 2))), .int (F_sit mm (xs (ix + 1)) (xs (ix + 2)))] m2
  refine pw_ic_eq (tgt := 828) (off := 450) (by decide +kernel) (by decide) (fun _ => hk m2 iv2) (fun h => absurd rfl h)
set_option maxHeartbeats 4000000 in
theorem law_c9 {x : pw_X} {Z : State → Prop} {L : Nat} {xs : Nat → Int32} (hx : pw_xX x = (L, xs)) (ix : Nat) (hi : ix + 6 ≤ L) (mm : pw_m) (iv : pw_IV mm) (hk : ∀ m' : pw_m, pw_IV m' → pw_V x m_law 12 Z 828 [(0, .ref 93), (1, .ref 0), (2, .ref 26), (3, .int (nI ix))] [] m') : pw_V x m_law 12 Z 383 [(0, .ref 93), (1, .ref 0), (2, .ref 26), (3, .int (nI ix))] [] mm := by
  refine pw_blk (pc' := 384) [.aload 1] (by decide +kernel) ?_
  show pw_V x m_law 12 Z 384 [(0, .ref 93), (1, .ref 0), (2, .ref 26), (3, .int (nI ix))] [.ref 0] mm
  refine pw_cV (vs := []) (rest := []) k_X7_rise (c_rise mm iv.1) l_9_52 rfl rfl rfl rfl (by decide) (Nat.le_of_ble_eq_true rfl) (by decide +kernel) ?_
  rintro _ m1 ⟨rfl, e1⟩
  have cs : pw_CS mm (pw_rsI (pw_rem mm) 6) m1 := by rw [e1]; exact cs_e (nm_rs (nm_rem iv.1))
  clear e1
  show pw_V x m_law 12 Z 387 [(0, .ref 93), (1, .ref 0), (2, .ref 26), (3, .int (nI ix))] [.int (nI (pw_pc (pw_sb mm)))] m1
  refine pw_blk (pc' := 388) [.aload 2] (by decide +kernel) ?_
  show pw_V x m_law 12 Z 388 [(0, .ref 93), (1, .ref 0), (2, .ref 26), (3, .int (nI ix))] [.ref 26, .int (nI (pw_pc (pw_sb mm)))] m1
  refine pw_cV (vs := []) (rest := [.int (nI (pw_pc (pw_sb mm)))]) k_X8_rise (c_mriseP m1 (cs_mv cs iv.2) iv.1) l_9_55 rfl rfl rfl rfl (by decide) (Nat.le_of_ble_eq_true rfl) (by decide +kernel) ?_
  rintro _ m2 ⟨rfl, hv2, hf2⟩
  have iv2 : pw_IV m2 := iv_2 (ok_rise iv.1) cs hv2 hf2
  show pw_V x m_law 12 Z 391 [(0, .ref 93), (1, .ref 0), (2, .ref 26), (3, .int (nI ix))] [.int (nI (pw_pc (pw_sb mm))), .int (nI (pw_pc (pw_sb mm)))] m2
  refine pw_ic_eq (tgt := 828) (off := 437) (by decide +kernel) (by decide) (fun _ => hk m2 iv2) (fun h => absurd rfl h)
set_option maxHeartbeats 4000000 in
theorem law_c10 {x : pw_X} {Z : State → Prop} {L : Nat} {xs : Nat → Int32} (hx : pw_xX x = (L, xs)) (ix : Nat) (hi : ix + 6 ≤ L) (mm : pw_m) (iv : pw_IV mm) (hk : ∀ m' : pw_m, pw_IV m' → pw_V x m_law 12 Z 828 [(0, .ref 93), (1, .ref 0), (2, .ref 26), (3, .int (nI ix))] [] m') : pw_V x m_law 12 Z 396 [(0, .ref 93), (1, .ref 0), (2, .ref 26), (3, .int (nI ix))] [] mm := by
  refine pw_blk (pc' := 407) [.aload 1, .aload 0, .iload 3, .iconst 1, .iadd, .iaload, .aload 0, .iload 3, .iconst 2, .iadd, .iaload] (by decide +kernel) ?_
  rw [hx]
  refine ⟨ix + 1, pw_ai ix 1, by omega, ?_⟩
  refine ⟨ix + 2, pw_ai ix 2, by omega, ?_⟩
  show pw_V x m_law 12 Z 407 [(0, .ref 93), (1, .ref 0), (2, .ref 26), (3, .int (nI ix))] [.int (xs (ix + 2)), .int (xs (ix + 1)), .ref 0] mm
  refine pw_cV (vs := [.int (xs (ix + 1)), .int (xs (ix + 2))]) (rest := []) k_X7_tell (c_tell (xs (ix + 1)) (xs (ix + 2)) mm iv.1) l_9_56 rfl rfl rfl rfl (by decide) (Nat.le_of_ble_eq_true rfl) (by decide +kernel) ?_
  rintro _ m1 ⟨rfl, e1⟩
  have cs : pw_CS mm (G_tell mm (xs (ix + 1)) (xs (ix + 2))) m1 := by rw [e1]; exact cs_e (nm_tell iv.1)
  clear e1
  show pw_V x m_law 12 Z 410 [(0, .ref 93), (1, .ref 0), (2, .ref 26), (3, .int (nI ix))] [.int (F_tell mm (xs (ix + 1)) (xs (ix + 2)))] m1
  refine pw_blk (pc' := 421) [.aload 2, .aload 0, .iload 3, .iconst 1, .iadd, .iaload, .aload 0, .iload 3, .iconst 2, .iadd, .iaload] (by decide +kernel) ?_
  rw [hx]
  refine ⟨ix + 1, pw_ai ix 1, by omega, ?_⟩
  refine ⟨ix + 2, pw_ai ix 2, by omega, ?_⟩
  show pw_V x m_law 12 Z 421 [(0, .ref 93), (1, .ref 0), (2, .ref 26), (3, .int (nI ix))] [.int (xs (ix + 2)), .int (xs (ix + 1)), .ref 26, .int (F_tell mm (xs (ix + 1)) (xs (ix + 2)))] m1
  refine pw_cV (vs := [.int (xs (ix + 1)), .int (xs (ix + 2))]) (rest := [.int (F_tell mm (xs (ix + 1)) (xs (ix + 2)))]) k_X8_tell (c_mtell m1 (cs_mv cs iv.2) iv.1 (xs (ix + 1)) (xs (ix + 2))) l_9_59 rfl rfl rfl rfl (by decide) (Nat.le_of_ble_eq_true rfl) (by decide +kernel) ?_
  rintro _ m2 ⟨rfl, hv2, hf2⟩
  have iv2 : pw_IV m2 := iv_2 (ok_tell iv.1) cs hv2 hf2
  show pw_V x m_law 12 Z 424 [(0, .ref 93), (1, .ref 0), (2, .ref 26), (3, .int (nI ix))] [.int (F_tell mm (xs (ix + 1)) (xs (ix + 2))), .int (F_tell mm (xs (ix + 1)) (xs (ix + 2)))] m2
  refine pw_ic_eq (tgt := 828) (off := 404) (by decide +kernel) (by decide) (fun _ => hk m2 iv2) (fun h => absurd rfl h)
set_option maxHeartbeats 4000000 in
theorem law_c11 {x : pw_X} {Z : State → Prop} {L : Nat} {xs : Nat → Int32} (hx : pw_xX x = (L, xs)) (ix : Nat) (hi : ix + 6 ≤ L) (mm : pw_m) (iv : pw_IV mm) (hk : ∀ m' : pw_m, pw_IV m' → pw_V x m_law 12 Z 828 [(0, .ref 93), (1, .ref 0), (2, .ref 26), (3, .int (nI ix))] [] m') : pw_V x m_law 12 Z 429 [(0, .ref 93), (1, .ref 0), (2, .ref 26), (3, .int (nI ix))] [] mm := by
  refine pw_blk (pc' := 430) [.aload 1] (by decide +kernel) ?_
  show pw_V x m_law 12 Z 430 [(0, .ref 93), (1, .ref 0), (2, .ref 26), (3, .int (nI ix))] [.ref 0] mm
  refine pw_cV (vs := []) (rest := []) k_X7_feast (c_feast mm iv.1) l_9_60 rfl rfl rfl rfl (by decide) (Nat.le_of_ble_eq_true rfl) (by decide +kernel) ?_
  rintro _ m1 ⟨rfl, e1⟩
  have cs : pw_CS mm (G_feast mm) m1 := by rw [e1]; exact cs_e (nm_feast iv.1)
  clear e1
  show pw_V x m_law 12 Z 433 [(0, .ref 93), (1, .ref 0), (2, .ref 26), (3, .int (nI ix))] [.int (F_feast mm)] m1
  refine pw_blk (pc' := 434) [.aload 2] (by decide +kernel) ?_
  show pw_V x m_law 12 Z 434 [(0, .ref 93), (1, .ref 0), (2, .ref 26), (3, .int (nI ix))] [.ref 26, .int (F_feast mm)] m1
  refine pw_cV (vs := []) (rest := [.int (F_feast mm)]) k_X8_feast (c_mfeast m1 (cs_mv cs iv.2) iv.1) l_9_63 rfl rfl rfl rfl (by decide) (Nat.le_of_ble_eq_true rfl) (by decide +kernel) ?_
  rintro _ m2 ⟨rfl, hv2, hf2⟩
  have iv2 : pw_IV m2 := iv_2 (ok_feast iv.1) cs hv2 hf2
  show pw_V x m_law 12 Z 437 [(0, .ref 93), (1, .ref 0), (2, .ref 26), (3, .int (nI ix))] [.int (F_feast mm), .int (F_feast mm)] m2
  refine pw_ic_eq (tgt := 828) (off := 391) (by decide +kernel) (by decide) (fun _ => hk m2 iv2) (fun h => absurd rfl h)
set_option maxHeartbeats 4000000 in
theorem law_c12 {x : pw_X} {Z : State → Prop} {L : Nat} {xs : Nat → Int32} (hx : pw_xX x = (L, xs)) (ix : Nat) (hi : ix + 6 ≤ L) (mm : pw_m) (iv : pw_IV mm) (hk : ∀ m' : pw_m, pw_IV m' → pw_V x m_law 12 Z 828 [(0, .ref 93), (1, .ref 0), (2, .ref 26), (3, .int (nI ix))] [] m') : pw_V x m_law 12 Z 442 [(0, .ref 93), (1, .ref 0), (2, .ref 26), (3, .int (nI ix))] [] mm := by
  refine pw_blk (pc' := 443) [.aload 1] (by decide +kernel) ?_
  show pw_V x m_law 12 Z 443 [(0, .ref 93), (1, .ref 0), (2, .ref 26), (3, .int (nI ix))] [.ref 0] mm
  refine pw_cV (vs := []) (rest := []) k_X7_undo (c_undo mm iv.1) l_9_64 rfl rfl rfl rfl (by decide) (Nat.le_of_ble_eq_true rfl) (by decide +kernel) ?_
  rintro _ m1 ⟨rfl, e1⟩
  have cs : pw_CS mm (G_undo mm) m1 := by rw [e1]; exact cs_e (nm_undo)
  clear e1
  show pw_V x m_law 12 Z 446 [(0, .ref 93), (1, .ref 0), (2, .ref 26), (3, .int (nI ix))] [.int (F_undo mm)] m1
  refine pw_blk (pc' := 447) [.aload 2] (by decide +kernel) ?_
  show pw_V x m_law 12 Z 447 [(0, .ref 93), (1, .ref 0), (2, .ref 26), (3, .int (nI ix))] [.ref 26, .int (F_undo mm)] m1
  refine pw_cV (vs := []) (rest := [.int (F_undo mm)]) k_X8_undo (c_mundo m1 (cs_mv cs iv.2) iv.1) l_9_67 rfl rfl rfl rfl (by decide) (Nat.le_of_ble_eq_true rfl) (by decide +kernel) ?_
  rintro _ m2 ⟨rfl, hv2, hf2⟩
  have iv2 : pw_IV m2 := iv_2 (ok_undo iv.1) cs hv2 hf2
  show pw_V x m_law 12 Z 450 [(0, .ref 93), (1, .ref 0), (2, .ref 26), (3, .int (nI ix))] [.int (F_undo mm), .int (F_undo mm)] m2
  refine pw_ic_eq (tgt := 828) (off := 378) (by decide +kernel) (by decide) (fun _ => hk m2 iv2) (fun h => absurd rfl h)
set_option maxHeartbeats 4000000 in
theorem law_c13 {x : pw_X} {Z : State → Prop} {L : Nat} {xs : Nat → Int32} (hx : pw_xX x = (L, xs)) (ix : Nat) (hi : ix + 6 ≤ L) (mm : pw_m) (iv : pw_IV mm) (hk : ∀ m' : pw_m, pw_IV m' → pw_V x m_law 12 Z 828 [(0, .ref 93), (1, .ref 0), (2, .ref 26), (3, .int (nI ix))] [] m') : pw_V x m_law 12 Z 455 [(0, .ref 93), (1, .ref 0), (2, .ref 26), (3, .int (nI ix))] [] mm := by
  refine pw_blk (pc' := 461) [.aload 1, .aload 0, .iload 3, .iconst 1, .iadd, .iaload] (by decide +kernel) ?_
  rw [hx]
  refine ⟨ix + 1, pw_ai ix 1, by omega, ?_⟩
  show pw_V x m_law 12 Z 461 [(0, .ref 93), (1, .ref 0), (2, .ref 26), (3, .int (nI ix))] [.int (xs (ix + 1)), .ref 0] mm
  refine pw_cV (vs := [.int (xs (ix + 1))]) (rest := []) k_X7_keep (c_keep (xs (ix + 1)) mm iv.1) l_9_68 rfl rfl rfl rfl (by decide) (Nat.le_of_ble_eq_true rfl) (by decide +kernel) ?_
  rintro _ m1 ⟨rfl, e1⟩
  have cs : pw_CS mm (G_keep mm (xs (ix + 1))) m1 := by rw [e1]; exact cs_e (nm_keep)
  clear e1
  show pw_V x m_law 12 Z 464 [(0, .ref 93), (1, .ref 0), (2, .ref 26), (3, .int (nI ix))] [.int (F_keep mm (xs (ix + 1)))] m1
  refine pw_blk (pc' := 470) [.aload 2, .aload 0, .iload 3, .iconst 1, .iadd, .iaload] (by decide +kernel) ?_
  rw [hx]
  refine ⟨ix + 1, pw_ai ix 1, by omega, ?_⟩
  show pw_V x m_law 12 Z 470 [(0, .ref 93), (1, .ref 0), (2, .ref 26), (3, .int (nI ix))] [.int (xs (ix + 1)), .ref 26, .int (F_keep mm (xs (ix + 1)))] m1
  refine pw_cV (vs := [.int (xs (ix + 1))]) (rest := [.int (F_keep mm (xs (ix + 1)))]) k_X8_keep (c_mkeep m1 (cs_mv cs iv.2) iv.1 (xs (ix + 1))) l_9_71 rfl rfl rfl rfl (by decide) (Nat.le_of_ble_eq_true rfl) (by decide +kernel) ?_
  rintro _ m2 ⟨rfl, hv2, hf2⟩
  have iv2 : pw_IV m2 := iv_2 (ok_keep iv.1) cs hv2 hf2
  show pw_V x m_law 12 Z 473 [(0, .ref 93), (1, .ref 0), (2, .ref 26), (3, .int (nI ix))] [.int (F_keep mm (xs (ix + 1))), .int (F_keep mm (xs (ix + 1)))] m2
  refine pw_ic_eq (tgt := 828) (off := 355) (by decide +kernel) (by decide) (fun _ => hk m2 iv2) (fun h => absurd rfl h)
set_option maxHeartbeats 4000000 in
theorem law_c14 {x : pw_X} {Z : State → Prop} {L : Nat} {xs : Nat → Int32} (hx : pw_xX x = (L, xs)) (ix : Nat) (hi : ix + 6 ≤ L) (mm : pw_m) (iv : pw_IV mm) (hk : ∀ m' : pw_m, pw_IV m' → pw_V x m_law 12 Z 828 [(0, .ref 93), (1, .ref 0), (2, .ref 26), (3, .int (nI ix))] [] m') : pw_V x m_law 12 Z 478 [(0, .ref 93), (1, .ref 0), (2, .ref 26), (3, .int (nI ix))] [] mm := by
  refine pw_blk (pc' := 484) [.aload 1, .aload 0, .iload 3, .iconst 1, .iadd, .iaload] (by decide +kernel) ?_
  rw [hx]
  refine ⟨ix + 1, pw_ai ix 1, by omega, ?_⟩
  show pw_V x m_law 12 Z 484 [(0, .ref 93), (1, .ref 0), (2, .ref 26), (3, .int (nI ix))] [.int (xs (ix + 1)), .ref 0] mm
  refine pw_cV (vs := [.int (xs (ix + 1))]) (rest := []) k_X7_back (c_back (xs (ix + 1)) mm iv.1) l_9_72 rfl rfl rfl rfl (by decide) (Nat.le_of_ble_eq_true rfl) (by decide +kernel) ?_
  rintro _ m1 ⟨rfl, e1⟩
  have cs : pw_CS mm (G_back mm (xs (ix + 1))) m1 := by rw [e1]; exact cs_e (nm_back)
  clear e1
  show pw_V x m_law 12 Z 487 [(0, .ref 93), (1, .ref 0), (2, .ref 26), (3, .int (nI ix))] [.int (F_back mm (xs (ix + 1)))] m1
  refine pw_blk (pc' := 493) [.aload 2, .aload 0, .iload 3, .iconst 1, .iadd, .iaload] (by decide +kernel) ?_
  rw [hx]
  refine ⟨ix + 1, pw_ai ix 1, by omega, ?_⟩
  show pw_V x m_law 12 Z 493 [(0, .ref 93), (1, .ref 0), (2, .ref 26), (3, .int (nI ix))] [.int (xs (ix + 1)), .ref 26, .int (F_back mm (xs (ix + 1)))] m1
  refine pw_cV (vs := [.int (xs (ix + 1))]) (rest := [.int (F_back mm (xs (ix + 1)))]) k_X8_back (c_mback m1 (cs_mv cs iv.2) iv.1 (xs (ix + 1))) l_9_75 rfl rfl rfl rfl (by decide) (Nat.le_of_ble_eq_true rfl) (by decide +kernel) ?_
  rintro _ m2 ⟨rfl, hv2, hf2⟩
  have iv2 : pw_IV m2 := iv_2 (ok_back iv.1) cs hv2 hf2
  show pw_V x m_law 12 Z 496 [(0, .ref 93), (1, .ref 0), (2, .ref 26), (3, .int (nI ix))] [.int (F_back mm (xs (ix + 1))), .int (F_back mm (xs (ix + 1)))] m2
  refine pw_ic_eq (tgt := 828) (off := 332) (by decide +kernel) (by decide) (fun _ => hk m2 iv2) (fun h => absurd rfl h)
set_option maxHeartbeats 4000000 in
theorem law_c15 {x : pw_X} {Z : State → Prop} {L : Nat} {xs : Nat → Int32} (hx : pw_xX x = (L, xs)) (ix : Nat) (hi : ix + 6 ≤ L) (mm : pw_m) (iv : pw_IV mm) (hk : ∀ m' : pw_m, pw_IV m' → pw_V x m_law 12 Z 828 [(0, .ref 93), (1, .ref 0), (2, .ref 26), (3, .int (nI ix))] [] m') : pw_V x m_law 12 Z 501 [(0, .ref 93), (1, .ref 0), (2, .ref 26), (3, .int (nI ix))] [] mm := by
  refine pw_blk (pc' := 502) [.aload 1] (by decide +kernel) ?_
  show pw_V x m_law 12 Z 502 [(0, .ref 93), (1, .ref 0), (2, .ref 26), (3, .int (nI ix))] [.ref 0] mm
  refine pw_cV (vs := []) (rest := []) k_X7_seatings (c_seatings mm iv.1) l_9_76 rfl rfl rfl rfl (by decide) (Nat.le_of_ble_eq_true rfl) (by decide +kernel) ?_
  rintro _ m1 ⟨rfl, e1⟩
  have cs : pw_CS mm mm m1 := cs_fr e1
  clear e1
  show pw_V x m_law 12 Z 505 [(0, .ref 93), (1, .ref 0), (2, .ref 26), (3, .int (nI ix))] [.int (nI (F_wy mm none))] m1
  refine pw_blk (pc' := 506) [.aload 2] (by decide +kernel) ?_
  show pw_V x m_law 12 Z 506 [(0, .ref 93), (1, .ref 0), (2, .ref 26), (3, .int (nI ix))] [.ref 26, .int (nI (F_wy mm none))] m1
  refine pw_cV (vs := []) (rest := [.int (nI (F_wy mm none))]) k_X8_seatings (c_mseatings m1 (cs_mv cs iv.2) iv.1) l_9_79 rfl rfl rfl rfl (by decide) (Nat.le_of_ble_eq_true rfl) (by decide +kernel) ?_
  rintro _ m2 ⟨rfl, hv2, hf2⟩
  have iv2 : pw_IV m2 := iv_2 (iv.1) cs hv2 hf2
  show pw_V x m_law 12 Z 509 [(0, .ref 93), (1, .ref 0), (2, .ref 26), (3, .int (nI ix))] [.int (nI (F_wy mm none)), .int (nI (F_wy mm none))] m2
  refine pw_ic_eq (tgt := 828) (off := 319) (by decide +kernel) (by decide) (fun _ => hk m2 iv2) (fun h => absurd rfl h)
set_option maxHeartbeats 4000000 in
theorem law_c16 {x : pw_X} {Z : State → Prop} {L : Nat} {xs : Nat → Int32} (hx : pw_xX x = (L, xs)) (ix : Nat) (hi : ix + 6 ≤ L) (mm : pw_m) (iv : pw_IV mm) (hk : ∀ m' : pw_m, pw_IV m' → pw_V x m_law 12 Z 828 [(0, .ref 93), (1, .ref 0), (2, .ref 26), (3, .int (nI ix))] [] m') : pw_V x m_law 12 Z 514 [(0, .ref 93), (1, .ref 0), (2, .ref 26), (3, .int (nI ix))] [] mm := by
  refine pw_blk (pc' := 520) [.aload 1, .aload 0, .iload 3, .iconst 1, .iadd, .iaload] (by decide +kernel) ?_
  rw [hx]
  refine ⟨ix + 1, pw_ai ix 1, by omega, ?_⟩
  show pw_V x m_law 12 Z 520 [(0, .ref 93), (1, .ref 0), (2, .ref 26), (3, .int (nI ix))] [.int (xs (ix + 1)), .ref 0] mm
  refine pw_cV (vs := [.int (xs (ix + 1))]) (rest := []) k_X7_seatOf (c_seatOf (xs (ix + 1)) mm iv.1) l_9_80 rfl rfl rfl rfl (by decide) (Nat.le_of_ble_eq_true rfl) (by decide +kernel) ?_
  rintro _ m1 ⟨rfl, e1⟩
  have cs : pw_CS mm mm m1 := cs_fr e1
  clear e1
  show pw_V x m_law 12 Z 523 [(0, .ref 93), (1, .ref 0), (2, .ref 26), (3, .int (nI ix))] [.int (F_seatOf mm (xs (ix + 1)))] m1
  refine pw_blk (pc' := 529) [.aload 2, .aload 0, .iload 3, .iconst 1, .iadd, .iaload] (by decide +kernel) ?_
  rw [hx]
  refine ⟨ix + 1, pw_ai ix 1, by omega, ?_⟩
  show pw_V x m_law 12 Z 529 [(0, .ref 93), (1, .ref 0), (2, .ref 26), (3, .int (nI ix))] [.int (xs (ix + 1)), .ref 26, .int (F_seatOf mm (xs (ix + 1)))] m1
  refine pw_cV (vs := [.int (xs (ix + 1))]) (rest := [.int (F_seatOf mm (xs (ix + 1)))]) k_X8_seatOf (c_mseatOf m1 (cs_mv cs iv.2) iv.1 (xs (ix + 1))) l_9_83 rfl rfl rfl rfl (by decide) (Nat.le_of_ble_eq_true rfl) (by decide +kernel) ?_
  rintro _ m2 ⟨rfl, hv2, hf2⟩
  have iv2 : pw_IV m2 := iv_2 (iv.1) cs hv2 hf2
  show pw_V x m_law 12 Z 532 [(0, .ref 93), (1, .ref 0), (2, .ref 26), (3, .int (nI ix))] [.int (F_seatOf mm (xs (ix + 1))), .int (F_seatOf mm (xs (ix + 1)))] m2
  refine pw_ic_eq (tgt := 828) (off := 296) (by decide +kernel) (by decide) (fun _ => hk m2 iv2) (fun h => absurd rfl h)
set_option maxHeartbeats 4000000 in
theorem law_c17 {x : pw_X} {Z : State → Prop} {L : Nat} {xs : Nat → Int32} (hx : pw_xX x = (L, xs)) (ix : Nat) (hi : ix + 6 ≤ L) (mm : pw_m) (iv : pw_IV mm) (hk : ∀ m' : pw_m, pw_IV m' → pw_V x m_law 12 Z 828 [(0, .ref 93), (1, .ref 0), (2, .ref 26), (3, .int (nI ix))] [] m') : pw_V x m_law 12 Z 537 [(0, .ref 93), (1, .ref 0), (2, .ref 26), (3, .int (nI ix))] [] mm := by
  refine pw_blk (pc' := 538) [.aload 1] (by decide +kernel) ?_
  show pw_V x m_law 12 Z 538 [(0, .ref 93), (1, .ref 0), (2, .ref 26), (3, .int (nI ix))] [.ref 0] mm
  refine pw_cV (vs := []) (rest := []) k_X7_moved (c_moved mm iv.1) l_9_84 rfl rfl rfl rfl (by decide) (Nat.le_of_ble_eq_true rfl) (by decide +kernel) ?_
  rintro _ m1 ⟨rfl, e1⟩
  have cs : pw_CS mm mm m1 := cs_fr e1
  clear e1
  show pw_V x m_law 12 Z 541 [(0, .ref 93), (1, .ref 0), (2, .ref 26), (3, .int (nI ix))] [.int (F_moved mm)] m1
  refine pw_blk (pc' := 542) [.aload 2] (by decide +kernel) ?_
  show pw_V x m_law 12 Z 542 [(0, .ref 93), (1, .ref 0), (2, .ref 26), (3, .int (nI ix))] [.ref 26, .int (F_moved mm)] m1
  refine pw_cV (vs := []) (rest := [.int (F_moved mm)]) k_X8_moved (c_mmoved m1 (cs_mv cs iv.2) iv.1) l_9_87 rfl rfl rfl rfl (by decide) (Nat.le_of_ble_eq_true rfl) (by decide +kernel) ?_
  rintro _ m2 ⟨rfl, hv2, hf2⟩
  have iv2 : pw_IV m2 := iv_2 (iv.1) cs hv2 hf2
  show pw_V x m_law 12 Z 545 [(0, .ref 93), (1, .ref 0), (2, .ref 26), (3, .int (nI ix))] [.int (F_moved mm), .int (F_moved mm)] m2
  refine pw_ic_eq (tgt := 828) (off := 283) (by decide +kernel) (by decide) (fun _ => hk m2 iv2) (fun h => absurd rfl h)
set_option maxHeartbeats 4000000 in
theorem law_c18 {x : pw_X} {Z : State → Prop} {L : Nat} {xs : Nat → Int32} (hx : pw_xX x = (L, xs)) (ix : Nat) (hi : ix + 6 ≤ L) (mm : pw_m) (iv : pw_IV mm) (hk : ∀ m' : pw_m, pw_IV m' → pw_V x m_law 12 Z 828 [(0, .ref 93), (1, .ref 0), (2, .ref 26), (3, .int (nI ix))] [] m') : pw_V x m_law 12 Z 550 [(0, .ref 93), (1, .ref 0), (2, .ref 26), (3, .int (nI ix))] [] mm := by
  refine pw_blk (pc' := 556) [.aload 1, .aload 0, .iload 3, .iconst 1, .iadd, .iaload] (by decide +kernel) ?_
  rw [hx]
  refine ⟨ix + 1, pw_ai ix 1, by omega, ?_⟩
  show pw_V x m_law 12 Z 556 [(0, .ref 93), (1, .ref 0), (2, .ref 26), (3, .int (nI ix))] [.int (xs (ix + 1)), .ref 0] mm
  refine pw_cV (vs := [.int (xs (ix + 1))]) (rest := []) k_X7_knows (c_knows (xs (ix + 1)) mm iv.1) l_9_88 rfl rfl rfl rfl (by decide) (Nat.le_of_ble_eq_true rfl) (by decide +kernel) ?_
  rintro _ m1 ⟨rfl, e1⟩
  have cs : pw_CS mm mm m1 := cs_fr e1
  clear e1
  show pw_V x m_law 12 Z 559 [(0, .ref 93), (1, .ref 0), (2, .ref 26), (3, .int (nI ix))] [.int (F_knows mm (xs (ix + 1)))] m1
  refine pw_blk (pc' := 565) [.aload 2, .aload 0, .iload 3, .iconst 1, .iadd, .iaload] (by decide +kernel) ?_
  rw [hx]
  refine ⟨ix + 1, pw_ai ix 1, by omega, ?_⟩
  show pw_V x m_law 12 Z 565 [(0, .ref 93), (1, .ref 0), (2, .ref 26), (3, .int (nI ix))] [.int (xs (ix + 1)), .ref 26, .int (F_knows mm (xs (ix + 1)))] m1
  refine pw_cV (vs := [.int (xs (ix + 1))]) (rest := [.int (F_knows mm (xs (ix + 1)))]) k_X8_knows (c_mknows m1 (cs_mv cs iv.2) iv.1 (xs (ix + 1))) l_9_91 rfl rfl rfl rfl (by decide) (Nat.le_of_ble_eq_true rfl) (by decide +kernel) ?_
  rintro _ m2 ⟨rfl, hv2, hf2⟩
  have iv2 : pw_IV m2 := iv_2 (iv.1) cs hv2 hf2
  show pw_V x m_law 12 Z 568 [(0, .ref 93), (1, .ref 0), (2, .ref 26), (3, .int (nI ix))] [.int (F_knows mm (xs (ix + 1))), .int (F_knows mm (xs (ix + 1)))] m2
  refine pw_ic_eq (tgt := 828) (off := 260) (by decide +kernel) (by decide) (fun _ => hk m2 iv2) (fun h => absurd rfl h)
set_option maxHeartbeats 4000000 in
theorem law_c19 {x : pw_X} {Z : State → Prop} {L : Nat} {xs : Nat → Int32} (hx : pw_xX x = (L, xs)) (ix : Nat) (hi : ix + 6 ≤ L) (mm : pw_m) (iv : pw_IV mm) (hk : ∀ m' : pw_m, pw_IV m' → pw_V x m_law 12 Z 828 [(0, .ref 93), (1, .ref 0), (2, .ref 26), (3, .int (nI ix))] [] m') : pw_V x m_law 12 Z 573 [(0, .ref 93), (1, .ref 0), (2, .ref 26), (3, .int (nI ix))] [] mm := by
  refine pw_blk (pc' := 579) [.aload 1, .aload 0, .iload 3, .iconst 1, .iadd, .iaload] (by decide +kernel) ?_
  rw [hx]
  refine ⟨ix + 1, pw_ai ix 1, by omega, ?_⟩
  show pw_V x m_law 12 Z 579 [(0, .ref 93), (1, .ref 0), (2, .ref 26), (3, .int (nI ix))] [.int (xs (ix + 1)), .ref 0] mm
  refine pw_cV (vs := [.int (xs (ix + 1))]) (rest := []) k_X7_judge (c_judge (xs (ix + 1)) mm iv.1) l_9_92 rfl rfl rfl rfl (by decide) (Nat.le_of_ble_eq_true rfl) (by decide +kernel) ?_
  rintro _ m1 ⟨rfl, e1⟩
  have cs : pw_CS mm mm m1 := by rw [e1]; exact cs_e (nmm_r)
  clear e1
  show pw_V x m_law 12 Z 582 [(0, .ref 93), (1, .ref 0), (2, .ref 26), (3, .int (nI ix))] [.int (F_judge mm (xs (ix + 1)))] m1
  refine pw_blk (pc' := 588) [.aload 2, .aload 0, .iload 3, .iconst 1, .iadd, .iaload] (by decide +kernel) ?_
  rw [hx]
  refine ⟨ix + 1, pw_ai ix 1, by omega, ?_⟩
  show pw_V x m_law 12 Z 588 [(0, .ref 93), (1, .ref 0), (2, .ref 26), (3, .int (nI ix))] [.int (xs (ix + 1)), .ref 26, .int (F_judge mm (xs (ix + 1)))] m1
  refine pw_cV (vs := [.int (xs (ix + 1))]) (rest := [.int (F_judge mm (xs (ix + 1)))]) k_X8_judge (c_mjudge m1 (cs_mv cs iv.2) iv.1 (xs (ix + 1))) l_9_95 rfl rfl rfl rfl (by decide) (Nat.le_of_ble_eq_true rfl) (by decide +kernel) ?_
  rintro _ m2 ⟨rfl, e2⟩
  have iv2 : pw_IV m2 := by rw [e2]; exact iv_1 iv cs
  show pw_V x m_law 12 Z 591 [(0, .ref 93), (1, .ref 0), (2, .ref 26), (3, .int (nI ix))] [.int (F_judge mm (xs (ix + 1))), .int (F_judge mm (xs (ix + 1)))] m2
  refine pw_ic_eq (tgt := 828) (off := 237) (by decide +kernel) (by decide) (fun _ => hk m2 iv2) (fun h => absurd rfl h)
set_option maxHeartbeats 4000000 in
theorem law_c20 {x : pw_X} {Z : State → Prop} {L : Nat} {xs : Nat → Int32} (hx : pw_xX x = (L, xs)) (ix : Nat) (hi : ix + 6 ≤ L) (mm : pw_m) (iv : pw_IV mm) (hk : ∀ m' : pw_m, pw_IV m' → pw_V x m_law 12 Z 828 [(0, .ref 93), (1, .ref 0), (2, .ref 26), (3, .int (nI ix))] [] m') : pw_V x m_law 12 Z 596 [(0, .ref 93), (1, .ref 0), (2, .ref 26), (3, .int (nI ix))] [] mm := by
  refine pw_blk (pc' := 617) [.aload 1, .aload 0, .iload 3, .iconst 1, .iadd, .iaload, .aload 0, .iload 3, .iconst 2, .iadd, .iaload, .aload 0, .iload 3, .iconst 3, .iadd, .iaload, .aload 0, .iload 3, .iconst 4, .iadd, .iaload] (by decide +kernel) ?_
  rw [hx]
  refine ⟨ix + 1, pw_ai ix 1, by omega, ?_⟩
  refine ⟨ix + 2, pw_ai ix 2, by omega, ?_⟩
  refine ⟨ix + 3, pw_ai ix 3, by omega, ?_⟩
  refine ⟨ix + 4, pw_ai ix 4, by omega, ?_⟩
  show pw_V x m_law 12 Z 617 [(0, .ref 93), (1, .ref 0), (2, .ref 26), (3, .int (nI ix))] [.int (xs (ix + 4)), .int (xs (ix + 3)), .int (xs (ix + 2)), .int (xs (ix + 1)), .ref 0] mm
  refine pw_cV (vs := [.int (xs (ix + 1)), .int (xs (ix + 2)), .int (xs (ix + 3)), .int (xs (ix + 4))]) (rest := []) k_X7_seen (c_seen (xs (ix + 1)) (xs (ix + 2)) (xs (ix + 3)) (xs (ix + 4)) mm iv.1) l_9_96 rfl rfl rfl rfl (by decide) (Nat.le_of_ble_eq_true rfl) (by decide +kernel) ?_
  rintro _ m1 ⟨rfl, e1⟩
  have cs : pw_CS mm (G_seen mm (xs (ix + 1)) (xs (ix + 2)) (xs (ix + 3)) (xs (ix + 4))) m1 := by rw [e1]; exact cs_e (nm_seen)
  clear e1
  show pw_V x m_law 12 Z 620 [(0, .ref 93), (1, .ref 0), (2, .ref 26), (3, .int (nI ix))] [.int (F_seen mm (xs (ix + 1)) (xs (ix + 2)) (xs (ix + 3)) (xs (ix + 4)))] m1
  refine pw_blk (pc' := 641) [.aload 2, .aload 0, .iload 3, .iconst 1, .iadd, .iaload, .aload 0, .iload 3, .iconst 2, .iadd, .iaload, .aload 0, .iload 3, .iconst 3, .iadd, .iaload, .aload 0, .iload 3, .iconst 4, .iadd, .iaload] (by decide +kernel) ?_
  rw [hx]
  refine ⟨ix + 1, pw_ai ix 1, by omega, ?_⟩
  refine ⟨ix + 2, pw_ai ix 2, by omega, ?_⟩
  refine ⟨ix + 3, pw_ai ix 3, by omega, ?_⟩
  refine ⟨ix + 4, pw_ai ix 4, by omega, ?_⟩
  show pw_V x m_law 12 Z 641 [(0, .ref 93), (1, .ref 0), (2, .ref 26), (3, .int (nI ix))] [.int (xs (ix + 4)), .int (xs (ix + 3)), .int (xs (ix + 2)), .int (xs (ix + 1)), .ref 26, .int (F_seen mm (xs (ix + 1)) (xs (ix + 2)) (xs (ix + 3)) (xs (ix + 4)))] m1
  refine pw_cV (vs := [.int (xs (ix + 1)), .int (xs (ix + 2)), .int (xs (ix + 3)), .int (xs (ix + 4))]) (rest := [.int (F_seen mm (xs (ix + 1)) (xs (ix + 2)) (xs (ix + 3)) (xs (ix + 4)))]) k_X8_seen (c_mseen m1 (cs_mv cs iv.2) iv.1 (xs (ix + 1)) (xs (ix + 2)) (xs (ix + 3)) (xs (ix + 4))) l_9_100 rfl rfl rfl rfl (by decide) (Nat.le_of_ble_eq_true rfl) (by decide +kernel) ?_
  rintro _ m2 ⟨rfl, hv2, hf2⟩
  have iv2 : pw_IV m2 := iv_2 (ok_seen iv.1) cs hv2 hf2
  show pw_V x m_law 12 Z 644 [(0, .ref 93), (1, .ref 0), (2, .ref 26), (3, .int (nI ix))] [.int (F_seen mm (xs (ix + 1)) (xs (ix + 2)) (xs (ix + 3)) (xs (ix + 4))), .int (F_seen mm (xs (ix + 1)) (xs (ix + 2)) (xs (ix + 3)) (xs (ix + 4)))] m2
  refine pw_ic_eq (tgt := 828) (off := 184) (by decide +kernel) (by decide) (fun _ => hk m2 iv2) (fun h => absurd rfl h)
set_option maxHeartbeats 4000000 in
theorem law_c21 {x : pw_X} {Z : State → Prop} {L : Nat} {xs : Nat → Int32} (hx : pw_xX x = (L, xs)) (ix : Nat) (hi : ix + 6 ≤ L) (mm : pw_m) (iv : pw_IV mm) (hk : ∀ m' : pw_m, pw_IV m' → pw_V x m_law 12 Z 828 [(0, .ref 93), (1, .ref 0), (2, .ref 26), (3, .int (nI ix))] [] m') : pw_V x m_law 12 Z 649 [(0, .ref 93), (1, .ref 0), (2, .ref 26), (3, .int (nI ix))] [] mm := by
  refine pw_blk (pc' := 650) [.aload 1] (by decide +kernel) ?_
  show pw_V x m_law 12 Z 650 [(0, .ref 93), (1, .ref 0), (2, .ref 26), (3, .int (nI ix))] [.ref 0] mm
  refine pw_cV (vs := []) (rest := []) k_X7_forget (c_forget mm) l_9_101 rfl rfl rfl rfl (by decide) (Nat.le_of_ble_eq_true rfl) (by decide +kernel) ?_
  rintro _ m1 ⟨rfl, e1⟩
  have cs : pw_CS mm (pw_up mm 14 4 0) m1 := by rw [e1]; exact cs_e (nm_up nmm_r (by omega))
  clear e1
  show pw_V x m_law 12 Z 653 [(0, .ref 93), (1, .ref 0), (2, .ref 26), (3, .int (nI ix))] [.int (mm 14 4)] m1
  refine pw_blk (pc' := 654) [.aload 2] (by decide +kernel) ?_
  show pw_V x m_law 12 Z 654 [(0, .ref 93), (1, .ref 0), (2, .ref 26), (3, .int (nI ix))] [.ref 26, .int (mm 14 4)] m1
  refine pw_cV (vs := []) (rest := [.int (mm 14 4)]) k_X8_forget (c_mforget m1 (cs_mv cs iv.2) iv.1) l_9_104 rfl rfl rfl rfl (by decide) (Nat.le_of_ble_eq_true rfl) (by decide +kernel) ?_
  rintro _ m2 ⟨rfl, hv2, hf2⟩
  have iv2 : pw_IV m2 := iv_2 (ok_forget iv.1) cs hv2 hf2
  show pw_V x m_law 12 Z 657 [(0, .ref 93), (1, .ref 0), (2, .ref 26), (3, .int (nI ix))] [.int (mm 14 4), .int (mm 14 4)] m2
  refine pw_ic_eq (tgt := 828) (off := 171) (by decide +kernel) (by decide) (fun _ => hk m2 iv2) (fun h => absurd rfl h)
set_option maxHeartbeats 4000000 in
theorem law_c22 {x : pw_X} {Z : State → Prop} {L : Nat} {xs : Nat → Int32} (hx : pw_xX x = (L, xs)) (ix : Nat) (hi : ix + 6 ≤ L) (mm : pw_m) (iv : pw_IV mm) (hk : ∀ m' : pw_m, pw_IV m' → pw_V x m_law 12 Z 828 [(0, .ref 93), (1, .ref 0), (2, .ref 26), (3, .int (nI ix))] [] m') : pw_V x m_law 12 Z 662 [(0, .ref 93), (1, .ref 0), (2, .ref 26), (3, .int (nI ix))] [] mm := by
  refine pw_blk (pc' := 668) [.aload 1, .aload 0, .iload 3, .iconst 1, .iadd, .iaload] (by decide +kernel) ?_
  rw [hx]
  refine ⟨ix + 1, pw_ai ix 1, by omega, ?_⟩
  show pw_V x m_law 12 Z 668 [(0, .ref 93), (1, .ref 0), (2, .ref 26), (3, .int (nI ix))] [.int (xs (ix + 1)), .ref 0] mm
  refine pw_cV (vs := [.int (xs (ix + 1))]) (rest := []) k_X7_worlds (c_worlds (xs (ix + 1)) mm iv.1) l_9_105 rfl rfl rfl rfl (by decide) (Nat.le_of_ble_eq_true rfl) (by decide +kernel) ?_
  rintro _ m1 ⟨rfl, e1⟩
  have cs : pw_CS mm mm m1 := cs_frw e1
  clear e1
  show pw_V x m_law 12 Z 671 [(0, .ref 93), (1, .ref 0), (2, .ref 26), (3, .int (nI ix))] [.int (F_worlds mm (xs (ix + 1)))] m1
  refine pw_blk (pc' := 677) [.aload 2, .aload 0, .iload 3, .iconst 1, .iadd, .iaload] (by decide +kernel) ?_
  rw [hx]
  refine ⟨ix + 1, pw_ai ix 1, by omega, ?_⟩
  show pw_V x m_law 12 Z 677 [(0, .ref 93), (1, .ref 0), (2, .ref 26), (3, .int (nI ix))] [.int (xs (ix + 1)), .ref 26, .int (F_worlds mm (xs (ix + 1)))] m1
  refine pw_cV (vs := [.int (xs (ix + 1))]) (rest := [.int (F_worlds mm (xs (ix + 1)))]) k_X8_worlds (c_mworlds m1 (cs_mv cs iv.2) iv.1 (xs (ix + 1))) l_9_108 rfl rfl rfl rfl (by decide) (Nat.le_of_ble_eq_true rfl) (by decide +kernel) ?_
  rintro _ m2 ⟨rfl, e2⟩
  have iv2 : pw_IV m2 := by rw [e2]; exact iv_1 iv cs
  show pw_V x m_law 12 Z 680 [(0, .ref 93), (1, .ref 0), (2, .ref 26), (3, .int (nI ix))] [.int (F_worlds mm (xs (ix + 1))), .int (F_worlds mm (xs (ix + 1)))] m2
  refine pw_ic_eq (tgt := 828) (off := 148) (by decide +kernel) (by decide) (fun _ => hk m2 iv2) (fun h => absurd rfl h)
set_option maxHeartbeats 4000000 in
theorem law_c23 {x : pw_X} {Z : State → Prop} {L : Nat} {xs : Nat → Int32} (hx : pw_xX x = (L, xs)) (ix : Nat) (hi : ix + 6 ≤ L) (mm : pw_m) (iv : pw_IV mm) (hk : ∀ m' : pw_m, pw_IV m' → pw_V x m_law 12 Z 828 [(0, .ref 93), (1, .ref 0), (2, .ref 26), (3, .int (nI ix))] [] m') : pw_V x m_law 12 Z 685 [(0, .ref 93), (1, .ref 0), (2, .ref 26), (3, .int (nI ix))] [] mm := by
  refine pw_blk (pc' := 696) [.aload 1, .aload 0, .iload 3, .iconst 1, .iadd, .iaload, .aload 0, .iload 3, .iconst 2, .iadd, .iaload] (by decide +kernel) ?_
  rw [hx]
  refine ⟨ix + 1, pw_ai ix 1, by omega, ?_⟩
  refine ⟨ix + 2, pw_ai ix 2, by omega, ?_⟩
  show pw_V x m_law 12 Z 696 [(0, .ref 93), (1, .ref 0), (2, .ref 26), (3, .int (nI ix))] [.int (xs (ix + 2)), .int (xs (ix + 1)), .ref 0] mm
  refine pw_cV (vs := [.int (xs (ix + 1)), .int (xs (ix + 2))]) (rest := []) k_X7_safest (c_safest (xs (ix + 1)) (xs (ix + 2)) mm iv.1) l_9_109 rfl rfl rfl rfl (by decide) (Nat.le_of_ble_eq_true rfl) (by decide +kernel) ?_
  rintro _ m1 ⟨rfl, e1⟩
  have cs : pw_CS mm mm m1 := cs_frw e1
  clear e1
  show pw_V x m_law 12 Z 699 [(0, .ref 93), (1, .ref 0), (2, .ref 26), (3, .int (nI ix))] [.int (F_safest mm (xs (ix + 1)) (xs (ix + 2)))] m1
  refine pw_blk (pc' := 710) [.aload 2, .aload 0, .iload 3, .iconst 1, .iadd, .iaload, .aload 0, .iload 3, .iconst 2, .iadd, .iaload] (by decide +kernel) ?_
  rw [hx]
  refine ⟨ix + 1, pw_ai ix 1, by omega, ?_⟩
  refine ⟨ix + 2, pw_ai ix 2, by omega, ?_⟩
  show pw_V x m_law 12 Z 710 [(0, .ref 93), (1, .ref 0), (2, .ref 26), (3, .int (nI ix))] [.int (xs (ix + 2)), .int (xs (ix + 1)), .ref 26, .int (F_safest mm (xs (ix + 1)) (xs (ix + 2)))] m1
  refine pw_cV (vs := [.int (xs (ix + 1)), .int (xs (ix + 2))]) (rest := [.int (F_safest mm (xs (ix + 1)) (xs (ix + 2)))]) k_X8_safest (c_msafest m1 (cs_mv cs iv.2) iv.1 (xs (ix + 1)) (xs (ix + 2))) l_9_112 rfl rfl rfl rfl (by decide) (Nat.le_of_ble_eq_true rfl) (by decide +kernel) ?_
  rintro _ m2 ⟨rfl, e2⟩
  have iv2 : pw_IV m2 := by rw [e2]; exact iv_1 iv cs
  show pw_V x m_law 12 Z 713 [(0, .ref 93), (1, .ref 0), (2, .ref 26), (3, .int (nI ix))] [.int (F_safest mm (xs (ix + 1)) (xs (ix + 2))), .int (F_safest mm (xs (ix + 1)) (xs (ix + 2)))] m2
  refine pw_ic_eq (tgt := 828) (off := 115) (by decide +kernel) (by decide) (fun _ => hk m2 iv2) (fun h => absurd rfl h)
set_option maxHeartbeats 4000000 in
theorem law_c24 {x : pw_X} {Z : State → Prop} {L : Nat} {xs : Nat → Int32} (hx : pw_xX x = (L, xs)) (ix : Nat) (hi : ix + 6 ≤ L) (mm : pw_m) (iv : pw_IV mm) (hk : ∀ m' : pw_m, pw_IV m' → pw_V x m_law 12 Z 828 [(0, .ref 93), (1, .ref 0), (2, .ref 26), (3, .int (nI ix))] [] m') : pw_V x m_law 12 Z 718 [(0, .ref 93), (1, .ref 0), (2, .ref 26), (3, .int (nI ix))] [] mm := by
  refine pw_blk (pc' := 744) [.aload 1, .aload 0, .iload 3, .iconst 1, .iadd, .iaload, .aload 0, .iload 3, .iconst 2, .iadd, .iaload, .aload 0, .iload 3, .iconst 3, .iadd, .iaload, .aload 0, .iload 3, .iconst 4, .iadd, .iaload, .aload 0, .iload 3, .iconst 5, .iadd, .iaload] (by decide +kernel) ?_
  rw [hx]
  refine ⟨ix + 1, pw_ai ix 1, by omega, ?_⟩
  refine ⟨ix + 2, pw_ai ix 2, by omega, ?_⟩
  refine ⟨ix + 3, pw_ai ix 3, by omega, ?_⟩
  refine ⟨ix + 4, pw_ai ix 4, by omega, ?_⟩
  refine ⟨ix + 5, pw_ai ix 5, by omega, ?_⟩
  show pw_V x m_law 12 Z 744 [(0, .ref 93), (1, .ref 0), (2, .ref 26), (3, .int (nI ix))] [.int (xs (ix + 5)), .int (xs (ix + 4)), .int (xs (ix + 3)), .int (xs (ix + 2)), .int (xs (ix + 1)), .ref 0] mm
  refine pw_cV (vs := [.int (xs (ix + 1)), .int (xs (ix + 2)), .int (xs (ix + 3)), .int (xs (ix + 4)), .int (xs (ix + 5))]) (rest := []) k_X7_quests (c_quests (xs (ix + 1)) (xs (ix + 2)) (xs (ix + 3)) (xs (ix + 4)) (xs (ix + 5)) mm iv.1) l_9_113 rfl rfl rfl rfl (by decide) (Nat.le_of_ble_eq_true rfl) (by decide +kernel) ?_
  rintro _ m1 ⟨rfl, e1⟩
  have cs : pw_CS mm mm m1 := by rw [e1]; exact cs_e (nmm_r)
  clear e1
  show pw_V x m_law 12 Z 747 [(0, .ref 93), (1, .ref 0), (2, .ref 26), (3, .int (nI ix))] [.long (F_quests mm (xs (ix + 1)) (xs (ix + 2)) (xs (ix + 3)) (xs (ix + 4)) (xs (ix + 5)))] m1
  refine pw_blk (pc' := 773) [.aload 2, .aload 0, .iload 3, .iconst 1, .iadd, .iaload, .aload 0, .iload 3, .iconst 2, .iadd, .iaload, .aload 0, .iload 3, .iconst 3, .iadd, .iaload, .aload 0, .iload 3, .iconst 4, .iadd, .iaload, .aload 0, .iload 3, .iconst 5, .iadd, .iaload] (by decide +kernel) ?_
  rw [hx]
  refine ⟨ix + 1, pw_ai ix 1, by omega, ?_⟩
  refine ⟨ix + 2, pw_ai ix 2, by omega, ?_⟩
  refine ⟨ix + 3, pw_ai ix 3, by omega, ?_⟩
  refine ⟨ix + 4, pw_ai ix 4, by omega, ?_⟩
  refine ⟨ix + 5, pw_ai ix 5, by omega, ?_⟩
  show pw_V x m_law 12 Z 773 [(0, .ref 93), (1, .ref 0), (2, .ref 26), (3, .int (nI ix))] [.int (xs (ix + 5)), .int (xs (ix + 4)), .int (xs (ix + 3)), .int (xs (ix + 2)), .int (xs (ix + 1)), .ref 26, .long (F_quests mm (xs (ix + 1)) (xs (ix + 2)) (xs (ix + 3)) (xs (ix + 4)) (xs (ix + 5)))] m1
  refine pw_cV (vs := [.int (xs (ix + 1)), .int (xs (ix + 2)), .int (xs (ix + 3)), .int (xs (ix + 4)), .int (xs (ix + 5))]) (rest := [.long (F_quests mm (xs (ix + 1)) (xs (ix + 2)) (xs (ix + 3)) (xs (ix + 4)) (xs (ix + 5)))]) k_X8_quests (c_mquests m1 (cs_mv cs iv.2) iv.1 (xs (ix + 1)) (xs (ix + 2)) (xs (ix + 3)) (xs (ix + 4)) (xs (ix + 5))) l_9_117 rfl rfl rfl rfl (by decide) (Nat.le_of_ble_eq_true rfl) (by decide +kernel) ?_
  rintro _ m2 ⟨rfl, e2⟩
  have iv2 : pw_IV m2 := by rw [e2]; exact iv_1 iv cs
  show pw_V x m_law 12 Z 776 [(0, .ref 93), (1, .ref 0), (2, .ref 26), (3, .int (nI ix))] [.long (F_quests mm (xs (ix + 1)) (xs (ix + 2)) (xs (ix + 3)) (xs (ix + 4)) (xs (ix + 5))), .long (F_quests mm (xs (ix + 1)) (xs (ix + 2)) (xs (ix + 3)) (xs (ix + 4)) (xs (ix + 5)))] m2
  refine pw_blk (pc' := 777) [.lcmp] (by decide +kernel) ?_
  show pw_V x m_law 12 Z 777 [(0, .ref 93), (1, .ref 0), (2, .ref 26), (3, .int (nI ix))] [.int (lg_cmp (F_quests mm (xs (ix + 1)) (xs (ix + 2)) (xs (ix + 3)) (xs (ix + 4)) (xs (ix + 5))) (F_quests mm (xs (ix + 1)) (xs (ix + 2)) (xs (ix + 3)) (xs (ix + 4)) (xs (ix + 5))))] m2
  refine pw_if_eq (tgt := 828) (off := 51) (by decide +kernel) (by decide) (fun _ => hk m2 iv2) (fun h => absurd (by simp [lg_cmp]) h)
set_option maxHeartbeats 4000000 in
theorem law_c25 {x : pw_X} {Z : State → Prop} {L : Nat} {xs : Nat → Int32} (hx : pw_xX x = (L, xs)) (ix : Nat) (hi : ix + 6 ≤ L) (mm : pw_m) (iv : pw_IV mm) (hk : ∀ m' : pw_m, pw_IV m' → pw_V x m_law 12 Z 828 [(0, .ref 93), (1, .ref 0), (2, .ref 26), (3, .int (nI ix))] [] m') : pw_V x m_law 12 Z 782 [(0, .ref 93), (1, .ref 0), (2, .ref 26), (3, .int (nI ix))] [] mm := by
  refine pw_blk (pc' := 788) [.aload 1, .aload 0, .iload 3, .iconst 1, .iadd, .iaload] (by decide +kernel) ?_
  rw [hx]
  refine ⟨ix + 1, pw_ai ix 1, by omega, ?_⟩
  show pw_V x m_law 12 Z 788 [(0, .ref 93), (1, .ref 0), (2, .ref 26), (3, .int (nI ix))] [.int (xs (ix + 1)), .ref 0] mm
  refine pw_cV (vs := [.int (xs (ix + 1))]) (rest := []) k_X7_lent (c_lent (xs (ix + 1)) mm iv.1) l_9_118 rfl rfl rfl rfl (by decide) (Nat.le_of_ble_eq_true rfl) (by decide +kernel) ?_
  rintro _ m1 ⟨rfl, e1⟩
  have cs : pw_CS mm mm m1 := cs_fr e1
  clear e1
  show pw_V x m_law 12 Z 791 [(0, .ref 93), (1, .ref 0), (2, .ref 26), (3, .int (nI ix))] [.int (F_lent mm (xs (ix + 1)))] m1
  refine pw_blk (pc' := 797) [.aload 2, .aload 0, .iload 3, .iconst 1, .iadd, .iaload] (by decide +kernel) ?_
  rw [hx]
  refine ⟨ix + 1, pw_ai ix 1, by omega, ?_⟩
  show pw_V x m_law 12 Z 797 [(0, .ref 93), (1, .ref 0), (2, .ref 26), (3, .int (nI ix))] [.int (xs (ix + 1)), .ref 26, .int (F_lent mm (xs (ix + 1)))] m1
  refine pw_cV (vs := [.int (xs (ix + 1))]) (rest := [.int (F_lent mm (xs (ix + 1)))]) k_X8_lent (c_mlent m1 (cs_mv cs iv.2) iv.1 (xs (ix + 1))) l_9_121 rfl rfl rfl rfl (by decide) (Nat.le_of_ble_eq_true rfl) (by decide +kernel) ?_
  rintro _ m2 ⟨rfl, hv2, hf2⟩
  have iv2 : pw_IV m2 := iv_2 (iv.1) cs hv2 hf2
  show pw_V x m_law 12 Z 800 [(0, .ref 93), (1, .ref 0), (2, .ref 26), (3, .int (nI ix))] [.int (F_lent mm (xs (ix + 1))), .int (F_lent mm (xs (ix + 1)))] m2
  refine pw_ic_eq (tgt := 828) (off := 28) (by decide +kernel) (by decide) (fun _ => hk m2 iv2) (fun h => absurd rfl h)
set_option maxHeartbeats 4000000 in
theorem law_c26 {x : pw_X} {Z : State → Prop} {L : Nat} {xs : Nat → Int32} (hx : pw_xX x = (L, xs)) (ix : Nat) (hi : ix + 6 ≤ L) (mm : pw_m) (iv : pw_IV mm) (hk : ∀ m' : pw_m, pw_IV m' → pw_V x m_law 12 Z 828 [(0, .ref 93), (1, .ref 0), (2, .ref 26), (3, .int (nI ix))] [] m') : pw_V x m_law 12 Z 805 [(0, .ref 93), (1, .ref 0), (2, .ref 26), (3, .int (nI ix))] [] mm := by
  refine pw_blk (pc' := 811) [.aload 1, .aload 0, .iload 3, .iconst 1, .iadd, .iaload] (by decide +kernel) ?_
  rw [hx]
  refine ⟨ix + 1, pw_ai ix 1, by omega, ?_⟩
  show pw_V x m_law 12 Z 811 [(0, .ref 93), (1, .ref 0), (2, .ref 26), (3, .int (nI ix))] [.int (xs (ix + 1)), .ref 0] mm
  refine pw_cV (vs := [.int (xs (ix + 1))]) (rest := []) k_X7_count (c_count (xs (ix + 1)) mm iv.1) l_9_122 rfl rfl rfl rfl (by decide) (Nat.le_of_ble_eq_true rfl) (by decide +kernel) ?_
  rintro _ m1 ⟨rfl, e1⟩
  have cs : pw_CS mm mm m1 := by rw [e1]; exact cs_e (nmm_r)
  clear e1
  show pw_V x m_law 12 Z 814 [(0, .ref 93), (1, .ref 0), (2, .ref 26), (3, .int (nI ix))] [.int (F_count mm (xs (ix + 1)))] m1
  refine pw_blk (pc' := 820) [.aload 2, .aload 0, .iload 3, .iconst 1, .iadd, .iaload] (by decide +kernel) ?_
  rw [hx]
  refine ⟨ix + 1, pw_ai ix 1, by omega, ?_⟩
  show pw_V x m_law 12 Z 820 [(0, .ref 93), (1, .ref 0), (2, .ref 26), (3, .int (nI ix))] [.int (xs (ix + 1)), .ref 26, .int (F_count mm (xs (ix + 1)))] m1
  refine pw_cV (vs := [.int (xs (ix + 1))]) (rest := [.int (F_count mm (xs (ix + 1)))]) k_X8_count (c_mcount m1 (cs_mv cs iv.2) iv.1 (xs (ix + 1))) l_9_125 rfl rfl rfl rfl (by decide) (Nat.le_of_ble_eq_true rfl) (by decide +kernel) ?_
  rintro _ m2 ⟨rfl, e2⟩
  have iv2 : pw_IV m2 := by rw [e2]; exact iv_1 iv cs
  show pw_V x m_law 12 Z 823 [(0, .ref 93), (1, .ref 0), (2, .ref 26), (3, .int (nI ix))] [.int (F_count mm (xs (ix + 1))), .int (F_count mm (xs (ix + 1)))] m2
  refine pw_ic_eq (tgt := 828) (off := 5) (by decide +kernel) (by decide) (fun _ => hk m2 iv2) (fun h => absurd rfl h)
