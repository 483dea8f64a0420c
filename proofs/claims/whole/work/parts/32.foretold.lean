theorem pw_PL0 {m : pw_m} {n th : Nat} {pl : Nat → Nat} : pw_PL m n th pl 0 := fun j hj => absurd hj (by omega)
theorem pw_SC_ps {A : pw_m} (h : pw_ok A) (q : Option Nat) : pw_SC (pw_psI A q (pw_k A)) (pw_n A) (pw_k A) (pw_g A 42 1) (pw_gd A q) (fun k => pw_g A 10 k) := by
  refine ⟨⟨pw_bn h, pw_bk h, pw_b421' h⟩, ⟨?_, ?_, ?_⟩, fun k hk => ⟨⟨?_, pw_ob_lt⟩, ?_, pw_b10 h (Nat.lt_of_lt_of_le hk (pw_bk h))⟩⟩
  · exact pw_q40 h
  · exact pw_q41 h
  · exact pw_q421 h
  · show pw_c6 (A 21) (fun k => nI (pw_gd A q k)) (pw_k A) k = _
    unfold pw_c6
    rw [if_pos hk]
  · show pw_c6 (A 22) (A 10) (pw_k A) k = _
    unfold pw_c6
    rw [if_pos hk]
    exact pw_q10 h (Nat.lt_of_lt_of_le hk (pw_bk h))
/-- cells that a search leaves alone -/
def pw_fr_ (A B : pw_m) : Prop := ∀ c, (c < 20 ∨ 25 ≤ c) → B c = A c
theorem pw_fr_ps {A : pw_m} {q : Option Nat} {i : Nat} : pw_fr_ A (pw_psI A q i) := fun c hc => pw_psI_o (by omega)
theorem pw_fr_ok {A B : pw_m} (h : pw_fr_ A B) (q : pw_ok A) : pw_ok B := pw_ok_f (fun c hc => h c (by omega)) (by rw [h 2 (by omega)]) (by rw [h 14 (by omega)]) q
def F_wy (A : pw_m) (q : Option Nat) : Nat := pw_wy (pw_n A) (pw_k A) (pw_g A 42 1) (pw_gd A q) (fun k => pw_g A 10 k) (pw_k A) (fun _ => 0) 0
def F_ft (A : pw_m) : Option (Nat → Nat) := pw_fT (pw_n A) (pw_k A) (pw_g A 42 1) (pw_gd A none) (fun k => pw_g A 10 k) (pw_k A) (fun _ => 0) 0
def F_fw (A : pw_m) : Nat := pw_fw (pw_n A) (pw_k A) (pw_g A 42 1) (pw_gd A none) (fun k => pw_g A 10 k) (pw_psI A none (pw_k A) 24) (pw_k A) (fun _ => 0) 0 0 7
def F_mo (A : pw_m) (w : Nat) : Option Nat := pw_mo (pw_n A) (pw_k A) (pw_g A 42 1) (pw_gd A none) (fun k => pw_g A 10 k) (pw_ob (pw_kn A w) (pw_k A)) (min (pw_pc (pw_g A 42 1)) (2 * pw_pc (pw_ob (pw_kn A w) (pw_k A)))) (pw_k A) (fun _ => 0) 0 0 none
def F_seatOf (A : pw_m) (k : Int32) : Int32 := if pw_inr k (pw_k A) then (if (pw_g A 42 1).testBit (pw_c k) then (match F_ft A with
  | none => -1
  | some a => nI (a (pw_c k))) else -1) else -2
def F_moved (A : pw_m) : Int32 := if F_fw A ≤ 6 then nI (F_fw A) else -1
def F_knows (A : pw_m) (w : Int32) : Int32 := if pw_inr w 4 then pw_o (F_mo A (pw_c w)) else -3
def F_lent (A : pw_m) (s : Int32) : Int32 := if pw_inr s (pw_n A) then nI (F_wy A (some (pw_c s))) - nI (F_wy A none) else -2
theorem pw_gd_c {A B : pw_m} (h : pw_fr_ A B) {q : Option Nat} : pw_gd B q = pw_gd A q := by
  funext k
  unfold pw_gd pw_gdb pw_fnow pw_fit pw_inp pw_pon pw_mt pw_g pw_n
  rw [h 4 (by omega), h 5 (by omega), h 6 (by omega), h 7 (by omega), h 9 (by omega), h 42 (by omega), h 43 (by omega)]
theorem F_wy_c {A B : pw_m} (h : pw_fr_ A B) {q : Option Nat} : F_wy B q = F_wy A q := by
  unfold F_wy
  rw [pw_gd_c h]
  unfold pw_n pw_k pw_g
  rw [h 4 (by omega), h 42 (by omega), h 10 (by omega)]

set_option maxHeartbeats 4000000 in
set_option maxRecDepth 100000 in
theorem c_ways {n kn th : Nat} {gd en : Nat → Nat} (mm : pw_m) (hs : pw_SC mm n kn th gd en) : pw_Ct 10 yX4_ways m_X4_ways [.ref 20] mm (fun r m' => r = some (.int (nI (pw_wy n kn th gd en kn (fun _ => 0) 0))) ∧ ∀ c, c ≠ 23 → m' c = mm c) := by
  refine pw_ct (by decide +kernel) rfl (Nat.le_of_ble_eq_true rfl) (fun x => ?_)
  generalize hZ : pw_Z x _ = Z
  obtain ⟨bn, bk, bt⟩ := hs.1
  show pw_V x m_X4_ways 10 Z 0 [(0, .ref 20)] [] mm
  refine pw_blk (pc' := 3) [.aload 0, .iconst 0, .iconst 0] (by decide +kernel) ?_
  show pw_V x m_X4_ways 10 Z 3 [(0, .ref 20)] [.int (nI 0), .int (nI 0), .ref 20] mm
  refine pw_cV (vs := [.int (nI 0), .int (nI 0)]) (rest := []) k_X4_waysFrom (c_waysFrom kn 0 (by omega) (fun _ => 0) 0 mm hs pw_PL0) l_4_24 rfl rfl rfl rfl (by omega) (Nat.le_of_ble_eq_true rfl) (by decide +kernel) ?_
  rintro _ m1 ⟨rfl, e1, e2⟩
  show pw_V x m_X4_ways 10 Z 6 [(0, .ref 20)] [.int (nI (pw_wy n kn th gd en kn (fun _ => 0) 0))] m1
  rw [← hZ]
  refine pw_ri (by decide +kernel) ?_
  exact ⟨rfl, e1⟩

set_option maxHeartbeats 4000000 in
set_option maxRecDepth 100000 in
theorem c_first {n kn th : Nat} {gd en : Nat → Nat} (mm : pw_m) (hs : pw_SC mm n kn th gd en) : pw_Ct 10 yX4_first m_X4_first [.ref 20] mm (fun r m' => r = some (.int (pw_b (pw_fT n kn th gd en kn (fun _ => 0) 0).isSome)) ∧ (∀ c, c ≠ 23 → m' c = mm c) ∧ ∀ a, pw_fT n kn th gd en kn (fun _ => 0) 0 = some a → ∀ j, j < kn → th.testBit j = true → m' 23 j = nI (a j) ∧ a j < n) := by
  refine pw_ct (by decide +kernel) rfl (Nat.le_of_ble_eq_true rfl) (fun x => ?_)
  generalize hZ : pw_Z x _ = Z
  obtain ⟨bn, bk, bt⟩ := hs.1
  show pw_V x m_X4_first 10 Z 0 [(0, .ref 20)] [] mm
  refine pw_blk (pc' := 3) [.aload 0, .iconst 0, .iconst 0] (by decide +kernel) ?_
  show pw_V x m_X4_first 10 Z 3 [(0, .ref 20)] [.int (nI 0), .int (nI 0), .ref 20] mm
  refine pw_cV (vs := [.int (nI 0), .int (nI 0)]) (rest := []) k_X4_firstFrom (c_firstFrom kn 0 (by omega) (fun _ => 0) 0 mm hs pw_PL0) l_4_28 rfl rfl rfl rfl (by omega) (Nat.le_of_ble_eq_true rfl) (by decide +kernel) ?_
  rintro _ m1 ⟨rfl, e1, e2, e3⟩
  show pw_V x m_X4_first 10 Z 6 [(0, .ref 20)] [.int (pw_b ((pw_fT n kn th gd en kn (fun _ => 0) 0).isSome))] m1
  rw [← hZ]
  refine pw_rz (by decide +kernel) (pw_b01 _) ?_
  exact ⟨rfl, e1, e3⟩

set_option maxHeartbeats 4000000 in
set_option maxRecDepth 100000 in
theorem c_fewestAway {n kn th : Nat} {gd en : Nat → Nat} (mm : pw_m) (hs : pw_SC mm n kn th gd en) : pw_Ct 10 yX4_fewestAway m_X4_fewestAway [.ref 20] mm (fun r m' => r = some (.int (if (pw_fw n kn th gd en (mm 24) kn (fun _ => 0) 0 0 7) ≤ 6 then nI (pw_fw n kn th gd en (mm 24) kn (fun _ => 0) 0 0 7) else -1)) ∧ ∀ c, c ≠ 23 → m' c = mm c) := by
  refine pw_ct (by decide +kernel) rfl (Nat.le_of_ble_eq_true rfl) (fun x => ?_)
  generalize hZ : pw_Z x _ = Z
  obtain ⟨bn, bk, bt⟩ := hs.1
  have bf : (pw_fw n kn th gd en (mm 24) kn (fun _ => 0) 0 0 7) ≤ 7 := pw_fwb _ _ _ _ _
  show pw_V x m_X4_fewestAway 10 Z 0 [(0, .ref 20)] [] mm
  refine pw_blk (pc' := 6) [.aload 0, .iconst 0, .iconst 0, .iconst 0, .iconst (7)] (by decide +kernel) ?_
  show pw_V x m_X4_fewestAway 10 Z 6 [(0, .ref 20)] [.int (nI 7), .int (nI 0), .int (nI 0), .int (nI 0), .ref 20] mm
  refine pw_cV (vs := [.int (nI 0), .int (nI 0), .int (nI 0), .int (nI 7)]) (rest := []) k_X4_fewestFrom (c_fewestFrom kn 0 (by omega) (fun _ => 0) 0 0 7 mm hs pw_PL0 (by omega)) l_4_32 rfl rfl rfl rfl (by omega) (Nat.le_of_ble_eq_true rfl) (by decide +kernel) ?_
  rintro _ m1 ⟨rfl, e1, e2⟩
  show pw_V x m_X4_fewestAway 10 Z 9 [(0, .ref 20)] [.int (nI (pw_fw n kn th gd en (mm 24) kn (fun _ => 0) 0 0 7))] m1
  refine pw_blk (pc' := 13) [.istore 1, .iload 1, .iconst (6)] (by decide +kernel) ?_
  show pw_V x m_X4_fewestAway 10 Z 13 [(1, .int (nI (pw_fw n kn th gd en (mm 24) kn (fun _ => 0) 0 0 7))), (0, .ref 20)] [.int (nI 6), .int (nI (pw_fw n kn th gd en (mm 24) kn (fun _ => 0) 0 0 7))] m1
  refine pw_in_le (tgt := 20) (off := 7) (by omega) (by omega) (by decide +kernel) (by decide) (fun h13 => ?_) (fun h13 => ?_)
  · refine pw_blk (pc' := 21) [.iload 1] (by decide +kernel) ?_
    show pw_V x m_X4_fewestAway 10 Z 21 [(1, .int (nI (pw_fw n kn th gd en (mm 24) kn (fun _ => 0) 0 0 7))), (0, .ref 20)] [.int (nI (pw_fw n kn th gd en (mm 24) kn (fun _ => 0) 0 0 7))] m1
    rw [← hZ]
    refine pw_ri (by decide +kernel) ?_
    refine ⟨?_, e1⟩
    rw [if_pos (by omega)]
  · refine pw_blk (pc' := 17) [.iconst (-1)] (by decide +kernel) ?_
    show pw_V x m_X4_fewestAway 10 Z 17 [(1, .int (nI (pw_fw n kn th gd en (mm 24) kn (fun _ => 0) 0 0 7))), (0, .ref 20)] [.int (-1)] m1
    refine pw_goto (tgt := 21) (off := 4) (by decide +kernel) (by decide) ?_
    rw [← hZ]
    refine pw_ri (by decide +kernel) ?_
    refine ⟨?_, e1⟩
    rw [if_neg (by omega)]

set_option maxHeartbeats 4000000 in
set_option maxRecDepth 100000 in
theorem c_mostKnow (kb : Nat) {n kn th : Nat} {gd en : Nat → Nat} (mm : pw_m) (hs : pw_SC mm n kn th gd en) (hkb : kb < 64) : pw_Ct 10 yX4_mostKnow m_X4_mostKnow [.ref 20, .int (nI kb)] mm (fun r m' => r = some (.int (pw_o (pw_mo n kn th gd en kb (min (pw_pc th) (2 * pw_pc kb)) kn (fun _ => 0) 0 0 none))) ∧ ∀ c, c ≠ 23 → c ≠ 20 → m' c = mm c) := by
  refine pw_ct (by decide +kernel) rfl (Nat.le_of_ble_eq_true rfl) (fun x => ?_)
  generalize hZ : pw_Z x _ = Z
  obtain ⟨bn, bk, bt⟩ := hs.1
  have b1 : pw_pc th ≤ 8 := pw_pc_le _
  have b2 : pw_pc kb ≤ 8 := pw_pc_le _
  show pw_V x m_X4_mostKnow 10 Z 0 [(0, .ref 20), (1, .int (nI kb))] [] mm
  refine pw_blk (pc' := 10) [.aload 0, .iload 1, .putfield 407, .aload 0, .aload 0, .getfield 402] (by decide +kernel) ?_
  show pw_V x m_X4_mostKnow 10 Z 10 [(0, .ref 20), (1, .int (nI kb))] [.int (mm 20 2), .ref 20] (pw_up mm 20 7 (nI kb))
  rw [show mm 20 2 = nI th from hs.2.1.2.2]
  refine pw_cS (vs := [.int (nI th)]) (rest := [.ref 20]) k_J6_bitCount_0f7a4 (c_bitCount (nI th) (pw_up mm 20 7 (nI kb))) l_4_43 rfl (by omega) (Nat.le_of_ble_eq_true rfl) (by decide +kernel) ?_
  rintro _ m1 ⟨rfl, e1⟩
  rw [e1]
  clear e1 m1
  show pw_V x m_X4_mostKnow 10 Z 13 [(0, .ref 20), (1, .int (nI kb))] [.int (pw_bc (nI th)), .ref 20] (pw_up mm 20 7 (nI kb))
  rw [pw_bcN _ (by omega)]
  refine pw_blk (pc' := 18) [.iconst 2, .aload 0, .getfield 407] (by decide +kernel) ?_
  show pw_V x m_X4_mostKnow 10 Z 18 [(0, .ref 20), (1, .int (nI kb))] [.int (nI kb), .int (nI 2), .int (nI (pw_pc th)), .ref 20] (pw_up mm 20 7 (nI kb))
  refine pw_cS (vs := [.int (nI kb)]) (rest := [.int (nI 2), .int (nI (pw_pc th)), .ref 20]) k_J6_bitCount_0f7a4 (c_bitCount (nI kb) (pw_up mm 20 7 (nI kb))) l_4_43 rfl (by omega) (Nat.le_of_ble_eq_true rfl) (by decide +kernel) ?_
  rintro _ m1 ⟨rfl, e1⟩
  rw [e1]
  clear e1 m1
  show pw_V x m_X4_mostKnow 10 Z 21 [(0, .ref 20), (1, .int (nI kb))] [.int (pw_bc (nI kb)), .int (nI 2), .int (nI (pw_pc th)), .ref 20] (pw_up mm 20 7 (nI kb))
  rw [pw_bcN _ (by omega)]
  refine pw_blk (pc' := 22) [.imul] (by decide +kernel) ?_
  show pw_V x m_X4_mostKnow 10 Z 22 [(0, .ref 20), (1, .int (nI kb))] [.int ((nI 2) * (nI (pw_pc kb))), .int (nI (pw_pc th)), .ref 20] (pw_up mm 20 7 (nI kb))
  rw [show (nI 2) * (nI (pw_pc kb)) = nI (2 * (pw_pc kb)) from pk_mul _ _]
  refine pw_cMin l_4_49 (by omega) (Nat.le_of_ble_eq_true rfl) (by decide +kernel) ?_
  show pw_V x m_X4_mostKnow 10 Z 25 [(0, .ref 20), (1, .int (nI kb))] [.int (pw_min (nI (pw_pc th)) (nI (2 * (pw_pc kb)))), .ref 20] (pw_up mm 20 7 (nI kb))
  rw [pw_minN (by omega) (by omega)]
  refine pw_blk (pc' := 33) [.putfield 408, .aload 0, .iconst 0, .iconst 0, .iconst 0, .iconst (-1)] (by decide +kernel) ?_
  show pw_V x m_X4_mostKnow 10 Z 33 [(0, .ref 20), (1, .int (nI kb))] [.int (-1), .int (nI 0), .int (nI 0), .int (nI 0), .ref 20] (pw_up (pw_up mm 20 7 (nI kb)) 20 8 (nI (min (pw_pc th) (2 * (pw_pc kb)))))
  refine pw_cV (vs := [.int (nI 0), .int (nI 0), .int (nI 0), .int (-1)]) (rest := []) k_X4_mostFrom (c_mostFrom (kb := kb) (mc := (min (pw_pc th) (2 * pw_pc kb))) hkb (by omega) kn 0 (by omega) (fun _ => 0) 0 0 none (pw_up (pw_up mm 20 7 (nI kb)) 20 8 (nI (min (pw_pc th) (2 * (pw_pc kb))))) ⟨hs.1, hs.2.1, hs.2.2⟩ pw_PL0 rfl rfl ⟨Nat.two_pow_pos n, Nat.two_pow_pos n, fun a ha => by cases ha⟩) l_4_57 rfl rfl rfl rfl (by omega) (Nat.le_of_ble_eq_true rfl) (by decide +kernel) ?_
  rintro _ m1 ⟨rfl, e1, e2⟩
  show pw_V x m_X4_mostKnow 10 Z 36 [(0, .ref 20), (1, .int (nI kb))] [.int (pw_o ((pw_mo n kn th gd en kb (min (pw_pc th) (2 * pw_pc kb)) kn (fun _ => 0) 0 0 none)))] m1
  rw [← hZ]
  refine pw_ri (by decide +kernel) ?_
  refine ⟨rfl, fun c h1 h2 => ?_⟩
  rw [e1 c h1, pw_up_ne h2, pw_up_ne h2]

set_option maxHeartbeats 4000000 in
set_option maxRecDepth 100000 in
theorem c_seatings (mm : pw_m) (hok : pw_ok mm) : pw_Ct 11 yX7_seatings m_X7_seatings [.ref 0] mm (fun r m' => r = some (.int (nI (F_wy mm none))) ∧ pw_fr_ mm m') := by
  refine pw_ct (by decide +kernel) rfl (Nat.le_of_ble_eq_true rfl) (fun x => ?_)
  generalize hZ : pw_Z x _ = Z
  have bn := pw_bn hok
  have bk := pw_bk hok
  show pw_V x m_X7_seatings 11 Z 0 [(0, .ref 0)] [] mm
  refine pw_blk (pc' := 2) [.aload 0, .iconst (-1)] (by decide +kernel) ?_
  show pw_V x m_X7_seatings 11 Z 2 [(0, .ref 0)] [.int (-1), .ref 0] mm
  refine pw_cV (vs := [.int (-1)]) (rest := []) k_X7_prepareSearch (c_prepareSearch none mm hok (fun c hc => by cases hc)) l_7_197 rfl rfl rfl rfl (by omega) (Nat.le_of_ble_eq_true rfl) (by decide +kernel) ?_
  rintro _ m1 ⟨rfl, e1⟩
  rw [e1]
  clear e1 m1
  show pw_V x m_X7_seatings 11 Z 5 [(0, .ref 0)] [] (pw_psI mm none (pw_k mm))
  refine pw_blk (pc' := 9) [.aload 0, .getfield 705] (by decide +kernel) ?_
  show pw_V x m_X7_seatings 11 Z 9 [(0, .ref 0)] [.ref 20] (pw_psI mm none (pw_k mm))
  refine pw_cV (vs := []) (rest := []) k_X4_ways (c_ways (pw_psI mm none (pw_k mm)) (pw_SC_ps hok none)) l_7_200 rfl rfl rfl rfl (by omega) (Nat.le_of_ble_eq_true rfl) (by decide +kernel) ?_
  rintro _ m1 ⟨rfl, e1⟩
  show pw_V x m_X7_seatings 11 Z 12 [(0, .ref 0)] [.int (nI (F_wy mm none))] m1
  rw [← hZ]
  refine pw_ri (by decide +kernel) ?_
  exact ⟨rfl, fun c hc => by rw [e1 c (by omega), pw_fr_ps c hc]⟩

set_option maxHeartbeats 4000000 in
set_option maxRecDepth 100000 in
theorem c_seatOf (k : Int32) (mm : pw_m) (hok : pw_ok mm) : pw_Ct 11 yX7_seatOf m_X7_seatOf [.ref 0, .int k] mm (fun r m' => r = some (.int (F_seatOf mm k)) ∧ pw_fr_ mm m') := by
  refine pw_ct (by decide +kernel) rfl (Nat.le_of_ble_eq_true rfl) (fun x => ?_)
  generalize hZ : pw_Z x _ = Z
  have bn := pw_bn hok
  have bk := pw_bk hok
  have bt := pw_b421' hok
  show pw_V x m_X7_seatOf 11 Z 0 [(0, .ref 0), (1, .int k)] [] mm
  refine pw_blk (pc' := 2) [.aload 0, .iload 1] (by decide +kernel) ?_
  show pw_V x m_X7_seatOf 11 Z 2 [(0, .ref 0), (1, .int k)] [.int k, .ref 0] mm
  refine pw_cV (vs := [.int k]) (rest := []) k_X7_isKnight (c_isKnight k mm hok) l_7_106 rfl rfl rfl rfl (by omega) (Nat.le_of_ble_eq_true rfl) (by decide +kernel) ?_
  rintro _ m1 ⟨rfl, e1⟩
  rw [e1]
  clear e1 m1
  show pw_V x m_X7_seatOf 11 Z 5 [(0, .ref 0), (1, .int k)] [.int (pw_b (pw_inr k (pw_k mm)))] mm
  refine pw_ib_ne (tgt := 11) (off := 6) (by decide +kernel) (by decide) (fun h5 => ?_) (fun h5 => ?_)
  · obtain ⟨j5, b5, e5⟩ := pw_inr_t (by omega) h5
    subst e5
    refine pw_blk (pc' := 13) [.aload 0, .iconst (-1)] (by decide +kernel) ?_
    show pw_V x m_X7_seatOf 11 Z 13 [(0, .ref 0), (1, .int (nI j5))] [.int (-1), .ref 0] mm
    refine pw_cV (vs := [.int (-1)]) (rest := []) k_X7_prepareSearch (c_prepareSearch none mm hok (fun c hc => by cases hc)) l_7_197 rfl rfl rfl rfl (by omega) (Nat.le_of_ble_eq_true rfl) (by decide +kernel) ?_
    rintro _ m1 ⟨rfl, e1⟩
    rw [e1]
    clear e1 m1
    show pw_V x m_X7_seatOf 11 Z 16 [(0, .ref 0), (1, .int (nI j5))] [] (pw_psI mm none (pw_k mm))
    refine pw_blk (pc' := 24) [.aload 0, .getfield 702, .getfield 1, .iload 1] (by decide +kernel) ?_
    show pw_V x m_X7_seatOf 11 Z 24 [(0, .ref 0), (1, .int (nI j5))] [.int (nI j5), .int (mm 42 1)] (pw_psI mm none (pw_k mm))
    rw [show mm 42 1 = nI (pw_g mm 42 1) from pw_q421 hok]
    refine pw_cS (vs := [.int (nI (pw_g mm 42 1)), .int (nI j5)]) (rest := []) k_X7_has (c_has (nI (pw_g mm 42 1)) (nI j5) (pw_psI mm none (pw_k mm))) l_7_124 rfl (by omega) (Nat.le_of_ble_eq_true rfl) (by decide +kernel) ?_
    rintro _ m1 ⟨rfl, e1⟩
    rw [e1]
    clear e1 m1
    show pw_V x m_X7_seatOf 11 Z 27 [(0, .ref 0), (1, .int (nI j5))] [.int (pw_b (pw_hs (nI (pw_g mm 42 1)) (nI j5)))] (pw_psI mm none (pw_k mm))
    rw [pw_hs_n (by omega) (by omega)]
    refine pw_ib_eq (tgt := 40) (off := 13) (by decide +kernel) (by decide) (fun h27 => ?_) (fun h27 => ?_)
    · refine pw_blk (pc' := 41) [.iconst (-1)] (by decide +kernel) ?_
      show pw_V x m_X7_seatOf 11 Z 41 [(0, .ref 0), (1, .int (nI j5))] [.int (-1)] (pw_psI mm none (pw_k mm))
      rw [← hZ]
      refine pw_ri (by decide +kernel) ?_
      exact ⟨by simp [F_seatOf, pw_inr_nI (show j5 < 2 ^ 31 by omega) (show pw_k mm < 2 ^ 31 by omega), pw_c_nI (show j5 < 2 ^ 31 by omega), b5, h27], pw_fr_ps⟩
    · refine pw_blk (pc' := 34) [.aload 0, .getfield 705] (by decide +kernel) ?_
      show pw_V x m_X7_seatOf 11 Z 34 [(0, .ref 0), (1, .int (nI j5))] [.ref 20] (pw_psI mm none (pw_k mm))
      refine pw_cV (vs := []) (rest := []) k_X4_first (c_first (pw_psI mm none (pw_k mm)) (pw_SC_ps hok none)) l_7_203 rfl rfl rfl rfl (by omega) (Nat.le_of_ble_eq_true rfl) (by decide +kernel) ?_
      rintro _ m1 ⟨rfl, e1, e3⟩
      show pw_V x m_X7_seatOf 11 Z 37 [(0, .ref 0), (1, .int (nI j5))] [.int (pw_b ((F_ft mm).isSome))] m1
      refine pw_ib_ne (tgt := 42) (off := 5) (by decide +kernel) (by decide) (fun h37 => ?_) (fun h37 => ?_)
      · refine pw_blk (pc' := 51) [.aload 0, .getfield 705, .getfield 405, .iload 1, .iaload] (by decide +kernel) ?_
        refine ⟨j5, rfl, by omega, ?_⟩
        show pw_V x m_X7_seatOf 11 Z 51 [(0, .ref 0), (1, .int (nI j5))] [.int (m1 23 j5)] m1
        rw [← hZ]
        refine pw_ri (by decide +kernel) ?_
        obtain ⟨a, ha⟩ := Option.isSome_iff_exists.mp h37
        refine ⟨?_, fun c hc => by rw [e1 c (by omega), pw_fr_ps c hc]⟩
        rw [(e3 a ha j5 (by omega) h27).1]
        simp [F_seatOf, ha, pw_inr_nI (show j5 < 2 ^ 31 by omega) (show pw_k mm < 2 ^ 31 by omega), pw_c_nI (show j5 < 2 ^ 31 by omega), b5, h27]
      · refine pw_blk (pc' := 41) [.iconst (-1)] (by decide +kernel) ?_
        show pw_V x m_X7_seatOf 11 Z 41 [(0, .ref 0), (1, .int (nI j5))] [.int (-1)] m1
        rw [← hZ]
        refine pw_ri (by decide +kernel) ?_
        refine ⟨?_, fun c hc => by rw [e1 c (by omega), pw_fr_ps c hc]⟩
        have hn : F_ft mm = none := by simpa using h37
        simp [F_seatOf, hn, pw_inr_nI (show j5 < 2 ^ 31 by omega) (show pw_k mm < 2 ^ 31 by omega), pw_c_nI (show j5 < 2 ^ 31 by omega), b5, h27]
  · refine pw_blk (pc' := 10) [.iconst (-2)] (by decide +kernel) ?_
    show pw_V x m_X7_seatOf 11 Z 10 [(0, .ref 0), (1, .int k)] [.int (-2)] mm
    rw [← hZ]
    refine pw_ri (by decide +kernel) ?_
    exact ⟨by simp [F_seatOf, h5], fun c hc => rfl⟩

set_option maxHeartbeats 4000000 in
set_option maxRecDepth 100000 in
theorem c_moved (mm : pw_m) (hok : pw_ok mm) : pw_Ct 11 yX7_moved m_X7_moved [.ref 0] mm (fun r m' => r = some (.int (F_moved mm)) ∧ pw_fr_ mm m') := by
  refine pw_ct (by decide +kernel) rfl (Nat.le_of_ble_eq_true rfl) (fun x => ?_)
  generalize hZ : pw_Z x _ = Z
  have bn := pw_bn hok
  have bk := pw_bk hok
  show pw_V x m_X7_moved 11 Z 0 [(0, .ref 0)] [] mm
  refine pw_blk (pc' := 2) [.aload 0, .iconst (-1)] (by decide +kernel) ?_
  show pw_V x m_X7_moved 11 Z 2 [(0, .ref 0)] [.int (-1), .ref 0] mm
  refine pw_cV (vs := [.int (-1)]) (rest := []) k_X7_prepareSearch (c_prepareSearch none mm hok (fun c hc => by cases hc)) l_7_197 rfl rfl rfl rfl (by omega) (Nat.le_of_ble_eq_true rfl) (by decide +kernel) ?_
  rintro _ m1 ⟨rfl, e1⟩
  rw [e1]
  clear e1 m1
  show pw_V x m_X7_moved 11 Z 5 [(0, .ref 0)] [] (pw_psI mm none (pw_k mm))
  refine pw_blk (pc' := 9) [.aload 0, .getfield 705] (by decide +kernel) ?_
  show pw_V x m_X7_moved 11 Z 9 [(0, .ref 0)] [.ref 20] (pw_psI mm none (pw_k mm))
  refine pw_cV (vs := []) (rest := []) k_X4_fewestAway (c_fewestAway (pw_psI mm none (pw_k mm)) (pw_SC_ps hok none)) l_7_208 rfl rfl rfl rfl (by omega) (Nat.le_of_ble_eq_true rfl) (by decide +kernel) ?_
  rintro _ m1 ⟨rfl, e1⟩
  show pw_V x m_X7_moved 11 Z 12 [(0, .ref 0)] [.int (F_moved mm)] m1
  rw [← hZ]
  refine pw_ri (by decide +kernel) ?_
  exact ⟨rfl, fun c hc => by rw [e1 c (by omega), pw_fr_ps c hc]⟩

set_option maxHeartbeats 4000000 in
set_option maxRecDepth 100000 in
theorem c_knows (w : Int32) (mm : pw_m) (hok : pw_ok mm) : pw_Ct 11 yX7_knows m_X7_knows [.ref 0, .int w] mm (fun r m' => r = some (.int (F_knows mm w)) ∧ pw_fr_ mm m') := by
  refine pw_ct (by decide +kernel) rfl (Nat.le_of_ble_eq_true rfl) (fun x => ?_)
  generalize hZ : pw_Z x _ = Z
  have bn := pw_bn hok
  have bk := pw_bk hok
  have h0k := hok
  have hok1 : pw_ok (pw_psI mm none (pw_k mm)) := pw_ok_ps hok
  have bkb : ∀ w, pw_ob (pw_kn mm w) (pw_k mm) < 64 := fun w => Nat.lt_of_lt_of_le pw_ob_lt (Nat.pow_le_pow_right (by omega) bk : 2 ^ pw_k mm ≤ 2 ^ 6)
  show pw_V x m_X7_knows 11 Z 0 [(0, .ref 0), (1, .int w)] [] mm
  refine pw_blk (pc' := 1) [.iload 1] (by decide +kernel) ?_
  show pw_V x m_X7_knows 11 Z 1 [(0, .ref 0), (1, .int w)] [.int w] mm
  refine pw_cS (vs := [.int w]) (rest := []) k_X7_isNews (c_isNews w mm) l_7_169 rfl (by omega) (Nat.le_of_ble_eq_true rfl) (by decide +kernel) ?_
  rintro _ m1 ⟨rfl, e1⟩
  rw [e1]
  clear e1 m1
  show pw_V x m_X7_knows 11 Z 4 [(0, .ref 0), (1, .int w)] [.int (pw_b (pw_inr w 4))] mm
  refine pw_ib_ne (tgt := 10) (off := 6) (by decide +kernel) (by decide) (fun h4 => ?_) (fun h4 => ?_)
  · obtain ⟨j4, b4, e4⟩ := pw_inr_t (by omega) h4
    subst e4
    refine pw_blk (pc' := 12) [.aload 0, .iconst (-1)] (by decide +kernel) ?_
    show pw_V x m_X7_knows 11 Z 12 [(0, .ref 0), (1, .int (nI j4))] [.int (-1), .ref 0] mm
    refine pw_cV (vs := [.int (-1)]) (rest := []) k_X7_prepareSearch (c_prepareSearch none mm hok (fun c hc => by cases hc)) l_7_197 rfl rfl rfl rfl (by omega) (Nat.le_of_ble_eq_true rfl) (by decide +kernel) ?_
    rintro _ m1 ⟨rfl, e1⟩
    rw [e1]
    clear e1 m1
    show pw_V x m_X7_knows 11 Z 15 [(0, .ref 0), (1, .int (nI j4))] [] (pw_psI mm none (pw_k mm))
    refine pw_blk (pc' := 21) [.aload 0, .getfield 705, .aload 0, .iload 1] (by decide +kernel) ?_
    show pw_V x m_X7_knows 11 Z 21 [(0, .ref 0), (1, .int (nI j4))] [.int (nI j4), .ref 0, .ref 20] (pw_psI mm none (pw_k mm))
    refine pw_cV (vs := [.int (nI j4)]) (rest := [.ref 20]) k_X7_whoKnows (c_whoKnows j4 (pw_psI mm none (pw_k mm)) hok1 (by omega)) l_7_211 rfl rfl rfl rfl (by omega) (Nat.le_of_ble_eq_true rfl) (by decide +kernel) ?_
    rintro _ m1 ⟨rfl, e1⟩
    rw [e1]
    clear e1 m1
    show pw_V x m_X7_knows 11 Z 24 [(0, .ref 0), (1, .int (nI j4))] [.int (nI (pw_ob (pw_kn mm j4) (pw_k mm))), .ref 20] (pw_psI mm none (pw_k mm))
    refine pw_cV (vs := [.int (nI (pw_ob (pw_kn mm j4) (pw_k mm)))]) (rest := []) k_X4_mostKnow (c_mostKnow (pw_ob (pw_kn mm j4) (pw_k mm)) (pw_psI mm none (pw_k mm)) (pw_SC_ps h0k none) (bkb _)) l_7_214 rfl rfl rfl rfl (by omega) (Nat.le_of_ble_eq_true rfl) (by decide +kernel) ?_
    rintro _ m1 ⟨rfl, e1⟩
    show pw_V x m_X7_knows 11 Z 27 [(0, .ref 0), (1, .int (nI j4))] [.int (pw_o (F_mo mm j4))] m1
    rw [← hZ]
    refine pw_ri (by decide +kernel) ?_
    refine ⟨?_, fun c hc => by rw [e1 c (by omega) (by omega), pw_fr_ps c hc]⟩
    simp [F_knows, pw_inr_nI (show j4 < 2 ^ 31 by omega) (show 4 < 2 ^ 31 by omega), pw_c_nI (show j4 < 2 ^ 31 by omega), b4]
  · refine pw_blk (pc' := 9) [.iconst (-3)] (by decide +kernel) ?_
    show pw_V x m_X7_knows 11 Z 9 [(0, .ref 0), (1, .int w)] [.int (-3)] mm
    rw [← hZ]
    refine pw_ri (by decide +kernel) ?_
    exact ⟨by simp [F_knows, h4], fun c hc => rfl⟩

set_option maxHeartbeats 4000000 in
set_option maxRecDepth 100000 in
theorem c_lent (s : Int32) (mm : pw_m) (hok : pw_ok mm) : pw_Ct 11 yX7_lent m_X7_lent [.ref 0, .int s] mm (fun r m' => r = some (.int (F_lent mm s)) ∧ pw_fr_ mm m') := by
  refine pw_ct (by decide +kernel) rfl (Nat.le_of_ble_eq_true rfl) (fun x => ?_)
  generalize hZ : pw_Z x _ = Z
  have bn := pw_bn hok
  have bk := pw_bk hok
  show pw_V x m_X7_lent 11 Z 0 [(0, .ref 0), (1, .int s)] [] mm
  refine pw_blk (pc' := 2) [.aload 0, .iload 1] (by decide +kernel) ?_
  show pw_V x m_X7_lent 11 Z 2 [(0, .ref 0), (1, .int s)] [.int s, .ref 0] mm
  refine pw_cV (vs := [.int s]) (rest := []) k_X7_isSeat (c_isSeat s mm hok) l_7_86 rfl rfl rfl rfl (by omega) (Nat.le_of_ble_eq_true rfl) (by decide +kernel) ?_
  rintro _ m1 ⟨rfl, e1⟩
  rw [e1]
  clear e1 m1
  show pw_V x m_X7_lent 11 Z 5 [(0, .ref 0), (1, .int s)] [.int (pw_b (pw_inr s (pw_n mm)))] mm
  refine pw_ib_ne (tgt := 11) (off := 6) (by decide +kernel) (by decide) (fun h5 => ?_) (fun h5 => ?_)
  · obtain ⟨j5, b5, e5⟩ := pw_inr_t (by omega) h5
    subst e5
    refine pw_blk (pc' := 13) [.aload 0, .iconst (-1)] (by decide +kernel) ?_
    show pw_V x m_X7_lent 11 Z 13 [(0, .ref 0), (1, .int (nI j5))] [.int (-1), .ref 0] mm
    refine pw_cV (vs := [.int (-1)]) (rest := []) k_X7_prepareSearch (c_prepareSearch none mm hok (fun c hc => by cases hc)) l_7_197 rfl rfl rfl rfl (by omega) (Nat.le_of_ble_eq_true rfl) (by decide +kernel) ?_
    rintro _ m1 ⟨rfl, e1⟩
    rw [e1]
    clear e1 m1
    show pw_V x m_X7_lent 11 Z 16 [(0, .ref 0), (1, .int (nI j5))] [] (pw_psI mm none (pw_k mm))
    refine pw_blk (pc' := 20) [.aload 0, .getfield 705] (by decide +kernel) ?_
    show pw_V x m_X7_lent 11 Z 20 [(0, .ref 0), (1, .int (nI j5))] [.ref 20] (pw_psI mm none (pw_k mm))
    refine pw_cV (vs := []) (rest := []) k_X4_ways (c_ways (pw_psI mm none (pw_k mm)) (pw_SC_ps hok none)) l_7_200 rfl rfl rfl rfl (by omega) (Nat.le_of_ble_eq_true rfl) (by decide +kernel) ?_
    rintro _ m1 ⟨rfl, e1⟩
    show pw_V x m_X7_lent 11 Z 23 [(0, .ref 0), (1, .int (nI j5))] [.int (nI (F_wy mm none))] m1
    refine pw_blk (pc' := 24) [.istore 2] (by decide +kernel) ?_
    show pw_V x m_X7_lent 11 Z 24 [(2, .int (nI (F_wy mm none))), (0, .ref 0), (1, .int (nI j5))] [] m1
    have f1 : pw_fr_ mm m1 := fun c hc => by rw [e1 c (by omega), pw_fr_ps c hc]
    have hok2 : pw_ok m1 := pw_fr_ok f1 hok
    refine pw_blk (pc' := 26) [.aload 0, .iload 1] (by decide +kernel) ?_
    show pw_V x m_X7_lent 11 Z 26 [(2, .int (nI (F_wy mm none))), (0, .ref 0), (1, .int (nI j5))] [.int (nI j5), .ref 0] m1
    refine pw_cV (vs := [.int (nI j5)]) (rest := []) k_X7_prepareSearch (c_prepareSearch (some j5) m1 hok2 (fun c hc => by cases hc; omega)) l_7_197 rfl rfl rfl rfl (by omega) (Nat.le_of_ble_eq_true rfl) (by decide +kernel) ?_
    rintro _ m2 ⟨rfl, e2⟩
    show pw_V x m_X7_lent 11 Z 29 [(2, .int (nI (F_wy mm none))), (0, .ref 0), (1, .int (nI j5))] [] m2
    refine pw_blk (pc' := 33) [.aload 0, .getfield 705] (by decide +kernel) ?_
    show pw_V x m_X7_lent 11 Z 33 [(2, .int (nI (F_wy mm none))), (0, .ref 0), (1, .int (nI j5))] [.ref 20] m2
    refine pw_cV (vs := []) (rest := []) k_X4_ways (c_ways m2 (by rw [e2]; exact pw_SC_ps hok2 (some j5))) l_7_200 rfl rfl rfl rfl (by omega) (Nat.le_of_ble_eq_true rfl) (by decide +kernel) ?_
    rintro _ m3 ⟨rfl, e3⟩
    show pw_V x m_X7_lent 11 Z 36 [(2, .int (nI (F_wy mm none))), (0, .ref 0), (1, .int (nI j5))] [.int (nI (F_wy m1 (some j5)))] m3
    refine pw_blk (pc' := 38) [.iload 2, .isub] (by decide +kernel) ?_
    show pw_V x m_X7_lent 11 Z 38 [(2, .int (nI (F_wy mm none))), (0, .ref 0), (1, .int (nI j5))] [.int ((nI (F_wy m1 (some j5))) - (nI (F_wy mm none)))] m3
    rw [← hZ]
    refine pw_ri (by decide +kernel) ?_
    refine ⟨?_, fun c hc => by rw [e3 c (by omega), e2, pw_fr_ps c hc, f1 c hc]⟩
    rw [F_wy_c f1]
    simp [F_lent, pw_inr_nI (show j5 < 2 ^ 31 by omega) (show pw_n mm < 2 ^ 31 by omega), pw_c_nI (show j5 < 2 ^ 31 by omega), b5]
  · refine pw_blk (pc' := 10) [.iconst (-2)] (by decide +kernel) ?_
    show pw_V x m_X7_lent 11 Z 10 [(0, .ref 0), (1, .int s)] [.int (-2)] mm
    rw [← hZ]
    refine pw_ri (by decide +kernel) ?_
    exact ⟨by simp [F_lent, h5], fun c hc => rfl⟩
