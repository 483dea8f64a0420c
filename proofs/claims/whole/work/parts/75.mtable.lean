theorem MV.rfn {A m m' : pw_m} (h : MV A m) (hf : pw_rfn m m') : MV A m' := h.f (fun c q1 q2 => hf.1 c (by omega) (by omega)) (fun j q => hf.2 j (by omega))
theorem pw_rfn_mf {m m' : pw_m} (hf : pw_rfn m m') : pw_mf_ m m' := fun c hc => hf.1 c (by omega) (by omega)

set_option maxHeartbeats 4000000 in
set_option maxRecDepth 100000 in
theorem c_mfault {A : pw_m} (mm : pw_m) (hv : MV A mm) (hok : pw_ok A) : pw_Ct 7 yX8_fault m_X8_fault [.ref 26] mm (fun r m' => r = some (.int (pw_o (pw_RF A))) ∧ MV (A) m' ∧ pw_mf_ mm m') := by
  refine pw_ct (by decide +kernel) rfl (Nat.le_of_ble_eq_true rfl) (fun x => ?_)
  generalize hZ : pw_Z x _ = Z
  have bn := pw_bn hok
  have bk := pw_bk hok
  show pw_V x m_X8_fault 7 Z 0 [(0, .ref 26)] [] mm
  refine pw_blk (pc' := 1) [.aload 0] (by decide +kernel) ?_
  show pw_V x m_X8_fault 7 Z 1 [(0, .ref 26)] [.ref 26] mm
  refine pw_cV (vs := []) (rest := []) k_X8_reads (c_mreads mm hv hok) l_8_183 rfl rfl rfl rfl (by omega) (Nat.le_of_ble_eq_true rfl) (by decide +kernel) ?_
  rintro _ m1 ⟨rfl, hrd⟩
  show pw_V x m_X8_fault 7 Z 4 [(0, .ref 26)] [] m1
  obtain ⟨q1, q2, q3, q4⟩ := hrd
  rcases hRF : pw_RF A with _ | bx
  · have W1 : m1 26 21 = nI 1 := by rw [q2, hRF]; rfl
    refine pw_blk (pc' := 8) [.aload 0, .getfield 821] (by decide +kernel) ?_
    show pw_V x m_X8_fault 7 Z 8 [(0, .ref 26)] [.int (m1 26 21)] m1
    rw [show m1 26 21 = nI 1 from W1]
    refine pw_iz_eq (tgt := 15) (off := 7) (by omega) (by decide +kernel) (by decide) (fun h => by omega) (fun _ => ?_)
    refine pw_blk (pc' := 12) [.iconst (-1)] (by decide +kernel) ?_
    show pw_V x m_X8_fault 7 Z 12 [(0, .ref 26)] [.int (-1)] m1
    refine pw_goto (tgt := 19) (off := 7) (by decide +kernel) (by decide) ?_
    rw [← hZ]
    refine pw_ri (by decide +kernel) ?_
    exact ⟨by rw [hRF]; rfl, hv.rfn q1, pw_rfn_mf q1⟩
  · have W1 : m1 26 21 = nI 0 := by rw [q2, hRF]; rfl
    have P1 := q3 bx hRF
    refine pw_blk (pc' := 8) [.aload 0, .getfield 821] (by decide +kernel) ?_
    show pw_V x m_X8_fault 7 Z 8 [(0, .ref 26)] [.int (m1 26 21)] m1
    rw [show m1 26 21 = nI 0 from W1]
    refine pw_iz_eq (tgt := 15) (off := 7) (by omega) (by decide +kernel) (by decide) (fun _ => ?_) (fun h => by omega)
    refine pw_blk (pc' := 19) [.aload 0, .getfield 818] (by decide +kernel) ?_
    show pw_V x m_X8_fault 7 Z 19 [(0, .ref 26)] [.int (m1 26 18)] m1
    rw [show m1 26 18 = nI bx from P1]
    rw [← hZ]
    refine pw_ri (by decide +kernel) ?_
    exact ⟨by rw [hRF]; rfl, hv.rfn q1, pw_rfn_mf q1⟩

def pw_beI (B : pw_m) (i : Nat) : pw_m := fun c => if c = 30 then (fun k => if 2 ≤ k ∧ k < 2 + i then B 28 (3 * (k - 2) + 1) else if 8 ≤ k ∧ k < 8 + i then nI 0 else if 14 ≤ k ∧ k < 14 + i then -1 else B 30 k) else B c
theorem pw_beI_0 {B : pw_m} : pw_beI B 0 = B := by
  funext c
  unfold pw_beI
  by_cases h : c = 30
  · subst h; rw [if_pos rfl]; funext k; rw [if_neg (by omega), if_neg (by omega), if_neg (by omega)]
  · rw [if_neg h]
theorem pw_beI_s {B : pw_m} {i : Nat} (hi : i < 6) : pw_up (pw_up (pw_up (pw_beI B i) 30 (2 + i) (pw_beI B i 28 (3 * i + 1))) 30 (8 + i) (nI 0)) 30 (14 + i) (-1) = pw_beI B (i + 1) := by
  funext c
  by_cases h : c = 30
  · subst h
    rw [pw_up_eq, pw_up_eq, pw_up_eq]
    unfold pw_beI upd
    rw [if_pos rfl, if_pos rfl, if_neg (by omega)]
    funext k
    by_cases q : k = 14 + i
    · subst q; rw [if_pos rfl, if_neg (by omega), if_neg (by omega), if_pos (by omega)]
    · rw [if_neg q]
      by_cases q2 : k = 8 + i
      · subst q2; rw [if_pos rfl, if_neg (by omega), if_pos (by omega)]
      · rw [if_neg q2]
        by_cases q3 : k = 2 + i
        · subst q3; rw [if_pos rfl, if_pos (by omega), show 2 + i - 2 = i by omega]
        · rw [if_neg q3]
          by_cases z1 : 2 ≤ k ∧ k < 2 + i
          · rw [if_pos z1, if_pos (by omega)]
          · rw [if_neg z1, if_neg (show ¬ (2 ≤ k ∧ k < 2 + (i + 1)) by omega)]
            by_cases z2 : 8 ≤ k ∧ k < 8 + i
            · rw [if_pos z2, if_pos (by omega)]
            · rw [if_neg z2, if_neg (show ¬ (8 ≤ k ∧ k < 8 + (i + 1)) by omega)]
              by_cases z3 : 14 ≤ k ∧ k < 14 + i
              · rw [if_pos z3, if_pos (by omega)]
              · rw [if_neg z3, if_neg (by omega)]
  · rw [pw_up_ne h, pw_up_ne h, pw_up_ne h]; unfold pw_beI; rw [if_neg h, if_neg h]
def pw_beM (m : pw_m) (k : Nat) : pw_m := pw_up (pw_up (pw_up (pw_up (pw_beI (pw_up (pw_up m 30 0 (nI 0)) 30 1 (nI (2 ^ k - 1))) 6) 26 9 (nI 0)) 26 13 (nI 0)) 33 0 (nI 0)) 33 1 (nI 0)

set_option maxHeartbeats 4000000 in
set_option maxRecDepth 100000 in
theorem c_mbegins (mm : pw_m) (kx : Nat) (hk : mm 26 2 = nI kx) (hk6 : kx ≤ 6) : pw_Ct 0 yX8_begins m_X8_begins [.ref 26] mm (fun r m' => r = none ∧ m' = pw_beM mm kx) := by
  refine pw_ct (by decide +kernel) rfl (Nat.le_of_ble_eq_true rfl) (fun x => ?_)
  generalize hZ : pw_Z x _ = Z
  have p2 : 0 < 2 ^ kx := Nat.two_pow_pos kx
  show pw_V x m_X8_begins 0 Z 0 [(0, .ref 26)] [] mm
  refine pw_blk (pc' := 19) [.aload 0, .getfield 808, .iconst 0, .iconst 0, .iastore, .aload 0, .getfield 808, .iconst 1, .iconst 1, .aload 0, .getfield 802, .ishl, .iconst 1] (by decide +kernel) ?_
  refine ⟨0, rfl, by omega, ?_⟩
  show pw_V x m_X8_begins 0 Z 19 [(0, .ref 26)] [.int (nI 1), .int ((nI 1) <<< ((mm 26 2) &&& 31)), .int (nI 1), .ref 30] (pw_up mm 30 0 (nI 0))
  rw [show mm 26 2 = nI kx from hk]
  rw [show (nI 1) <<< ((nI kx) &&& 31) = nI (2 ^ kx) from pw_shl1 (by omega)]
  refine pw_blk (pc' := 20) [.isub] (by decide +kernel) ?_
  show pw_V x m_X8_begins 0 Z 20 [(0, .ref 26)] [.int (nI (2 ^ kx) - nI 1), .int (nI 1), .ref 30] (pw_up mm 30 0 (nI 0))
  rw [pk_sub (show 1 ≤ (2 ^ kx) by omega)]
  refine pw_blk (pc' := 23) [.iastore, .iconst 0, .istore 1] (by decide +kernel) ?_
  refine ⟨1, rfl, by omega, ?_⟩
  show pw_V x m_X8_begins 0 Z 23 [(1, .int (nI 0)), (0, .ref 26)] [] (pw_up (pw_up mm 30 0 (nI 0)) 30 1 (nI ((2 ^ kx) - 1)))
  refine pw_lvp [1, 0] rfl ?_
  rw [← pw_beI_0 (B := pw_up (pw_up mm 30 0 (nI 0)) 30 1 (nI ((2 ^ kx) - 1)))]
  suffices lo : ∀ ix : Nat, ix ≤ 6 → pw_V x m_X8_begins 0 Z 23 [(0, .ref 26), (1, .int (nI ix))] [] (pw_beI (pw_up (pw_up mm 30 0 (nI 0)) 30 1 (nI ((2 ^ kx) - 1))) ix) from lo 0 (by omega)
  refine pw_dn 6 (fun ix hix ih => ?_)
  refine pw_blk (pc' := 26) [.iload 1, .iconst (6)] (by decide +kernel) ?_
  show pw_V x m_X8_begins 0 Z 26 [(0, .ref 26), (1, .int (nI ix))] [.int (nI 6), .int (nI ix)] (pw_beI (pw_up (pw_up mm 30 0 (nI 0)) 30 1 (nI ((2 ^ kx) - 1))) ix)
  refine pw_in_ge (tgt := 73) (off := 47) (by omega) (by omega) (by decide +kernel) (by decide) (fun h26 => ?_) (fun h26 => ?_)
  · refine pw_blk (pc' := 97) [.aload 0, .iconst 0, .putfield 809, .aload 0, .iconst 0, .putfield 813, .aload 0, .getfield 812, .iconst 0, .iconst 0, .bastore, .aload 0, .getfield 812, .iconst 1, .iconst 0, .bastore] (by decide +kernel) ?_
    refine ⟨Or.inl rfl, 0, rfl, by omega, ?_⟩
    refine ⟨Or.inl rfl, 1, rfl, by omega, ?_⟩
    show pw_V x m_X8_begins 0 Z 97 [(0, .ref 26), (1, .int (nI ix))] [] (pw_up (pw_up (pw_up (pw_up (pw_beI (pw_up (pw_up mm 30 0 (nI 0)) 30 1 (nI ((2 ^ kx) - 1))) ix) 26 9 (nI 0)) 26 13 (nI 0)) 33 0 (nI 0)) 33 1 (nI 0))
    rw [← hZ]
    refine pw_rv (by decide +kernel) ?_
    exact ⟨rfl, by unfold pw_beM; rw [show ix = 6 by omega]⟩
  · refine pw_blk (pc' := 70) [.aload 0, .getfield 808, .iconst 2, .iload 1, .iadd, .aload 0, .getfield 803, .iconst 3, .iload 1, .imul, .iconst 1, .iadd, .iaload, .iastore, .aload 0, .getfield 808, .iconst (8), .iload 1, .iadd, .iconst 0, .iastore, .aload 0, .getfield 808, .iconst (14), .iload 1, .iadd, .iconst (-1), .iastore, .iinc 1 1] (by decide +kernel) ?_
    refine ⟨((3 * ix) + 1), (show ((nI 3) * (nI ix)) + (nI 1) = nI ((3 * ix) + 1) from by rw [show (nI 3) * (nI ix) = nI (3 * ix) from pk_mul _ _, show (nI (3 * ix)) + (nI 1) = nI ((3 * ix) + 1) from nI_add _ _]), by omega, ?_⟩
    refine ⟨(2 + ix), (show (nI 2) + (nI ix) = nI (2 + ix) from by rw [show (nI 2) + (nI ix) = nI (2 + ix) from nI_add _ _]), by omega, ?_⟩
    refine ⟨(8 + ix), (show (nI 8) + (nI ix) = nI (8 + ix) from by rw [show (nI 8) + (nI ix) = nI (8 + ix) from nI_add _ _]), by omega, ?_⟩
    refine ⟨(14 + ix), (show (nI 14) + (nI ix) = nI (14 + ix) from by rw [show (nI 14) + (nI ix) = nI (14 + ix) from nI_add _ _]), by omega, ?_⟩
    show pw_V x m_X8_begins 0 Z 70 [(1, .int ((nI ix) + (nI 1))), (0, .ref 26)] [] (pw_up (pw_up (pw_up (pw_beI (pw_up (pw_up mm 30 0 (nI 0)) 30 1 (nI ((2 ^ kx) - 1))) ix) 30 (2 + ix) ((pw_beI (pw_up (pw_up mm 30 0 (nI 0)) 30 1 (nI ((2 ^ kx) - 1))) ix) 28 ((3 * ix) + 1))) 30 (8 + ix) (nI 0)) 30 (14 + ix) (-1))
    rw [show (nI ix) + (nI 1) = nI (ix + 1) from nI_add _ _]
    refine pw_goto (tgt := 23) (off := -47) (by decide +kernel) (by decide) ?_
    rw [show pw_up (pw_up (pw_up (pw_beI (pw_up (pw_up mm 30 0 (nI 0)) 30 1 (nI ((2 ^ kx) - 1))) ix) 30 (2 + ix) ((pw_beI (pw_up (pw_up mm 30 0 (nI 0)) 30 1 (nI ((2 ^ kx) - 1))) ix) 28 ((3 * ix) + 1))) 30 (8 + ix) (nI 0)) 30 (14 + ix) (-1) = pw_beI (pw_up (pw_up mm 30 0 (nI 0)) 30 1 (nI ((2 ^ kx) - 1))) (ix + 1) from pw_beI_s (by omega)]
    refine pw_lvp [1, 0] rfl ?_
    exact ih (by omega)

theorem pw_beM_o {m : pw_m} {k c : Nat} (h : c ≠ 26) (h2 : c ≠ 30) (h3 : c ≠ 33) : pw_beM m k c = m c := by
  unfold pw_beM
  rw [pw_up_ne h3, pw_up_ne h3, pw_up_ne h, pw_up_ne h]
  unfold pw_beI
  rw [if_neg h2, pw_up_ne h2, pw_up_ne h2]
theorem pw_beM_26 {m : pw_m} {k j : Nat} : pw_beM m k 26 j = if j = 13 then nI 0 else if j = 9 then nI 0 else m 26 j := by
  unfold pw_beM
  rw [pw_up_ne (by omega), pw_up_ne (by omega), pw_up_eq, pw_up_eq]
  unfold pw_beI
  rw [if_neg (by omega), pw_up_ne (by omega), pw_up_ne (by omega)]
  rfl
theorem pw_beM_33 {m : pw_m} {k j : Nat} (hj : j < 2) : pw_beM m k 33 j = nI 0 := by
  unfold pw_beM
  rw [pw_up_eq]
  unfold upd
  by_cases q : j = 1
  · rw [if_pos q]
  · rw [if_neg q, pw_up_eq]
    unfold upd
    rw [if_pos (by omega)]
theorem pw_beM_30 {m : pw_m} {k j : Nat} : pw_beM m k 30 j = if 2 ≤ j ∧ j < 2 + 6 then m 28 (3 * (j - 2) + 1) else if 8 ≤ j ∧ j < 8 + 6 then nI 0 else if 14 ≤ j ∧ j < 14 + 6 then -1 else if j = 1 then nI (2 ^ k - 1) else if j = 0 then nI 0 else m 30 j := by
  unfold pw_beM
  rw [pw_up_ne (by omega), pw_up_ne (by omega), pw_up_ne (by omega), pw_up_ne (by omega)]
  unfold pw_beI
  rw [if_pos rfl, pw_up_ne (c' := 28) (by omega), pw_up_ne (c' := 28) (by omega), pw_up_eq, pw_up_eq]
  rfl
/-- a new evening: all of MV out of what is told -/
theorem mv_begin {X m : pw_m} (hT : pw_okT X) (ht : MVT X m) (h16 : m 26 16 = nI 0) (h33 : m 26 33 = -1) : MV (pw_up (pw_up (pw_up (G_bg (pw_up X 2 1 (nI 0)) (pw_k X)) 11 2 (nI 0)) 11 3 (nI 0)) 14 4 (nI 0)) (pw_beM m (pw_k X)) := by
  have ge := fun j (hj : j < 6) => G_bg_e (A := pw_up X 2 1 (nI 0)) (k := pw_k X) hj
  have go : ∀ c, (c < 42 ∨ 46 ≤ c) → c ≠ 2 → G_bg (pw_up X 2 1 (nI 0)) (pw_k X) c = X c := fun c h1 h2 => by rw [G_bg_o h1, pw_up_ne h2]
  have g2 : G_bg (pw_up X 2 1 (nI 0)) (pw_k X) 2 1 = nI 0 := by rw [G_bg_o (by omega)]; exact pw_up_gs
  generalize G_bg (pw_up X 2 1 (nI 0)) (pw_k X) = E at ge go g2 ⊢
  have hc : ∀ c, c ≠ 11 → c ≠ 14 → pw_up (pw_up (pw_up E 11 2 (nI 0)) 11 3 (nI 0)) 14 4 (nI 0) c = E c := fun c h1 h2 => by rw [pw_up_ne h2, pw_up_ne h1, pw_up_ne h1]
  have h112 : pw_up (pw_up (pw_up E 11 2 (nI 0)) 11 3 (nI 0)) 14 4 (nI 0) 11 2 = nI 0 := by rw [pw_up_ne (by omega), pw_up_eq, pw_up_eq]; rfl
  have h113 : pw_up (pw_up (pw_up E 11 2 (nI 0)) 11 3 (nI 0)) 14 4 (nI 0) 11 3 = nI 0 := by rw [pw_up_ne (by omega), pw_up_eq]; rfl
  have h144 : pw_up (pw_up (pw_up E 11 2 (nI 0)) 11 3 (nI 0)) 14 4 (nI 0) 14 4 = nI 0 := by rw [pw_up_eq]; rfl
  generalize pw_up (pw_up (pw_up E 11 2 (nI 0)) 11 3 (nI 0)) 14 4 (nI 0) = D at hc h112 h113 h144 ⊢
  have c0 : pw_c (nI 0) = 0 := pw_c_nI (by omega)
  refine ⟨ht.c (fun c q1 q2 => (hc c (by omega) (by omega)).trans (go c (by omega) (by omega))) (fun j hj => by rw [pw_beM_26, if_neg (by omega), if_neg (by omega)]) (fun c q1 q2 => pw_beM_o (by omega) (by omega) (by omega)), MVE.mk6 ?_ ?_ (fun j hj => ?_), ⟨?_, fun i hi => ?_, fun j hj => ⟨?_, fun hb => ?_⟩⟩, ⟨?_, fun i hi => ?_⟩, ⟨?_, fun i hi => ?_⟩, ?_⟩
  · rw [hc 42 (by omega) (by omega), (ge 0 (by omega)).1, pw_beM_30]; rfl
  · rw [hc 42 (by omega) (by omega), (ge 0 (by omega)).2.1, pw_beM_30]; rfl
  · rw [hc 43 (by omega) (by omega), hc 44 (by omega) (by omega), hc 45 (by omega) (by omega), (ge j hj).2.2.1, (ge j hj).2.2.2.1, (ge j hj).2.2.2.2, pw_beM_30, pw_beM_30, pw_beM_30, pw_up_ne (by omega)]
    rw [if_pos (by omega), if_neg (by omega), if_pos (by omega), if_neg (by omega), if_neg (by omega), if_pos (by omega), show 2 + j - 2 = j by omega]
    exact ⟨(ht.2.2.2 j hj).1.2.1, rfl, rfl⟩
  · rw [h112, pw_beM_26]; rfl
  · unfold pw_g at hi
    rw [h112, c0] at hi
    omega
  · rw [pw_beM_33 hj]
    unfold pw_g
    rw [h113, c0, Nat.zero_testBit]
    rfl
  · unfold pw_g at hb
    rw [h113, c0, Nat.zero_testBit] at hb
    cases hb
  · rw [h144, pw_beM_26]; rfl
  · unfold pw_g at hi
    rw [h144, c0] at hi
    omega
  · rw [hc 2 (by omega) (by omega), g2, pw_beM_26, if_neg (by omega), if_neg (by omega)]; exact h16
  · unfold pw_g at hi
    rw [hc 2 (by omega) (by omega), g2, c0] at hi
    omega
  · rw [pw_beM_26, if_neg (by omega), if_neg (by omega)]; exact h33
/-- what was said is told -/
def pw_tlM (m : pw_m) : pw_m := pw_up (pw_up (pw_up (pw_up (pw_cpC (pw_cpC (pw_cpC (pw_up (pw_up m 26 0 (m 26 23)) 26 2 (m 26 25)) 27 36 16) 28 37 18) 29 38 6) 26 5 (m 26 28)) 26 6 (m 26 29)) 26 7 (m 26 30)) 26 16 (nI 0)
theorem pw_tlM_26 {m : pw_m} {j : Nat} : pw_tlM m 26 j = if j = 16 then nI 0 else if j = 7 then m 26 30 else if j = 6 then m 26 29 else if j = 5 then m 26 28 else if j = 2 then m 26 25 else if j = 0 then m 26 23 else m 26 j := by
  unfold pw_tlM
  rw [pw_up_eq, pw_up_eq, pw_up_eq, pw_up_eq, pw_cpC_o (by omega), pw_cpC_o (by omega), pw_cpC_o (by omega), pw_up_eq, pw_up_eq]
  rfl
theorem pw_tlM_o {m : pw_m} {c : Nat} (h : c ≠ 26) (h1 : c ≠ 27) (h2 : c ≠ 28) (h3 : c ≠ 29) : pw_tlM m c = m c := by
  unfold pw_tlM
  rw [pw_up_ne h, pw_up_ne h, pw_up_ne h, pw_up_ne h, pw_cpC_o h3, pw_cpC_o h2, pw_cpC_o h1, pw_up_ne h, pw_up_ne h]
theorem pw_tlM_t {X m : pw_m} (h : SD X m) : MVT X (pw_tlM m) := by
  obtain ⟨⟨a1, a2⟩, ⟨a3, a4, a5⟩, a6, a7⟩ := h
  have e6 : ∀ c, c ≠ 26 → pw_tlM m c = pw_cpC (pw_cpC (pw_cpC (pw_up (pw_up m 26 0 (m 26 23)) 26 2 (m 26 25)) 27 36 16) 28 37 18) 29 38 6 c := fun c hc => by
    unfold pw_tlM
    rw [pw_up_ne hc, pw_up_ne hc, pw_up_ne hc, pw_up_ne hc]
  refine ⟨⟨by rw [pw_tlM_26]; exact a1, by rw [pw_tlM_26]; exact a2⟩, ⟨by rw [pw_tlM_26]; exact a3, by rw [pw_tlM_26]; exact a4, by rw [pw_tlM_26]; exact a5⟩, fun s hs => ?_, fun i hi => ⟨?_, ?_⟩⟩
  · rw [e6 27 (by omega), pw_cpC_o (by omega), pw_cpC_o (by omega), pw_cpC_i (by omega), pw_cpC_i (by omega), pw_up_ne (by omega), pw_up_ne (by omega)]
    exact a6 s hs
  · rw [e6 28 (by omega), pw_cpC_o (by omega), pw_cpC_i (by omega), pw_cpC_i (by omega), pw_cpC_i (by omega), pw_cpC_o (by omega), pw_up_ne (by omega), pw_up_ne (by omega)]
    exact (a7 i hi).1
  · rw [e6 29 (by omega), pw_cpC_i hi, pw_cpC_o (by omega), pw_cpC_o (by omega), pw_up_ne (by omega), pw_up_ne (by omega)]
    exact (a7 i hi).2

set_option maxHeartbeats 4000000 in
set_option maxRecDepth 100000 in
theorem c_mtable {A : pw_m} (mm : pw_m) (hv : MV A mm) (hok : pw_ok A) : pw_Ct 7 yX8_table m_X8_table [.ref 26] mm (fun r m' => r = some (.int (F_table A)) ∧ MV (G_table A) m' ∧ pw_mf_ mm m') := by
  refine pw_ct (by decide +kernel) rfl (Nat.le_of_ble_eq_true rfl) (fun x => ?_)
  generalize hZ : pw_Z x _ = Z
  have bn := pw_bn hok
  have bk := pw_bk hok
  show pw_V x m_X8_table 7 Z 0 [(0, .ref 26)] [] mm
  refine pw_blk (pc' := 1) [.aload 0] (by decide +kernel) ?_
  show pw_V x m_X8_table 7 Z 1 [(0, .ref 26)] [.ref 26] mm
  refine pw_cV (vs := []) (rest := []) k_X8_reads (c_mreads mm hv hok) l_8_183 rfl rfl rfl rfl (by omega) (Nat.le_of_ble_eq_true rfl) (by decide +kernel) ?_
  rintro _ m1 ⟨rfl, hrd⟩
  show pw_V x m_X8_table 7 Z 4 [(0, .ref 26)] [] m1
  obtain ⟨q1, q2, q3, q4⟩ := hrd
  rcases hRF : pw_RF A with _ | bx
  · have W1 : m1 26 21 = nI 1 := by rw [q2, hRF]; rfl
    refine pw_blk (pc' := 8) [.aload 0, .getfield 821] (by decide +kernel) ?_
    show pw_V x m_X8_table 7 Z 8 [(0, .ref 26)] [.int (m1 26 21)] m1
    rw [show m1 26 21 = nI 1 from W1]
    refine pw_iz_ne (tgt := 14) (off := 6) (by omega) (by decide +kernel) (by decide) (fun _ => ?_) (fun h => by omega)
    refine pw_blk (pc' := 32) [.aload 0, .aload 0, .getfield 823, .putfield 800, .aload 0, .aload 0, .getfield 825, .putfield 802, .iconst 0, .istore 1] (by decide +kernel) ?_
    show pw_V x m_X8_table 7 Z 32 [(1, .int (nI 0)), (0, .ref 26)] [] (pw_up (pw_up m1 26 0 (m1 26 23)) 26 2 (m1 26 25))
    refine pw_lvp [1, 0] rfl ?_
    rw [← pw_cpC_0 (B := pw_up (pw_up m1 26 0 (m1 26 23)) 26 2 (m1 26 25)) (d := 27) (s := 36)]
    suffices lo : ∀ ix : Nat, ix ≤ 16 → pw_V x m_X8_table 7 Z 32 [(0, .ref 26), (1, .int (nI ix))] [] (pw_cpC (pw_up (pw_up m1 26 0 (m1 26 23)) 26 2 (m1 26 25)) 27 36 ix) from lo 0 (by omega)
    refine pw_dn 16 (fun ix hix ih => ?_)
    refine pw_blk (pc' := 35) [.iload 1, .iconst (16)] (by decide +kernel) ?_
    show pw_V x m_X8_table 7 Z 35 [(0, .ref 26), (1, .int (nI ix))] [.int (nI 16), .int (nI ix)] (pw_cpC (pw_up (pw_up m1 26 0 (m1 26 23)) 26 2 (m1 26 25)) 27 36 ix)
    refine pw_in_ge (tgt := 56) (off := 21) (by omega) (by omega) (by decide +kernel) (by decide) (fun h35 => ?_) (fun h35 => ?_)
    · have en : ix = 16 := by omega
      rw [en]
      clear en
      refine pw_blk (pc' := 58) [.iconst 0, .istore 1] (by decide +kernel) ?_
      show pw_V x m_X8_table 7 Z 58 [(1, .int (nI 0)), (0, .ref 26)] [] (pw_cpC (pw_up (pw_up m1 26 0 (m1 26 23)) 26 2 (m1 26 25)) 27 36 16)
      refine pw_lvp [1, 0] rfl ?_
      rw [← pw_cpC_0 (B := pw_cpC (pw_up (pw_up m1 26 0 (m1 26 23)) 26 2 (m1 26 25)) 27 36 16) (d := 28) (s := 37)]
      suffices lo : ∀ ix : Nat, ix ≤ 18 → pw_V x m_X8_table 7 Z 58 [(0, .ref 26), (1, .int (nI ix))] [] (pw_cpC (pw_cpC (pw_up (pw_up m1 26 0 (m1 26 23)) 26 2 (m1 26 25)) 27 36 16) 28 37 ix) from lo 0 (by omega)
      refine pw_dn 18 (fun ix hix ih => ?_)
      refine pw_blk (pc' := 61) [.iload 1, .iconst (18)] (by decide +kernel) ?_
      show pw_V x m_X8_table 7 Z 61 [(0, .ref 26), (1, .int (nI ix))] [.int (nI 18), .int (nI ix)] (pw_cpC (pw_cpC (pw_up (pw_up m1 26 0 (m1 26 23)) 26 2 (m1 26 25)) 27 36 16) 28 37 ix)
      refine pw_in_ge (tgt := 82) (off := 21) (by omega) (by omega) (by decide +kernel) (by decide) (fun h61 => ?_) (fun h61 => ?_)
      · have en : ix = 18 := by omega
        rw [en]
        clear en
        refine pw_blk (pc' := 84) [.iconst 0, .istore 1] (by decide +kernel) ?_
        show pw_V x m_X8_table 7 Z 84 [(1, .int (nI 0)), (0, .ref 26)] [] (pw_cpC (pw_cpC (pw_up (pw_up m1 26 0 (m1 26 23)) 26 2 (m1 26 25)) 27 36 16) 28 37 18)
        refine pw_lvp [1, 0] rfl ?_
        rw [← pw_cpC_0 (B := pw_cpC (pw_cpC (pw_up (pw_up m1 26 0 (m1 26 23)) 26 2 (m1 26 25)) 27 36 16) 28 37 18) (d := 29) (s := 38)]
        suffices lo : ∀ ix : Nat, ix ≤ 6 → pw_V x m_X8_table 7 Z 84 [(0, .ref 26), (1, .int (nI ix))] [] (pw_cpC (pw_cpC (pw_cpC (pw_up (pw_up m1 26 0 (m1 26 23)) 26 2 (m1 26 25)) 27 36 16) 28 37 18) 29 38 ix) from lo 0 (by omega)
        refine pw_dn 6 (fun ix hix ih => ?_)
        refine pw_blk (pc' := 87) [.iload 1, .iconst (6)] (by decide +kernel) ?_
        show pw_V x m_X8_table 7 Z 87 [(0, .ref 26), (1, .int (nI ix))] [.int (nI 6), .int (nI ix)] (pw_cpC (pw_cpC (pw_cpC (pw_up (pw_up m1 26 0 (m1 26 23)) 26 2 (m1 26 25)) 27 36 16) 28 37 18) 29 38 ix)
        refine pw_in_ge (tgt := 108) (off := 21) (by omega) (by omega) (by decide +kernel) (by decide) (fun h87 => ?_) (fun h87 => ?_)
        · have en : ix = 6 := by omega
          rw [en]
          clear en
          refine pw_blk (pc' := 137) [.aload 0, .aload 0, .getfield 828, .putfield 805, .aload 0, .aload 0, .getfield 829, .putfield 806, .aload 0, .aload 0, .getfield 830, .putfield 807, .aload 0, .iconst 0, .putfield 816] (by decide +kernel) ?_
          show pw_V x m_X8_table 7 Z 137 [(0, .ref 26), (1, .int (nI 6))] [] (pw_up (pw_up (pw_up (pw_up (pw_cpC (pw_cpC (pw_cpC (pw_up (pw_up m1 26 0 (m1 26 23)) 26 2 (m1 26 25)) 27 36 16) 28 37 18) 29 38 6) 26 5 ((pw_cpC (pw_cpC (pw_cpC (pw_up (pw_up m1 26 0 (m1 26 23)) 26 2 (m1 26 25)) 27 36 16) 28 37 18) 29 38 6) 26 28)) 26 6 ((pw_cpC (pw_cpC (pw_cpC (pw_up (pw_up m1 26 0 (m1 26 23)) 26 2 (m1 26 25)) 27 36 16) 28 37 18) 29 38 6) 26 29)) 26 7 ((pw_cpC (pw_cpC (pw_cpC (pw_up (pw_up m1 26 0 (m1 26 23)) 26 2 (m1 26 25)) 27 36 16) 28 37 18) 29 38 6) 26 30)) 26 16 (nI 0))
          obtain ⟨S1, hlen⟩ : SD (G_oq A (pw_CQ A)) m1 ∧ m1 26 22 = nI (pw_CQ A).length := ⟨(q4 hRF).2, (q4 hRF).1⟩
          have hT0 : pw_okT (G_oq A (pw_CQ A)) := pw_okT_oq 14 (pw_n A) (pw_k A) 0 A hok.1 (pw_q40 hok) (pw_q41 hok) bn bk
          have t1 := pw_tlM_t S1
          have t2 : pw_tlM m1 26 16 = nI 0 := by rw [pw_tlM_26]; rfl
          have t3 : pw_tlM m1 26 33 = -1 := by rw [pw_tlM_26]; exact (q1.2 33 (by omega)).trans hv.2.2.2.2.2
          have t4 : pw_tlM m1 26 2 = nI (pw_k (G_oq A (pw_CQ A))) := t1.1.2.trans hT0.1.2.1
          have t5 : pw_k (G_oq A (pw_CQ A)) ≤ 6 := by have := hT0.1.2.2; unfold pw_k; omega
          have t6 : pw_tlM m1 26 22 = nI (pw_CQ A).length := by rw [pw_tlM_26]; exact hlen
          have t7 : ∀ c, (c < 26 ∨ 41 < c) → pw_tlM m1 c = mm c := fun c hc => (pw_tlM_o (by omega) (by omega) (by omega) (by omega)).trans (q1.1 c (by omega) (by omega))
          rw [show pw_up (pw_up (pw_up (pw_up (pw_cpC (pw_cpC (pw_cpC (pw_up (pw_up m1 26 0 (m1 26 23)) 26 2 (m1 26 25)) 27 36 16) 28 37 18) 29 38 6) 26 5 ((pw_cpC (pw_cpC (pw_cpC (pw_up (pw_up m1 26 0 (m1 26 23)) 26 2 (m1 26 25)) 27 36 16) 28 37 18) 29 38 6) 26 28)) 26 6 ((pw_cpC (pw_cpC (pw_cpC (pw_up (pw_up m1 26 0 (m1 26 23)) 26 2 (m1 26 25)) 27 36 16) 28 37 18) 29 38 6) 26 29)) 26 7 ((pw_cpC (pw_cpC (pw_cpC (pw_up (pw_up m1 26 0 (m1 26 23)) 26 2 (m1 26 25)) 27 36 16) 28 37 18) 29 38 6) 26 30)) 26 16 (nI 0) = pw_tlM m1 from rfl]
          generalize pw_tlM m1 = m2 at t1 t2 t3 t4 t6 t7 ⊢
          refine pw_blk (pc' := 138) [.aload 0] (by decide +kernel) ?_
          show pw_V x m_X8_table 7 Z 138 [(0, .ref 26), (1, .int (nI 6))] [.ref 26] m2
          refine pw_cV (vs := []) (rest := []) k_X8_begins (c_mbegins m2 (pw_k (G_oq A (pw_CQ A))) t4 t5) l_8_63 rfl rfl rfl rfl (by omega) (Nat.le_of_ble_eq_true rfl) (by decide +kernel) ?_
          rintro _ m1 ⟨rfl, e1⟩
          rw [e1]
          clear e1 m1
          show pw_V x m_X8_table 7 Z 141 [(0, .ref 26), (1, .int (nI 6))] [] (pw_beM m2 (pw_k (G_oq A (pw_CQ A))))
          refine pw_blk (pc' := 145) [.aload 0, .getfield 822] (by decide +kernel) ?_
          show pw_V x m_X8_table 7 Z 145 [(0, .ref 26), (1, .int (nI 6))] [.int ((pw_beM m2 (pw_k (G_oq A (pw_CQ A)))) 26 22)] (pw_beM m2 (pw_k (G_oq A (pw_CQ A))))
          rw [show (pw_beM m2 (pw_k (G_oq A (pw_CQ A)))) 26 22 = nI ((pw_CQ A).length) from (by rw [pw_beM_26, if_neg (by omega), if_neg (by omega)]; exact t6)]
          rw [← hZ]
          refine pw_ri (by decide +kernel) ?_
          refine ⟨by unfold F_table; rw [if_pos hRF], ?_, fun c hc => by rw [pw_beM_o (by omega) (by omega) (by omega)]; exact t7 c hc⟩
          unfold G_table
          rw [if_pos hRF]
          exact mv_begin hT0 t1 t2 t3
        · refine pw_blk (pc' := 105) [.aload 0, .getfield 804, .iload 1, .aload 0, .getfield 827, .iload 1, .iaload, .iastore, .iinc 1 1] (by decide +kernel) ?_
          refine ⟨ix, rfl, by omega, ?_⟩
          refine ⟨ix, rfl, by omega, ?_⟩
          show pw_V x m_X8_table 7 Z 105 [(1, .int ((nI ix) + (nI 1))), (0, .ref 26)] [] (pw_up (pw_cpC (pw_cpC (pw_cpC (pw_up (pw_up m1 26 0 (m1 26 23)) 26 2 (m1 26 25)) 27 36 16) 28 37 18) 29 38 ix) 29 ix ((pw_cpC (pw_cpC (pw_cpC (pw_up (pw_up m1 26 0 (m1 26 23)) 26 2 (m1 26 25)) 27 36 16) 28 37 18) 29 38 ix) 38 ix))
          rw [show (nI ix) + (nI 1) = nI (ix + 1) from nI_add _ _]
          refine pw_goto (tgt := 84) (off := -21) (by decide +kernel) (by decide) ?_
          rw [show pw_up (pw_cpC (pw_cpC (pw_cpC (pw_up (pw_up m1 26 0 (m1 26 23)) 26 2 (m1 26 25)) 27 36 16) 28 37 18) 29 38 ix) 29 ix ((pw_cpC (pw_cpC (pw_cpC (pw_up (pw_up m1 26 0 (m1 26 23)) 26 2 (m1 26 25)) 27 36 16) 28 37 18) 29 38 ix) 38 ix) = pw_cpC (pw_cpC (pw_cpC (pw_up (pw_up m1 26 0 (m1 26 23)) 26 2 (m1 26 25)) 27 36 16) 28 37 18) 29 38 (ix + 1) from pw_cpC_s (by decide)]
          refine pw_lvp [1, 0] rfl ?_
          exact ih (by omega)
      · refine pw_blk (pc' := 79) [.aload 0, .getfield 803, .iload 1, .aload 0, .getfield 826, .iload 1, .iaload, .iastore, .iinc 1 1] (by decide +kernel) ?_
        refine ⟨ix, rfl, by omega, ?_⟩
        refine ⟨ix, rfl, by omega, ?_⟩
        show pw_V x m_X8_table 7 Z 79 [(1, .int ((nI ix) + (nI 1))), (0, .ref 26)] [] (pw_up (pw_cpC (pw_cpC (pw_up (pw_up m1 26 0 (m1 26 23)) 26 2 (m1 26 25)) 27 36 16) 28 37 ix) 28 ix ((pw_cpC (pw_cpC (pw_up (pw_up m1 26 0 (m1 26 23)) 26 2 (m1 26 25)) 27 36 16) 28 37 ix) 37 ix))
        rw [show (nI ix) + (nI 1) = nI (ix + 1) from nI_add _ _]
        refine pw_goto (tgt := 58) (off := -21) (by decide +kernel) (by decide) ?_
        rw [show pw_up (pw_cpC (pw_cpC (pw_up (pw_up m1 26 0 (m1 26 23)) 26 2 (m1 26 25)) 27 36 16) 28 37 ix) 28 ix ((pw_cpC (pw_cpC (pw_up (pw_up m1 26 0 (m1 26 23)) 26 2 (m1 26 25)) 27 36 16) 28 37 ix) 37 ix) = pw_cpC (pw_cpC (pw_up (pw_up m1 26 0 (m1 26 23)) 26 2 (m1 26 25)) 27 36 16) 28 37 (ix + 1) from pw_cpC_s (by decide)]
        refine pw_lvp [1, 0] rfl ?_
        exact ih (by omega)
    · refine pw_blk (pc' := 53) [.aload 0, .getfield 801, .iload 1, .aload 0, .getfield 824, .iload 1, .iaload, .iastore, .iinc 1 1] (by decide +kernel) ?_
      refine ⟨ix, rfl, by omega, ?_⟩
      refine ⟨ix, rfl, by omega, ?_⟩
      show pw_V x m_X8_table 7 Z 53 [(1, .int ((nI ix) + (nI 1))), (0, .ref 26)] [] (pw_up (pw_cpC (pw_up (pw_up m1 26 0 (m1 26 23)) 26 2 (m1 26 25)) 27 36 ix) 27 ix ((pw_cpC (pw_up (pw_up m1 26 0 (m1 26 23)) 26 2 (m1 26 25)) 27 36 ix) 36 ix))
      rw [show (nI ix) + (nI 1) = nI (ix + 1) from nI_add _ _]
      refine pw_goto (tgt := 32) (off := -21) (by decide +kernel) (by decide) ?_
      rw [show pw_up (pw_cpC (pw_up (pw_up m1 26 0 (m1 26 23)) 26 2 (m1 26 25)) 27 36 ix) 27 ix ((pw_cpC (pw_up (pw_up m1 26 0 (m1 26 23)) 26 2 (m1 26 25)) 27 36 ix) 36 ix) = pw_cpC (pw_up (pw_up m1 26 0 (m1 26 23)) 26 2 (m1 26 25)) 27 36 (ix + 1) from pw_cpC_s (by decide)]
      refine pw_lvp [1, 0] rfl ?_
      exact ih (by omega)
  · have W1 : m1 26 21 = nI 0 := by rw [q2, hRF]; rfl
    have P1 := q3 bx hRF
    refine pw_blk (pc' := 8) [.aload 0, .getfield 821] (by decide +kernel) ?_
    show pw_V x m_X8_table 7 Z 8 [(0, .ref 26)] [.int (m1 26 21)] m1
    rw [show m1 26 21 = nI 0 from W1]
    refine pw_iz_ne (tgt := 14) (off := 6) (by omega) (by decide +kernel) (by decide) (fun h => by omega) (fun _ => ?_)
    refine pw_blk (pc' := 13) [.iconst (-4)] (by decide +kernel) ?_
    show pw_V x m_X8_table 7 Z 13 [(0, .ref 26)] [.int (-4)] m1
    rw [← hZ]
    refine pw_ri (by decide +kernel) ?_
    exact ⟨by unfold F_table; rw [hRF]; rfl, by unfold G_table; rw [hRF]; exact hv.rfn q1, pw_rfn_mf q1⟩
