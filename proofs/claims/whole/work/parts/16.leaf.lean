def pw_min (a b : Int32) : Int32 := if b < a then b else a
def pw_max (a b : Int32) : Int32 := if a < b then b else a
theorem pw_minN {a b : Nat} (ha : a < 2 ^ 31) (hb : b < 2 ^ 31) : pw_min (nI a) (nI b) = nI (min a b) := by
  unfold pw_min
  have h := nI_ltI hb ha
  by_cases q : b < a
  · rw [if_pos (h.mpr q), Nat.min_eq_right (by omega)]
  · rw [if_neg (fun z => q (h.mp z)), Nat.min_eq_left (by omega)]
theorem pw_maxN {a b : Nat} (ha : a < 2 ^ 31) (hb : b < 2 ^ 31) : pw_max (nI a) (nI b) = nI (max a b) := by
  unfold pw_max
  have h := nI_ltI ha hb
  by_cases q : a < b
  · rw [if_pos (h.mpr q), Nat.max_eq_right (by omega)]
  · rw [if_neg (fun z => q (h.mp z)), Nat.max_eq_left (by omega)]

section PWMM
variable {x : pw_X} {M : pw_M} {d idx : Nat} {Z : State → Prop} {pc : Nat} {lv : List (Nat × Value)} {r : List Value} {mm : pw_m}
theorem pw_cMin {a b : Int32} (hlink : Cond.methodLink (pw_on M.1) idx yJ9_min_7cf53 ∈ pw_tb) (h1 : 1 ≤ d) (hW : (r.map fun v => v.category).sum ≤ 8) (hd : decode M.2.1 pc = .ok (.invokestatic idx, 3)) (hk : pw_V x M d Z (pc + 3) lv (.int (pw_min a b) :: r) mm) : pw_V x M d Z pc lv (.int b :: .int a :: r) mm := by
  obtain ⟨p, l, ee, R, s, m, args, below, meth, cc, D, ad, ⟨cI, cZ, cE⟩, A, X, nc, ns⟩ := x
  intro hC H locs hH ls hl
  have hRR := hC.2.2.2.2.2.2.2.1
  have ht := hC.2.2.2.2.1
  exact va_mmin hC.1 hC.2.1 (hC.2.2.1.trans hl.1.symm) hC.2.2.2.1 (ht _ hlink) (ht _ k_J9_min_7cf53.2) (ht _ k_J9_min_7cf53.1.1) (ht _ k_J9_min_7cf53.1.2.1) (Nat.le_trans h1 hRR.1) (Nat.le_trans (by rw [List.map_map]; simp only [Function.comp_def, pw_tv_cat]; omega) (Nat.le_trans (Nat.mul_le_mul_left 64 h1) hRR.2.1)) hRR.2.2.1 hRR.2.2.2 hd (hk hC H locs hH ls hl)
theorem pw_cMax {a b : Int32} (hlink : Cond.methodLink (pw_on M.1) idx yJ9_max_7cf53 ∈ pw_tb) (h1 : 1 ≤ d) (hW : (r.map fun v => v.category).sum ≤ 8) (hd : decode M.2.1 pc = .ok (.invokestatic idx, 3)) (hk : pw_V x M d Z (pc + 3) lv (.int (pw_max a b) :: r) mm) : pw_V x M d Z pc lv (.int b :: .int a :: r) mm := by
  obtain ⟨p, l, ee, R, s, m, args, below, meth, cc, D, ad, ⟨cI, cZ, cE⟩, A, X, nc, ns⟩ := x
  intro hC H locs hH ls hl
  have hRR := hC.2.2.2.2.2.2.2.1
  have ht := hC.2.2.2.2.1
  exact va_mmax hC.1 hC.2.1 (hC.2.2.1.trans hl.1.symm) hC.2.2.2.1 (ht _ hlink) (ht _ k_J9_max_7cf53.2) (ht _ k_J9_max_7cf53.1.1) (ht _ k_J9_max_7cf53.1.2.1) (Nat.le_trans h1 hRR.1) (Nat.le_trans (by rw [List.map_map]; simp only [Function.comp_def, pw_tv_cat]; omega) (Nat.le_trans (Nat.mul_le_mul_left 64 h1) hRR.2.1)) hRR.2.2.1 hRR.2.2.2 hd (hk hC H locs hH ls hl)
end PWMM
theorem pw_nlt {a b : Int32} (h : b ≤ a) : ¬ a < b := by
  rw [Int32.le_iff_toInt_le] at h
  rw [Int32.lt_iff_toInt_lt]
  omega
theorem pw_inr_f1 {s : Int32} {n : Nat} (h : s < 0) : pw_inr s n = false := by
  unfold pw_inr
  rw [decide_eq_true h]
  rfl
theorem pw_inr_f2 {s : Int32} {n : Nat} (h : nI n ≤ s) : pw_inr s n = false := by
  unfold pw_inr
  rw [decide_eq_false (pw_nlt h)]
  exact Bool.and_false _
theorem pw_inr_y {s : Int32} {n : Nat} (h : ¬ s < 0) (h2 : ¬ nI n ≤ s) : pw_inr s n = true := by
  unfold pw_inr
  rw [decide_eq_false h, decide_eq_true (Int32.not_le.mp h2)]
  rfl

/-- Integer.bitCount, as its code counts -/
def pw_bc (a : Int32) : Int32 :=
  let u := fun (x y : Int32) => (x.toUInt32 >>> (y.toUInt32 &&& Int32.toUInt32 31)).toInt32
  let a1 := a - (u a (nI 1) &&& nI 1431655765)
  let a2 := (a1 &&& nI 858993459) + (u a1 (nI 2) &&& nI 858993459)
  let a3 := (a2 + u a2 (nI 4)) &&& nI 252645135
  let a4 := a3 + u a3 (nI 8)
  let a5 := a4 + u a4 (nI 16)
  a5 &&& nI 63

set_option maxHeartbeats 4000000 in
set_option maxRecDepth 100000 in
theorem c_bitCount (a : Int32) (mm : pw_m) : pw_Ct 0 yJ6_bitCount_0f7a4 m_J6_bitCount_0f7a4 [.int a] mm (fun r m' => r = some (.int (pw_bc a)) ∧ m' = mm) := by
  refine pw_ct (by decide +kernel) rfl (Nat.le_of_ble_eq_true rfl) (fun x => ?_)
  generalize hZ : pw_Z x _ = Z
  show pw_V x m_J6_bitCount_0f7a4 0 Z 0 [(0, .int a)] [] mm
  refine pw_blk (pc' := 52) [.iload 0, .iload 0, .iconst 1, .iushr, .iconst 1431655765, .iand, .isub, .istore 0, .iload 0, .iconst 858993459, .iand, .iload 0, .iconst 2, .iushr, .iconst 858993459, .iand, .iadd, .istore 0, .iload 0, .iload 0, .iconst 4, .iushr, .iadd, .iconst 252645135, .iand, .istore 0, .iload 0, .iload 0, .iconst (8), .iushr, .iadd, .istore 0, .iload 0, .iload 0, .iconst (16), .iushr, .iadd, .istore 0, .iload 0, .iconst (63), .iand] (by decide +kernel) ?_
  show pw_V x m_J6_bitCount_0f7a4 0 Z 52 [(0, .int (((((((a - (((a.toUInt32 >>> ((nI 1).toUInt32 &&& Int32.toUInt32 31)).toInt32) &&& (nI 1431655765))) &&& (nI 858993459)) + ((((a - (((a.toUInt32 >>> ((nI 1).toUInt32 &&& Int32.toUInt32 31)).toInt32) &&& (nI 1431655765))).toUInt32 >>> ((nI 2).toUInt32 &&& Int32.toUInt32 31)).toInt32) &&& (nI 858993459))) + (((((a - (((a.toUInt32 >>> ((nI 1).toUInt32 &&& Int32.toUInt32 31)).toInt32) &&& (nI 1431655765))) &&& (nI 858993459)) + ((((a - (((a.toUInt32 >>> ((nI 1).toUInt32 &&& Int32.toUInt32 31)).toInt32) &&& (nI 1431655765))).toUInt32 >>> ((nI 2).toUInt32 &&& Int32.toUInt32 31)).toInt32) &&& (nI 858993459))).toUInt32 >>> ((nI 4).toUInt32 &&& Int32.toUInt32 31)).toInt32)) &&& (nI 252645135)) + (((((((a - (((a.toUInt32 >>> ((nI 1).toUInt32 &&& Int32.toUInt32 31)).toInt32) &&& (nI 1431655765))) &&& (nI 858993459)) + ((((a - (((a.toUInt32 >>> ((nI 1).toUInt32 &&& Int32.toUInt32 31)).toInt32) &&& (nI 1431655765))).toUInt32 >>> ((nI 2).toUInt32 &&& Int32.toUInt32 31)).toInt32) &&& (nI 858993459))) + (((((a - (((a.toUInt32 >>> ((nI 1).toUInt32 &&& Int32.toUInt32 31)).toInt32) &&& (nI 1431655765))) &&& (nI 858993459)) + ((((a - (((a.toUInt32 >>> ((nI 1).toUInt32 &&& Int32.toUInt32 31)).toInt32) &&& (nI 1431655765))).toUInt32 >>> ((nI 2).toUInt32 &&& Int32.toUInt32 31)).toInt32) &&& (nI 858993459))).toUInt32 >>> ((nI 4).toUInt32 &&& Int32.toUInt32 31)).toInt32)) &&& (nI 252645135)).toUInt32 >>> ((nI 8).toUInt32 &&& Int32.toUInt32 31)).toInt32)) + ((((((((a - (((a.toUInt32 >>> ((nI 1).toUInt32 &&& Int32.toUInt32 31)).toInt32) &&& (nI 1431655765))) &&& (nI 858993459)) + ((((a - (((a.toUInt32 >>> ((nI 1).toUInt32 &&& Int32.toUInt32 31)).toInt32) &&& (nI 1431655765))).toUInt32 >>> ((nI 2).toUInt32 &&& Int32.toUInt32 31)).toInt32) &&& (nI 858993459))) + (((((a - (((a.toUInt32 >>> ((nI 1).toUInt32 &&& Int32.toUInt32 31)).toInt32) &&& (nI 1431655765))) &&& (nI 858993459)) + ((((a - (((a.toUInt32 >>> ((nI 1).toUInt32 &&& Int32.toUInt32 31)).toInt32) &&& (nI 1431655765))).toUInt32 >>> ((nI 2).toUInt32 &&& Int32.toUInt32 31)).toInt32) &&& (nI 858993459))).toUInt32 >>> ((nI 4).toUInt32 &&& Int32.toUInt32 31)).toInt32)) &&& (nI 252645135)) + (((((((a - (((a.toUInt32 >>> ((nI 1).toUInt32 &&& Int32.toUInt32 31)).toInt32) &&& (nI 1431655765))) &&& (nI 858993459)) + ((((a - (((a.toUInt32 >>> ((nI 1).toUInt32 &&& Int32.toUInt32 31)).toInt32) &&& (nI 1431655765))).toUInt32 >>> ((nI 2).toUInt32 &&& Int32.toUInt32 31)).toInt32) &&& (nI 858993459))) + (((((a - (((a.toUInt32 >>> ((nI 1).toUInt32 &&& Int32.toUInt32 31)).toInt32) &&& (nI 1431655765))) &&& (nI 858993459)) + ((((a - (((a.toUInt32 >>> ((nI 1).toUInt32 &&& Int32.toUInt32 31)).toInt32) &&& (nI 1431655765))).toUInt32 >>> ((nI 2).toUInt32 &&& Int32.toUInt32 31)).toInt32) &&& (nI 858993459))).toUInt32 >>> ((nI 4).toUInt32 &&& Int32.toUInt32 31)).toInt32)) &&& (nI 252645135)).toUInt32 >>> ((nI 8).toUInt32 &&& Int32.toUInt32 31)).toInt32)).toUInt32 >>> ((nI 16).toUInt32 &&& Int32.toUInt32 31)).toInt32)))] [.int ((((((((a - (((a.toUInt32 >>> ((nI 1).toUInt32 &&& Int32.toUInt32 31)).toInt32) &&& (nI 1431655765))) &&& (nI 858993459)) + ((((a - (((a.toUInt32 >>> ((nI 1).toUInt32 &&& Int32.toUInt32 31)).toInt32) &&& (nI 1431655765))).toUInt32 >>> ((nI 2).toUInt32 &&& Int32.toUInt32 31)).toInt32) &&& (nI 858993459))) + (((((a - (((a.toUInt32 >>> ((nI 1).toUInt32 &&& Int32.toUInt32 31)).toInt32) &&& (nI 1431655765))) &&& (nI 858993459)) + ((((a - (((a.toUInt32 >>> ((nI 1).toUInt32 &&& Int32.toUInt32 31)).toInt32) &&& (nI 1431655765))).toUInt32 >>> ((nI 2).toUInt32 &&& Int32.toUInt32 31)).toInt32) &&& (nI 858993459))).toUInt32 >>> ((nI 4).toUInt32 &&& Int32.toUInt32 31)).toInt32)) &&& (nI 252645135)) + (((((((a - (((a.toUInt32 >>> ((nI 1).toUInt32 &&& Int32.toUInt32 31)).toInt32) &&& (nI 1431655765))) &&& (nI 858993459)) + ((((a - (((a.toUInt32 >>> ((nI 1).toUInt32 &&& Int32.toUInt32 31)).toInt32) &&& (nI 1431655765))).toUInt32 >>> ((nI 2).toUInt32 &&& Int32.toUInt32 31)).toInt32) &&& (nI 858993459))) + (((((a - (((a.toUInt32 >>> ((nI 1).toUInt32 &&& Int32.toUInt32 31)).toInt32) &&& (nI 1431655765))) &&& (nI 858993459)) + ((((a - (((a.toUInt32 >>> ((nI 1).toUInt32 &&& Int32.toUInt32 31)).toInt32) &&& (nI 1431655765))).toUInt32 >>> ((nI 2).toUInt32 &&& Int32.toUInt32 31)).toInt32) &&& (nI 858993459))).toUInt32 >>> ((nI 4).toUInt32 &&& Int32.toUInt32 31)).toInt32)) &&& (nI 252645135)).toUInt32 >>> ((nI 8).toUInt32 &&& Int32.toUInt32 31)).toInt32)) + ((((((((a - (((a.toUInt32 >>> ((nI 1).toUInt32 &&& Int32.toUInt32 31)).toInt32) &&& (nI 1431655765))) &&& (nI 858993459)) + ((((a - (((a.toUInt32 >>> ((nI 1).toUInt32 &&& Int32.toUInt32 31)).toInt32) &&& (nI 1431655765))).toUInt32 >>> ((nI 2).toUInt32 &&& Int32.toUInt32 31)).toInt32) &&& (nI 858993459))) + (((((a - (((a.toUInt32 >>> ((nI 1).toUInt32 &&& Int32.toUInt32 31)).toInt32) &&& (nI 1431655765))) &&& (nI 858993459)) + ((((a - (((a.toUInt32 >>> ((nI 1).toUInt32 &&& Int32.toUInt32 31)).toInt32) &&& (nI 1431655765))).toUInt32 >>> ((nI 2).toUInt32 &&& Int32.toUInt32 31)).toInt32) &&& (nI 858993459))).toUInt32 >>> ((nI 4).toUInt32 &&& Int32.toUInt32 31)).toInt32)) &&& (nI 252645135)) + (((((((a - (((a.toUInt32 >>> ((nI 1).toUInt32 &&& Int32.toUInt32 31)).toInt32) &&& (nI 1431655765))) &&& (nI 858993459)) + ((((a - (((a.toUInt32 >>> ((nI 1).toUInt32 &&& Int32.toUInt32 31)).toInt32) &&& (nI 1431655765))).toUInt32 >>> ((nI 2).toUInt32 &&& Int32.toUInt32 31)).toInt32) &&& (nI 858993459))) + (((((a - (((a.toUInt32 >>> ((nI 1).toUInt32 &&& Int32.toUInt32 31)).toInt32) &&& (nI 1431655765))) &&& (nI 858993459)) + ((((a - (((a.toUInt32 >>> ((nI 1).toUInt32 &&& Int32.toUInt32 31)).toInt32) &&& (nI 1431655765))).toUInt32 >>> ((nI 2).toUInt32 &&& Int32.toUInt32 31)).toInt32) &&& (nI 858993459))).toUInt32 >>> ((nI 4).toUInt32 &&& Int32.toUInt32 31)).toInt32)) &&& (nI 252645135)).toUInt32 >>> ((nI 8).toUInt32 &&& Int32.toUInt32 31)).toInt32)).toUInt32 >>> ((nI 16).toUInt32 &&& Int32.toUInt32 31)).toInt32)) &&& (nI 63))] mm
  rw [← hZ]
  refine pw_ri (by decide +kernel) ?_
  exact ⟨rfl, rfl⟩

/-- how many bits, of a set below 8 -/
def pw_pc (b : Nat) : Nat := pw_ct_ (fun i => b.testBit i) 8
theorem pw_bcN : ∀ b, b < 256 → pw_bc (nI b) = nI (pw_pc b) := by decide +kernel

set_option maxHeartbeats 4000000 in
set_option maxRecDepth 100000 in
theorem c_has (b a : Int32) (mm : pw_m) : pw_Ct 0 yX7_has m_X7_has [.int b, .int a] mm (fun r m' => r = some (.int (pw_b (pw_hs b a))) ∧ m' = mm) := by
  refine pw_ct (by decide +kernel) rfl (Nat.le_of_ble_eq_true rfl) (fun x => ?_)
  generalize hZ : pw_Z x _ = Z
  show pw_V x m_X7_has 0 Z 0 [(0, .int b), (1, .int a)] [] mm
  refine pw_blk (pc' := 5) [.iload 0, .iload 1, .ishr, .iconst 1, .iand] (by decide +kernel) ?_
  show pw_V x m_X7_has 0 Z 5 [(0, .int b), (1, .int a)] [.int ((b >>> (a &&& 31)) &&& (nI 1))] mm
  refine pw_if_eq (tgt := 12) (off := 7) (by decide +kernel) (by decide) (fun h5 => ?_) (fun h5 => ?_)
  · refine pw_blk (pc' := 13) [.iconst 0] (by decide +kernel) ?_
    show pw_V x m_X7_has 0 Z 13 [(0, .int b), (1, .int a)] [.int (nI 0)] mm
    rw [← hZ]
    refine pw_rz (by decide +kernel) (Or.inl rfl) ?_
    refine ⟨?_, rfl⟩
    rw [show pw_hs b a = false from by unfold pw_hs; rw [decide_eq_true h5]; rfl]; rfl
  · refine pw_blk (pc' := 9) [.iconst 1] (by decide +kernel) ?_
    show pw_V x m_X7_has 0 Z 9 [(0, .int b), (1, .int a)] [.int (nI 1)] mm
    refine pw_goto (tgt := 13) (off := 4) (by decide +kernel) (by decide) ?_
    rw [← hZ]
    refine pw_rz (by decide +kernel) (Or.inr rfl) ?_
    refine ⟨?_, rfl⟩
    rw [show pw_hs b a = true from by unfold pw_hs; rw [decide_eq_false h5]; rfl]; rfl

set_option maxHeartbeats 4000000 in
set_option maxRecDepth 100000 in
theorem c_isSeat (s : Int32) (mm : pw_m) (hok : pw_ok mm) : pw_Ct 0 yX7_isSeat m_X7_isSeat [.ref 0, .int s] mm (fun r m' => r = some (.int (pw_b (pw_inr s (pw_n mm)))) ∧ m' = mm) := by
  refine pw_ct (by decide +kernel) rfl (Nat.le_of_ble_eq_true rfl) (fun x => ?_)
  generalize hZ : pw_Z x _ = Z
  show pw_V x m_X7_isSeat 0 Z 0 [(0, .ref 0), (1, .int s)] [] mm
  refine pw_blk (pc' := 1) [.iload 1] (by decide +kernel) ?_
  show pw_V x m_X7_isSeat 0 Z 1 [(0, .ref 0), (1, .int s)] [.int s] mm
  refine pw_if_lt (tgt := 19) (off := 18) (by decide +kernel) (by decide) (fun h1 => ?_) (fun h1 => ?_)
  · refine pw_blk (pc' := 20) [.iconst 0] (by decide +kernel) ?_
    show pw_V x m_X7_isSeat 0 Z 20 [(0, .ref 0), (1, .int s)] [.int (nI 0)] mm
    rw [← hZ]
    refine pw_rz (by decide +kernel) (Or.inl rfl) ?_
    refine ⟨?_, rfl⟩
    first | (rw [pw_inr_f1 h1]; rfl) | (rw [pw_inr_f2 h12]; rfl) | (rw [pw_inr_y h1 h12]; rfl)
  · refine pw_blk (pc' := 12) [.iload 1, .aload 0, .getfield 701, .getfield 500] (by decide +kernel) ?_
    show pw_V x m_X7_isSeat 0 Z 12 [(0, .ref 0), (1, .int s)] [.int (mm 4 0), .int s] mm
    rw [show mm 4 0 = nI (pw_n mm) from pw_q40 hok]
    refine pw_ic_ge (tgt := 19) (off := 7) (by decide +kernel) (by decide) (fun h12 => ?_) (fun h12 => ?_)
    · refine pw_blk (pc' := 20) [.iconst 0] (by decide +kernel) ?_
      show pw_V x m_X7_isSeat 0 Z 20 [(0, .ref 0), (1, .int s)] [.int (nI 0)] mm
      rw [← hZ]
      refine pw_rz (by decide +kernel) (Or.inl rfl) ?_
      refine ⟨?_, rfl⟩
      first | (rw [pw_inr_f1 h1]; rfl) | (rw [pw_inr_f2 h12]; rfl) | (rw [pw_inr_y h1 h12]; rfl)
    · refine pw_blk (pc' := 16) [.iconst 1] (by decide +kernel) ?_
      show pw_V x m_X7_isSeat 0 Z 16 [(0, .ref 0), (1, .int s)] [.int (nI 1)] mm
      refine pw_goto (tgt := 20) (off := 4) (by decide +kernel) (by decide) ?_
      rw [← hZ]
      refine pw_rz (by decide +kernel) (Or.inr rfl) ?_
      refine ⟨?_, rfl⟩
      first | (rw [pw_inr_f1 h1]; rfl) | (rw [pw_inr_f2 h12]; rfl) | (rw [pw_inr_y h1 h12]; rfl)

set_option maxHeartbeats 4000000 in
set_option maxRecDepth 100000 in
theorem c_isKnight (s : Int32) (mm : pw_m) (hok : pw_ok mm) : pw_Ct 0 yX7_isKnight m_X7_isKnight [.ref 0, .int s] mm (fun r m' => r = some (.int (pw_b (pw_inr s (pw_k mm)))) ∧ m' = mm) := by
  refine pw_ct (by decide +kernel) rfl (Nat.le_of_ble_eq_true rfl) (fun x => ?_)
  generalize hZ : pw_Z x _ = Z
  show pw_V x m_X7_isKnight 0 Z 0 [(0, .ref 0), (1, .int s)] [] mm
  refine pw_blk (pc' := 1) [.iload 1] (by decide +kernel) ?_
  show pw_V x m_X7_isKnight 0 Z 1 [(0, .ref 0), (1, .int s)] [.int s] mm
  refine pw_if_lt (tgt := 19) (off := 18) (by decide +kernel) (by decide) (fun h1 => ?_) (fun h1 => ?_)
  · refine pw_blk (pc' := 20) [.iconst 0] (by decide +kernel) ?_
    show pw_V x m_X7_isKnight 0 Z 20 [(0, .ref 0), (1, .int s)] [.int (nI 0)] mm
    rw [← hZ]
    refine pw_rz (by decide +kernel) (Or.inl rfl) ?_
    refine ⟨?_, rfl⟩
    first | (rw [pw_inr_f1 h1]; rfl) | (rw [pw_inr_f2 h12]; rfl) | (rw [pw_inr_y h1 h12]; rfl)
  · refine pw_blk (pc' := 12) [.iload 1, .aload 0, .getfield 701, .getfield 501] (by decide +kernel) ?_
    show pw_V x m_X7_isKnight 0 Z 12 [(0, .ref 0), (1, .int s)] [.int (mm 4 1), .int s] mm
    rw [show mm 4 1 = nI (pw_k mm) from pw_q41 hok]
    refine pw_ic_ge (tgt := 19) (off := 7) (by decide +kernel) (by decide) (fun h12 => ?_) (fun h12 => ?_)
    · refine pw_blk (pc' := 20) [.iconst 0] (by decide +kernel) ?_
      show pw_V x m_X7_isKnight 0 Z 20 [(0, .ref 0), (1, .int s)] [.int (nI 0)] mm
      rw [← hZ]
      refine pw_rz (by decide +kernel) (Or.inl rfl) ?_
      refine ⟨?_, rfl⟩
      first | (rw [pw_inr_f1 h1]; rfl) | (rw [pw_inr_f2 h12]; rfl) | (rw [pw_inr_y h1 h12]; rfl)
    · refine pw_blk (pc' := 16) [.iconst 1] (by decide +kernel) ?_
      show pw_V x m_X7_isKnight 0 Z 16 [(0, .ref 0), (1, .int s)] [.int (nI 1)] mm
      refine pw_goto (tgt := 20) (off := 4) (by decide +kernel) (by decide) ?_
      rw [← hZ]
      refine pw_rz (by decide +kernel) (Or.inr rfl) ?_
      refine ⟨?_, rfl⟩
      first | (rw [pw_inr_f1 h1]; rfl) | (rw [pw_inr_f2 h12]; rfl) | (rw [pw_inr_y h1 h12]; rfl)

set_option maxHeartbeats 4000000 in
set_option maxRecDepth 100000 in
theorem c_isNews (s : Int32) (mm : pw_m) : pw_Ct 0 yX7_isNews m_X7_isNews [.int s] mm (fun r m' => r = some (.int (pw_b (pw_inr s 4))) ∧ m' = mm) := by
  refine pw_ct (by decide +kernel) rfl (Nat.le_of_ble_eq_true rfl) (fun x => ?_)
  generalize hZ : pw_Z x _ = Z
  show pw_V x m_X7_isNews 0 Z 0 [(0, .int s)] [] mm
  refine pw_blk (pc' := 1) [.iload 0] (by decide +kernel) ?_
  show pw_V x m_X7_isNews 0 Z 1 [(0, .int s)] [.int s] mm
  refine pw_if_lt (tgt := 13) (off := 12) (by decide +kernel) (by decide) (fun h1 => ?_) (fun h1 => ?_)
  · refine pw_blk (pc' := 14) [.iconst 0] (by decide +kernel) ?_
    show pw_V x m_X7_isNews 0 Z 14 [(0, .int s)] [.int (nI 0)] mm
    rw [← hZ]
    refine pw_rz (by decide +kernel) (Or.inl rfl) ?_
    refine ⟨?_, rfl⟩
    first | (rw [pw_inr_f1 h1]; rfl) | (rw [pw_inr_f2 h6]; rfl) | (rw [pw_inr_y h1 h6]; rfl)
  · refine pw_blk (pc' := 6) [.iload 0, .iconst 4] (by decide +kernel) ?_
    show pw_V x m_X7_isNews 0 Z 6 [(0, .int s)] [.int (nI 4), .int s] mm
    refine pw_ic_ge (tgt := 13) (off := 7) (by decide +kernel) (by decide) (fun h6 => ?_) (fun h6 => ?_)
    · refine pw_blk (pc' := 14) [.iconst 0] (by decide +kernel) ?_
      show pw_V x m_X7_isNews 0 Z 14 [(0, .int s)] [.int (nI 0)] mm
      rw [← hZ]
      refine pw_rz (by decide +kernel) (Or.inl rfl) ?_
      refine ⟨?_, rfl⟩
      first | (rw [pw_inr_f1 h1]; rfl) | (rw [pw_inr_f2 h6]; rfl) | (rw [pw_inr_y h1 h6]; rfl)
    · refine pw_blk (pc' := 10) [.iconst 1] (by decide +kernel) ?_
      show pw_V x m_X7_isNews 0 Z 10 [(0, .int s)] [.int (nI 1)] mm
      refine pw_goto (tgt := 14) (off := 4) (by decide +kernel) (by decide) ?_
      rw [← hZ]
      refine pw_rz (by decide +kernel) (Or.inr rfl) ?_
      refine ⟨?_, rfl⟩
      first | (rw [pw_inr_f1 h1]; rfl) | (rw [pw_inr_f2 h6]; rfl) | (rw [pw_inr_y h1 h6]; rfl)

set_option maxHeartbeats 4000000 in
set_option maxRecDepth 100000 in
theorem c_behind (s n : Nat) (hs : s < n) (hn : n < 100) (mm : pw_m) : pw_Ct 0 yX7_behind m_X7_behind [.int (nI s), .int (nI n)] mm (fun r m' => r = some (.int (nI (pw_bh n s))) ∧ m' = mm) := by
  refine pw_ct (by decide +kernel) rfl (Nat.le_of_ble_eq_true rfl) (fun x => ?_)
  generalize hZ : pw_Z x _ = Z
  show pw_V x m_X7_behind 0 Z 0 [(0, .int (nI s)), (1, .int (nI n))] [] mm
  refine pw_blk (pc' := 4) [.iload 0, .iconst 1, .iadd, .iload 1] (by decide +kernel) ?_
  show pw_V x m_X7_behind 0 Z 4 [(0, .int (nI s)), (1, .int (nI n))] [.int (nI n), .int ((nI s) + (nI 1))] mm
  rw [show (nI s) + (nI 1) = nI (s + 1) from nI_add _ _]
  refine pw_in_ge (tgt := 13) (off := 9) (by omega) (by omega) (by decide +kernel) (by decide) (fun h4 => ?_) (fun h4 => ?_)
  · refine pw_blk (pc' := 14) [.iconst 0] (by decide +kernel) ?_
    show pw_V x m_X7_behind 0 Z 14 [(0, .int (nI s)), (1, .int (nI n))] [.int (nI 0)] mm
    rw [← hZ]
    refine pw_ri (by decide +kernel) ?_
    refine ⟨?_, rfl⟩
    unfold pw_bh
    rw [if_neg (by omega)]
  · refine pw_blk (pc' := 10) [.iload 0, .iconst 1, .iadd] (by decide +kernel) ?_
    show pw_V x m_X7_behind 0 Z 10 [(0, .int (nI s)), (1, .int (nI n))] [.int ((nI s) + (nI 1))] mm
    rw [show (nI s) + (nI 1) = nI (s + 1) from nI_add _ _]
    refine pw_goto (tgt := 14) (off := 4) (by decide +kernel) (by decide) ?_
    rw [← hZ]
    refine pw_ri (by decide +kernel) ?_
    refine ⟨?_, rfl⟩
    unfold pw_bh
    rw [if_pos (by omega)]

set_option maxHeartbeats 4000000 in
set_option maxRecDepth 100000 in
theorem c_ahead (s n : Nat) (hs : s < n) (hn : n < 100) (mm : pw_m) : pw_Ct 0 yX7_ahead m_X7_ahead [.int (nI s), .int (nI n)] mm (fun r m' => r = some (.int (nI (pw_ah n s))) ∧ m' = mm) := by
  refine pw_ct (by decide +kernel) rfl (Nat.le_of_ble_eq_true rfl) (fun x => ?_)
  generalize hZ : pw_Z x _ = Z
  show pw_V x m_X7_ahead 0 Z 0 [(0, .int (nI s)), (1, .int (nI n))] [] mm
  refine pw_blk (pc' := 1) [.iload 0] (by decide +kernel) ?_
  show pw_V x m_X7_ahead 0 Z 1 [(0, .int (nI s)), (1, .int (nI n))] [.int (nI s)] mm
  refine pw_iz_le (tgt := 10) (off := 9) (by omega) (by decide +kernel) (by decide) (fun h1 => ?_) (fun h1 => ?_)
  · refine pw_blk (pc' := 12) [.iload 1, .iconst 1] (by decide +kernel) ?_
    show pw_V x m_X7_ahead 0 Z 12 [(0, .int (nI s)), (1, .int (nI n))] [.int (nI 1), .int (nI n)] mm
    refine pw_blk (pc' := 13) [.isub] (by decide +kernel) ?_
    show pw_V x m_X7_ahead 0 Z 13 [(0, .int (nI s)), (1, .int (nI n))] [.int (nI n - nI 1)] mm
    rw [pk_sub (show 1 ≤ n by omega)]
    rw [← hZ]
    refine pw_ri (by decide +kernel) ?_
    refine ⟨?_, rfl⟩
    unfold pw_ah
    rw [if_neg (by omega)]
  · refine pw_blk (pc' := 6) [.iload 0, .iconst 1] (by decide +kernel) ?_
    show pw_V x m_X7_ahead 0 Z 6 [(0, .int (nI s)), (1, .int (nI n))] [.int (nI 1), .int (nI s)] mm
    refine pw_blk (pc' := 7) [.isub] (by decide +kernel) ?_
    show pw_V x m_X7_ahead 0 Z 7 [(0, .int (nI s)), (1, .int (nI n))] [.int (nI s - nI 1)] mm
    rw [pk_sub (show 1 ≤ s by omega)]
    refine pw_goto (tgt := 13) (off := 6) (by decide +kernel) (by decide) ?_
    rw [← hZ]
    refine pw_ri (by decide +kernel) ?_
    refine ⟨?_, rfl⟩
    unfold pw_ah
    rw [if_pos (by omega)]
