def pw_rcm (A X mm m' : pw_m) (s k e : Nat) : Prop := pw_rfm mm m' ∧ m' 26 21 = pw_b (pw_cz A s k e).2.isSome ∧ ((pw_cz A s k e).2 = none → m' 26 18 = nI (pw_tB A (pw_cz A s k e).1)) ∧ ∀ p, (pw_cz A s k e).2 = some p → TK A m' (pw_tE A (pw_cz A s k e).1) ∧ SD (G_o1 X p) m'
theorem pw_rcm_of {A X mm m1 m' : pw_m} {s k e w : Nat} (hw : pw_tW A e = some w) (hk : ¬ (pw_kw w = true ∧ 6 ≤ k)) (hF : pw_rfm mm m1) (h : pw_rp A X m1 m' (pw_rest A s k w (pw_tE A e))) : pw_rcm A X mm m' s k e := by
  obtain ⟨h1, h2, h3, h4⟩ := h
  obtain ⟨z1, z2, z3⟩ := pw_cz_rest (s := s) hw hk
  refine ⟨pw_rfm_t hF h3, by rw [z1]; exact h2, fun q => ?_, fun p q => ?_⟩
  · rw [z1] at q
    rw [z2 q]
    exact h1.2.1
  · rw [z1] at q
    rw [z3 (by rw [q]; exact fun z => by cases z)]
    exact ⟨h1, h4 p q⟩
theorem pw_rcm_no {A X mm m' : pw_m} {s k e : Nat} (hc : pw_cz A s k e = (e, none)) (hF : pw_rfm mm m') (h1 : m' 26 21 = nI 0) (h2 : m' 26 18 = nI (pw_tB A e)) : pw_rcm A X mm m' s k e := by
  unfold pw_rcm
  rw [hc]
  exact ⟨hF, h1, fun _ => h2, fun p z => by cases z⟩

set_option maxHeartbeats 4000000 in
set_option maxRecDepth 100000 in
theorem c_mrClause {A : pw_m} (mm : pw_m) (hx : MX A mm) (hok : pw_ok A) (X : pw_m) (hX : SD X mm) (s k : Nat) (hs : X 4 0 = nI s) (hk : X 4 1 = nI k) (hs8 : s ≤ 8) (hk6 : k ≤ 6) (e : Nat) (he2 : e ≤ pw_g A 2 1) (hT : TK A mm e) (hw1 : mm 26 21 = nI 1) : pw_Ct 5 yX8_readClause m_X8_readClause [.ref 26] mm (fun r m' => r = none ∧ pw_rcm A X mm m' s k e) := by
  refine pw_ct (by decide +kernel) rfl (Nat.le_of_ble_eq_true rfl) (fun x => ?_)
  generalize hZ : pw_Z x _ = Z
  have b21 := pw_b21 hok
  have z0 := pw_tb1 he2
  show pw_V x m_X8_readClause 5 Z 0 [(0, .ref 26)] [] mm
  refine pw_blk (pc' := 1) [.aload 0] (by decide +kernel) ?_
  show pw_V x m_X8_readClause 5 Z 1 [(0, .ref 26)] [.ref 26] mm
  refine pw_cV (vs := []) (rest := []) k_X8_wordOf (c_mword mm hx e he2 hT b21) l_8_153 rfl rfl rfl rfl (by omega) (Nat.le_of_ble_eq_true rfl) (by decide +kernel) ?_
  rintro _ m1 ⟨rfl, e1⟩
  rw [e1]
  clear e1 m1
  show pw_V x m_X8_readClause 5 Z 4 [(0, .ref 26)] [.int (nI (pw_wc (pw_tW A e)))] mm
  rcases htw : pw_tW A e with _ | w
  · skip
    rw [show pw_wc none = 0 from rfl]
    refine pw_blk (pc' := 6) [.istore 1, .iload 1] (by decide +kernel) ?_
    show pw_V x m_X8_readClause 5 Z 6 [(1, .int (nI 0)), (0, .ref 26)] [.int (nI 0)] mm
    refine pw_iz_eq (tgt := 29) (off := 23) (by omega) (by decide +kernel) (by decide) (fun _ => ?_) (fun h => by omega)
    refine pw_blk (pc' := 34) [.aload 0, .iconst 0, .putfield 821] (by decide +kernel) ?_
    refine ⟨Or.inl rfl, ?_⟩
    show pw_V x m_X8_readClause 5 Z 34 [(1, .int (nI 0)), (0, .ref 26)] [] (pw_up mm 26 21 (nI 0))
    rw [← hZ]
    refine pw_rv (by decide +kernel) ?_
    have hc : pw_cz A s k e = (e, none) := by unfold pw_cz; rw [htw]
    exact ⟨rfl, pw_rcm_no hc (pw_rfm_6 pw_rfm_r (by decide)) pw_up_gs ((pw_up_26 (by decide)).trans hT.2.1)⟩
  · have bw := pw_tW_b htw
    rcases pw_12 bw with ew | ew | ew | ew | ew | ew | ew | ew | ew | ew | ew | ew
    · subst ew
      rw [show pw_wc (some 0) = 1 from rfl]
      refine pw_blk (pc' := 6) [.istore 1, .iload 1] (by decide +kernel) ?_
      show pw_V x m_X8_readClause 5 Z 6 [(1, .int (nI 1)), (0, .ref 26)] [.int (nI 1)] mm
      refine pw_iz_eq (tgt := 29) (off := 23) (by omega) (by decide +kernel) (by decide) (fun h => by omega) (fun _ => ?_)
      refine pw_blk (pc' := 14) [.iload 1, .iconst (7), .iconst (9)] (by decide +kernel) ?_
      show pw_V x m_X8_readClause 5 Z 14 [(1, .int (nI 1)), (0, .ref 26)] [.int (nI 9), .int (nI 7), .int (nI 1)] mm
      refine pw_cS (vs := [.int (nI 1), .int (nI 7), .int (nI 9)]) (rest := []) k_X8_in (c_mIn (nI 1) (nI 7) (nI 9) mm) l_8_78 rfl (by omega) (Nat.le_of_ble_eq_true rfl) (by decide +kernel) ?_
      rintro _ m1 ⟨rfl, e1⟩
      rw [e1]
      clear e1 m1
      show pw_V x m_X8_readClause 5 Z 17 [(1, .int (nI 1)), (0, .ref 26)] [.int (pw_b (pw_in (nI 1) (nI 7) (nI 9)))] mm
      have i14 : pw_in (nI 1) (nI 7) (nI 9) = false := by decide
      refine pw_ib_eq (tgt := 35) (off := 18) (by decide +kernel) (by decide) (fun h17 => ?_) (fun h17 => ?_)
      · refine pw_blk (pc' := 36) [.aload 0] (by decide +kernel) ?_
        show pw_V x m_X8_readClause 5 Z 36 [(1, .int (nI 1)), (0, .ref 26)] [.ref 26] mm
        refine pw_cV (vs := []) (rest := []) k_X8_next (c_mnext (A := A) mm hx hok (pw_tE A e) hT.1 (by omega)) l_8_127 rfl rfl rfl rfl (by omega) (Nat.le_of_ble_eq_true rfl) (by decide +kernel) ?_
        rintro _ m1 ⟨rfl, e1⟩
        rw [e1]
        clear e1 m1
        show pw_V x m_X8_readClause 5 Z 39 [(1, .int (nI 1)), (0, .ref 26)] [] (pw_tok A mm (pw_tE A e))
        obtain ⟨m1, hm1⟩ : ∃ m, m = pw_tok A mm (pw_tE A e) := ⟨_, rfl⟩
        rw [← hm1]
        have T1 : TK A m1 (pw_tE A e) := by rw [hm1]; exact pw_tok_TK
        have W1 : m1 26 21 = nI 1 := by rw [hm1]; exact (pw_tok_6 (by omega)).trans hw1
        have X1 : MX A m1 := by rw [hm1]; exact MX.t hx
        have S1 : SD X m1 := by rw [hm1]; exact SD.t hX
        have F1 : pw_rfm mm m1 := by rw [hm1]; exact pw_rfm_k pw_rfm_r
        have w1 := pw_tb1 (A := A) (e := pw_tE A e) (by omega)
        clear hm1
        have hkn : ¬ (pw_kw 0 = true ∧ 6 ≤ k) := fun z => absurd z.1 (by decide)
        refine pw_blk (pc' := 41) [.iload 1, .iconst 1] (by decide +kernel) ?_
        show pw_V x m_X8_readClause 5 Z 41 [(1, .int (nI 1)), (0, .ref 26)] [.int (nI 1), .int (nI 1)] m1
        refine pw_in_ne (tgt := 51) (off := 10) (by omega) (by omega) (by decide +kernel) (by decide) (fun h => by omega) (fun _ => ?_)
        refine pw_blk (pc' := 45) [.aload 0] (by decide +kernel) ?_
        show pw_V x m_X8_readClause 5 Z 45 [(1, .int (nI 1)), (0, .ref 26)] [.ref 26] m1
        refine pw_cV (vs := []) (rest := []) k_X8_readTable (c_mrTable m1 X1 hok X S1 s k hs hk hs8 hk6 (pw_tE A e) (by omega) T1 W1) l_8_156 rfl rfl rfl rfl (by omega) (Nat.le_of_ble_eq_true rfl) (by decide +kernel) ?_
        rintro _ m2 ⟨rfl, hrp⟩
        show pw_V x m_X8_readClause 5 Z 48 [(1, .int (nI 1)), (0, .ref 26)] [] m2
        refine pw_goto (tgt := 171) (off := 123) (by decide +kernel) (by decide) ?_
        rw [← hZ]
        refine pw_rv (by decide +kernel) ?_
        exact ⟨rfl, pw_rcm_of htw hkn F1 hrp⟩
      · rw [i14] at h17; cases h17
    · subst ew
      rw [show pw_wc (some 1) = 3 from rfl]
      refine pw_blk (pc' := 6) [.istore 1, .iload 1] (by decide +kernel) ?_
      show pw_V x m_X8_readClause 5 Z 6 [(1, .int (nI 3)), (0, .ref 26)] [.int (nI 3)] mm
      refine pw_iz_eq (tgt := 29) (off := 23) (by omega) (by decide +kernel) (by decide) (fun h => by omega) (fun _ => ?_)
      refine pw_blk (pc' := 14) [.iload 1, .iconst (7), .iconst (9)] (by decide +kernel) ?_
      show pw_V x m_X8_readClause 5 Z 14 [(1, .int (nI 3)), (0, .ref 26)] [.int (nI 9), .int (nI 7), .int (nI 3)] mm
      refine pw_cS (vs := [.int (nI 3), .int (nI 7), .int (nI 9)]) (rest := []) k_X8_in (c_mIn (nI 3) (nI 7) (nI 9) mm) l_8_78 rfl (by omega) (Nat.le_of_ble_eq_true rfl) (by decide +kernel) ?_
      rintro _ m1 ⟨rfl, e1⟩
      rw [e1]
      clear e1 m1
      show pw_V x m_X8_readClause 5 Z 17 [(1, .int (nI 3)), (0, .ref 26)] [.int (pw_b (pw_in (nI 3) (nI 7) (nI 9)))] mm
      have i14 : pw_in (nI 3) (nI 7) (nI 9) = false := by decide
      refine pw_ib_eq (tgt := 35) (off := 18) (by decide +kernel) (by decide) (fun h17 => ?_) (fun h17 => ?_)
      · refine pw_blk (pc' := 36) [.aload 0] (by decide +kernel) ?_
        show pw_V x m_X8_readClause 5 Z 36 [(1, .int (nI 3)), (0, .ref 26)] [.ref 26] mm
        refine pw_cV (vs := []) (rest := []) k_X8_next (c_mnext (A := A) mm hx hok (pw_tE A e) hT.1 (by omega)) l_8_127 rfl rfl rfl rfl (by omega) (Nat.le_of_ble_eq_true rfl) (by decide +kernel) ?_
        rintro _ m1 ⟨rfl, e1⟩
        rw [e1]
        clear e1 m1
        show pw_V x m_X8_readClause 5 Z 39 [(1, .int (nI 3)), (0, .ref 26)] [] (pw_tok A mm (pw_tE A e))
        obtain ⟨m1, hm1⟩ : ∃ m, m = pw_tok A mm (pw_tE A e) := ⟨_, rfl⟩
        rw [← hm1]
        have T1 : TK A m1 (pw_tE A e) := by rw [hm1]; exact pw_tok_TK
        have W1 : m1 26 21 = nI 1 := by rw [hm1]; exact (pw_tok_6 (by omega)).trans hw1
        have X1 : MX A m1 := by rw [hm1]; exact MX.t hx
        have S1 : SD X m1 := by rw [hm1]; exact SD.t hX
        have F1 : pw_rfm mm m1 := by rw [hm1]; exact pw_rfm_k pw_rfm_r
        have w1 := pw_tb1 (A := A) (e := pw_tE A e) (by omega)
        clear hm1
        have hkn : ¬ (pw_kw 1 = true ∧ 6 ≤ k) := fun z => absurd z.1 (by decide)
        refine pw_blk (pc' := 41) [.iload 1, .iconst 1] (by decide +kernel) ?_
        show pw_V x m_X8_readClause 5 Z 41 [(1, .int (nI 3)), (0, .ref 26)] [.int (nI 1), .int (nI 3)] m1
        refine pw_in_ne (tgt := 51) (off := 10) (by omega) (by omega) (by decide +kernel) (by decide) (fun _ => ?_) (fun h => by omega)
        refine pw_blk (pc' := 54) [.iload 1, .iconst (6)] (by decide +kernel) ?_
        show pw_V x m_X8_readClause 5 Z 54 [(1, .int (nI 3)), (0, .ref 26)] [.int (nI 6), .int (nI 3)] m1
        refine pw_in_gt (tgt := 67) (off := 13) (by omega) (by omega) (by decide +kernel) (by decide) (fun h => by omega) (fun _ => ?_)
        refine pw_blk (pc' := 60) [.aload 0, .iload 1, .iconst 2] (by decide +kernel) ?_
        show pw_V x m_X8_readClause 5 Z 60 [(1, .int (nI 3)), (0, .ref 26)] [.int (nI 2), .int (nI 3), .ref 26] m1
        refine pw_blk (pc' := 61) [.isub] (by decide +kernel) ?_
        show pw_V x m_X8_readClause 5 Z 61 [(1, .int (nI 3)), (0, .ref 26)] [.int (nI 3 - nI 2), .ref 26] m1
        rw [pk_sub (show 2 ≤ 3 by omega)]
        refine pw_cV (vs := [.int (nI (3 - 2))]) (rest := []) k_X8_readName (c_mrName1 m1 X1 hok X S1 s k hs hk hs8 hk6 (pw_tE A e) (by omega) T1 W1) l_8_159 rfl rfl rfl rfl (by omega) (Nat.le_of_ble_eq_true rfl) (by decide +kernel) ?_
        rintro _ m2 ⟨rfl, hrp⟩
        show pw_V x m_X8_readClause 5 Z 64 [(1, .int (nI 3)), (0, .ref 26)] [] m2
        refine pw_goto (tgt := 171) (off := 107) (by decide +kernel) (by decide) ?_
        rw [← hZ]
        refine pw_rv (by decide +kernel) ?_
        exact ⟨rfl, pw_rcm_of htw hkn F1 hrp⟩
      · rw [i14] at h17; cases h17
    · subst ew
      rw [show pw_wc (some 2) = 4 from rfl]
      refine pw_blk (pc' := 6) [.istore 1, .iload 1] (by decide +kernel) ?_
      show pw_V x m_X8_readClause 5 Z 6 [(1, .int (nI 4)), (0, .ref 26)] [.int (nI 4)] mm
      refine pw_iz_eq (tgt := 29) (off := 23) (by omega) (by decide +kernel) (by decide) (fun h => by omega) (fun _ => ?_)
      refine pw_blk (pc' := 14) [.iload 1, .iconst (7), .iconst (9)] (by decide +kernel) ?_
      show pw_V x m_X8_readClause 5 Z 14 [(1, .int (nI 4)), (0, .ref 26)] [.int (nI 9), .int (nI 7), .int (nI 4)] mm
      refine pw_cS (vs := [.int (nI 4), .int (nI 7), .int (nI 9)]) (rest := []) k_X8_in (c_mIn (nI 4) (nI 7) (nI 9) mm) l_8_78 rfl (by omega) (Nat.le_of_ble_eq_true rfl) (by decide +kernel) ?_
      rintro _ m1 ⟨rfl, e1⟩
      rw [e1]
      clear e1 m1
      show pw_V x m_X8_readClause 5 Z 17 [(1, .int (nI 4)), (0, .ref 26)] [.int (pw_b (pw_in (nI 4) (nI 7) (nI 9)))] mm
      have i14 : pw_in (nI 4) (nI 7) (nI 9) = false := by decide
      refine pw_ib_eq (tgt := 35) (off := 18) (by decide +kernel) (by decide) (fun h17 => ?_) (fun h17 => ?_)
      · refine pw_blk (pc' := 36) [.aload 0] (by decide +kernel) ?_
        show pw_V x m_X8_readClause 5 Z 36 [(1, .int (nI 4)), (0, .ref 26)] [.ref 26] mm
        refine pw_cV (vs := []) (rest := []) k_X8_next (c_mnext (A := A) mm hx hok (pw_tE A e) hT.1 (by omega)) l_8_127 rfl rfl rfl rfl (by omega) (Nat.le_of_ble_eq_true rfl) (by decide +kernel) ?_
        rintro _ m1 ⟨rfl, e1⟩
        rw [e1]
        clear e1 m1
        show pw_V x m_X8_readClause 5 Z 39 [(1, .int (nI 4)), (0, .ref 26)] [] (pw_tok A mm (pw_tE A e))
        obtain ⟨m1, hm1⟩ : ∃ m, m = pw_tok A mm (pw_tE A e) := ⟨_, rfl⟩
        rw [← hm1]
        have T1 : TK A m1 (pw_tE A e) := by rw [hm1]; exact pw_tok_TK
        have W1 : m1 26 21 = nI 1 := by rw [hm1]; exact (pw_tok_6 (by omega)).trans hw1
        have X1 : MX A m1 := by rw [hm1]; exact MX.t hx
        have S1 : SD X m1 := by rw [hm1]; exact SD.t hX
        have F1 : pw_rfm mm m1 := by rw [hm1]; exact pw_rfm_k pw_rfm_r
        have w1 := pw_tb1 (A := A) (e := pw_tE A e) (by omega)
        clear hm1
        have hkn : ¬ (pw_kw 2 = true ∧ 6 ≤ k) := fun z => absurd z.1 (by decide)
        refine pw_blk (pc' := 41) [.iload 1, .iconst 1] (by decide +kernel) ?_
        show pw_V x m_X8_readClause 5 Z 41 [(1, .int (nI 4)), (0, .ref 26)] [.int (nI 1), .int (nI 4)] m1
        refine pw_in_ne (tgt := 51) (off := 10) (by omega) (by omega) (by decide +kernel) (by decide) (fun _ => ?_) (fun h => by omega)
        refine pw_blk (pc' := 54) [.iload 1, .iconst (6)] (by decide +kernel) ?_
        show pw_V x m_X8_readClause 5 Z 54 [(1, .int (nI 4)), (0, .ref 26)] [.int (nI 6), .int (nI 4)] m1
        refine pw_in_gt (tgt := 67) (off := 13) (by omega) (by omega) (by decide +kernel) (by decide) (fun h => by omega) (fun _ => ?_)
        refine pw_blk (pc' := 60) [.aload 0, .iload 1, .iconst 2] (by decide +kernel) ?_
        show pw_V x m_X8_readClause 5 Z 60 [(1, .int (nI 4)), (0, .ref 26)] [.int (nI 2), .int (nI 4), .ref 26] m1
        refine pw_blk (pc' := 61) [.isub] (by decide +kernel) ?_
        show pw_V x m_X8_readClause 5 Z 61 [(1, .int (nI 4)), (0, .ref 26)] [.int (nI 4 - nI 2), .ref 26] m1
        rw [pk_sub (show 2 ≤ 4 by omega)]
        refine pw_cV (vs := [.int (nI (4 - 2))]) (rest := []) k_X8_readName (c_mrName2 m1 X1 hok X S1 s k hs hk hs8 hk6 (pw_tE A e) (by omega) T1 W1) l_8_159 rfl rfl rfl rfl (by omega) (Nat.le_of_ble_eq_true rfl) (by decide +kernel) ?_
        rintro _ m2 ⟨rfl, hrp⟩
        show pw_V x m_X8_readClause 5 Z 64 [(1, .int (nI 4)), (0, .ref 26)] [] m2
        refine pw_goto (tgt := 171) (off := 107) (by decide +kernel) (by decide) ?_
        rw [← hZ]
        refine pw_rv (by decide +kernel) ?_
        exact ⟨rfl, pw_rcm_of htw hkn F1 hrp⟩
      · rw [i14] at h17; cases h17
    · subst ew
      rw [show pw_wc (some 3) = 5 from rfl]
      refine pw_blk (pc' := 6) [.istore 1, .iload 1] (by decide +kernel) ?_
      show pw_V x m_X8_readClause 5 Z 6 [(1, .int (nI 5)), (0, .ref 26)] [.int (nI 5)] mm
      refine pw_iz_eq (tgt := 29) (off := 23) (by omega) (by decide +kernel) (by decide) (fun h => by omega) (fun _ => ?_)
      refine pw_blk (pc' := 14) [.iload 1, .iconst (7), .iconst (9)] (by decide +kernel) ?_
      show pw_V x m_X8_readClause 5 Z 14 [(1, .int (nI 5)), (0, .ref 26)] [.int (nI 9), .int (nI 7), .int (nI 5)] mm
      refine pw_cS (vs := [.int (nI 5), .int (nI 7), .int (nI 9)]) (rest := []) k_X8_in (c_mIn (nI 5) (nI 7) (nI 9) mm) l_8_78 rfl (by omega) (Nat.le_of_ble_eq_true rfl) (by decide +kernel) ?_
      rintro _ m1 ⟨rfl, e1⟩
      rw [e1]
      clear e1 m1
      show pw_V x m_X8_readClause 5 Z 17 [(1, .int (nI 5)), (0, .ref 26)] [.int (pw_b (pw_in (nI 5) (nI 7) (nI 9)))] mm
      have i14 : pw_in (nI 5) (nI 7) (nI 9) = false := by decide
      refine pw_ib_eq (tgt := 35) (off := 18) (by decide +kernel) (by decide) (fun h17 => ?_) (fun h17 => ?_)
      · refine pw_blk (pc' := 36) [.aload 0] (by decide +kernel) ?_
        show pw_V x m_X8_readClause 5 Z 36 [(1, .int (nI 5)), (0, .ref 26)] [.ref 26] mm
        refine pw_cV (vs := []) (rest := []) k_X8_next (c_mnext (A := A) mm hx hok (pw_tE A e) hT.1 (by omega)) l_8_127 rfl rfl rfl rfl (by omega) (Nat.le_of_ble_eq_true rfl) (by decide +kernel) ?_
        rintro _ m1 ⟨rfl, e1⟩
        rw [e1]
        clear e1 m1
        show pw_V x m_X8_readClause 5 Z 39 [(1, .int (nI 5)), (0, .ref 26)] [] (pw_tok A mm (pw_tE A e))
        obtain ⟨m1, hm1⟩ : ∃ m, m = pw_tok A mm (pw_tE A e) := ⟨_, rfl⟩
        rw [← hm1]
        have T1 : TK A m1 (pw_tE A e) := by rw [hm1]; exact pw_tok_TK
        have W1 : m1 26 21 = nI 1 := by rw [hm1]; exact (pw_tok_6 (by omega)).trans hw1
        have X1 : MX A m1 := by rw [hm1]; exact MX.t hx
        have S1 : SD X m1 := by rw [hm1]; exact SD.t hX
        have F1 : pw_rfm mm m1 := by rw [hm1]; exact pw_rfm_k pw_rfm_r
        have w1 := pw_tb1 (A := A) (e := pw_tE A e) (by omega)
        clear hm1
        have hkn : ¬ (pw_kw 3 = true ∧ 6 ≤ k) := fun z => absurd z.1 (by decide)
        refine pw_blk (pc' := 41) [.iload 1, .iconst 1] (by decide +kernel) ?_
        show pw_V x m_X8_readClause 5 Z 41 [(1, .int (nI 5)), (0, .ref 26)] [.int (nI 1), .int (nI 5)] m1
        refine pw_in_ne (tgt := 51) (off := 10) (by omega) (by omega) (by decide +kernel) (by decide) (fun _ => ?_) (fun h => by omega)
        refine pw_blk (pc' := 54) [.iload 1, .iconst (6)] (by decide +kernel) ?_
        show pw_V x m_X8_readClause 5 Z 54 [(1, .int (nI 5)), (0, .ref 26)] [.int (nI 6), .int (nI 5)] m1
        refine pw_in_gt (tgt := 67) (off := 13) (by omega) (by omega) (by decide +kernel) (by decide) (fun h => by omega) (fun _ => ?_)
        refine pw_blk (pc' := 60) [.aload 0, .iload 1, .iconst 2] (by decide +kernel) ?_
        show pw_V x m_X8_readClause 5 Z 60 [(1, .int (nI 5)), (0, .ref 26)] [.int (nI 2), .int (nI 5), .ref 26] m1
        refine pw_blk (pc' := 61) [.isub] (by decide +kernel) ?_
        show pw_V x m_X8_readClause 5 Z 61 [(1, .int (nI 5)), (0, .ref 26)] [.int (nI 5 - nI 2), .ref 26] m1
        rw [pk_sub (show 2 ≤ 5 by omega)]
        refine pw_cV (vs := [.int (nI (5 - 2))]) (rest := []) k_X8_readName (c_mrName3 m1 X1 hok X S1 s k hs hk hs8 hk6 (pw_tE A e) (by omega) T1 W1) l_8_159 rfl rfl rfl rfl (by omega) (Nat.le_of_ble_eq_true rfl) (by decide +kernel) ?_
        rintro _ m2 ⟨rfl, hrp⟩
        show pw_V x m_X8_readClause 5 Z 64 [(1, .int (nI 5)), (0, .ref 26)] [] m2
        refine pw_goto (tgt := 171) (off := 107) (by decide +kernel) (by decide) ?_
        rw [← hZ]
        refine pw_rv (by decide +kernel) ?_
        exact ⟨rfl, pw_rcm_of htw hkn F1 hrp⟩
      · rw [i14] at h17; cases h17
    · subst ew
      rw [show pw_wc (some 4) = 6 from rfl]
      refine pw_blk (pc' := 6) [.istore 1, .iload 1] (by decide +kernel) ?_
      show pw_V x m_X8_readClause 5 Z 6 [(1, .int (nI 6)), (0, .ref 26)] [.int (nI 6)] mm
      refine pw_iz_eq (tgt := 29) (off := 23) (by omega) (by decide +kernel) (by decide) (fun h => by omega) (fun _ => ?_)
      refine pw_blk (pc' := 14) [.iload 1, .iconst (7), .iconst (9)] (by decide +kernel) ?_
      show pw_V x m_X8_readClause 5 Z 14 [(1, .int (nI 6)), (0, .ref 26)] [.int (nI 9), .int (nI 7), .int (nI 6)] mm
      refine pw_cS (vs := [.int (nI 6), .int (nI 7), .int (nI 9)]) (rest := []) k_X8_in (c_mIn (nI 6) (nI 7) (nI 9) mm) l_8_78 rfl (by omega) (Nat.le_of_ble_eq_true rfl) (by decide +kernel) ?_
      rintro _ m1 ⟨rfl, e1⟩
      rw [e1]
      clear e1 m1
      show pw_V x m_X8_readClause 5 Z 17 [(1, .int (nI 6)), (0, .ref 26)] [.int (pw_b (pw_in (nI 6) (nI 7) (nI 9)))] mm
      have i14 : pw_in (nI 6) (nI 7) (nI 9) = false := by decide
      refine pw_ib_eq (tgt := 35) (off := 18) (by decide +kernel) (by decide) (fun h17 => ?_) (fun h17 => ?_)
      · refine pw_blk (pc' := 36) [.aload 0] (by decide +kernel) ?_
        show pw_V x m_X8_readClause 5 Z 36 [(1, .int (nI 6)), (0, .ref 26)] [.ref 26] mm
        refine pw_cV (vs := []) (rest := []) k_X8_next (c_mnext (A := A) mm hx hok (pw_tE A e) hT.1 (by omega)) l_8_127 rfl rfl rfl rfl (by omega) (Nat.le_of_ble_eq_true rfl) (by decide +kernel) ?_
        rintro _ m1 ⟨rfl, e1⟩
        rw [e1]
        clear e1 m1
        show pw_V x m_X8_readClause 5 Z 39 [(1, .int (nI 6)), (0, .ref 26)] [] (pw_tok A mm (pw_tE A e))
        obtain ⟨m1, hm1⟩ : ∃ m, m = pw_tok A mm (pw_tE A e) := ⟨_, rfl⟩
        rw [← hm1]
        have T1 : TK A m1 (pw_tE A e) := by rw [hm1]; exact pw_tok_TK
        have W1 : m1 26 21 = nI 1 := by rw [hm1]; exact (pw_tok_6 (by omega)).trans hw1
        have X1 : MX A m1 := by rw [hm1]; exact MX.t hx
        have S1 : SD X m1 := by rw [hm1]; exact SD.t hX
        have F1 : pw_rfm mm m1 := by rw [hm1]; exact pw_rfm_k pw_rfm_r
        have w1 := pw_tb1 (A := A) (e := pw_tE A e) (by omega)
        clear hm1
        have hkn : ¬ (pw_kw 4 = true ∧ 6 ≤ k) := fun z => absurd z.1 (by decide)
        refine pw_blk (pc' := 41) [.iload 1, .iconst 1] (by decide +kernel) ?_
        show pw_V x m_X8_readClause 5 Z 41 [(1, .int (nI 6)), (0, .ref 26)] [.int (nI 1), .int (nI 6)] m1
        refine pw_in_ne (tgt := 51) (off := 10) (by omega) (by omega) (by decide +kernel) (by decide) (fun _ => ?_) (fun h => by omega)
        refine pw_blk (pc' := 54) [.iload 1, .iconst (6)] (by decide +kernel) ?_
        show pw_V x m_X8_readClause 5 Z 54 [(1, .int (nI 6)), (0, .ref 26)] [.int (nI 6), .int (nI 6)] m1
        refine pw_in_gt (tgt := 67) (off := 13) (by omega) (by omega) (by decide +kernel) (by decide) (fun h => by omega) (fun _ => ?_)
        refine pw_blk (pc' := 60) [.aload 0, .iload 1, .iconst 2] (by decide +kernel) ?_
        show pw_V x m_X8_readClause 5 Z 60 [(1, .int (nI 6)), (0, .ref 26)] [.int (nI 2), .int (nI 6), .ref 26] m1
        refine pw_blk (pc' := 61) [.isub] (by decide +kernel) ?_
        show pw_V x m_X8_readClause 5 Z 61 [(1, .int (nI 6)), (0, .ref 26)] [.int (nI 6 - nI 2), .ref 26] m1
        rw [pk_sub (show 2 ≤ 6 by omega)]
        refine pw_cV (vs := [.int (nI (6 - 2))]) (rest := []) k_X8_readName (c_mrName4 m1 X1 hok X S1 s k hs hk hs8 hk6 (pw_tE A e) (by omega) T1 W1) l_8_159 rfl rfl rfl rfl (by omega) (Nat.le_of_ble_eq_true rfl) (by decide +kernel) ?_
        rintro _ m2 ⟨rfl, hrp⟩
        show pw_V x m_X8_readClause 5 Z 64 [(1, .int (nI 6)), (0, .ref 26)] [] m2
        refine pw_goto (tgt := 171) (off := 107) (by decide +kernel) (by decide) ?_
        rw [← hZ]
        refine pw_rv (by decide +kernel) ?_
        exact ⟨rfl, pw_rcm_of htw hkn F1 hrp⟩
      · rw [i14] at h17; cases h17
    · subst ew
      rw [show pw_wc (some 5) = 7 from rfl]
      refine pw_blk (pc' := 6) [.istore 1, .iload 1] (by decide +kernel) ?_
      show pw_V x m_X8_readClause 5 Z 6 [(1, .int (nI 7)), (0, .ref 26)] [.int (nI 7)] mm
      refine pw_iz_eq (tgt := 29) (off := 23) (by omega) (by decide +kernel) (by decide) (fun h => by omega) (fun _ => ?_)
      refine pw_blk (pc' := 14) [.iload 1, .iconst (7), .iconst (9)] (by decide +kernel) ?_
      show pw_V x m_X8_readClause 5 Z 14 [(1, .int (nI 7)), (0, .ref 26)] [.int (nI 9), .int (nI 7), .int (nI 7)] mm
      refine pw_cS (vs := [.int (nI 7), .int (nI 7), .int (nI 9)]) (rest := []) k_X8_in (c_mIn (nI 7) (nI 7) (nI 9) mm) l_8_78 rfl (by omega) (Nat.le_of_ble_eq_true rfl) (by decide +kernel) ?_
      rintro _ m1 ⟨rfl, e1⟩
      rw [e1]
      clear e1 m1
      show pw_V x m_X8_readClause 5 Z 17 [(1, .int (nI 7)), (0, .ref 26)] [.int (pw_b (pw_in (nI 7) (nI 7) (nI 9)))] mm
      have i14 : pw_in (nI 7) (nI 7) (nI 9) = true := by decide
      refine pw_ib_eq (tgt := 35) (off := 18) (by decide +kernel) (by decide) (fun h17 => ?_) (fun h17 => ?_)
      · rw [i14] at h17; cases h17
      · refine pw_blk (pc' := 26) [.aload 0, .getfield 825, .iconst (6)] (by decide +kernel) ?_
        show pw_V x m_X8_readClause 5 Z 26 [(1, .int (nI 7)), (0, .ref 26)] [.int (nI 6), .int (mm 26 25)] mm
        rw [show mm 26 25 = nI k from (hX.1.2.trans hk)]
        refine pw_in_ne (tgt := 35) (off := 9) (by omega) (by omega) (by decide +kernel) (by decide) (fun h26 => ?_) (fun h26 => ?_)
        · refine pw_blk (pc' := 36) [.aload 0] (by decide +kernel) ?_
          show pw_V x m_X8_readClause 5 Z 36 [(1, .int (nI 7)), (0, .ref 26)] [.ref 26] mm
          refine pw_cV (vs := []) (rest := []) k_X8_next (c_mnext (A := A) mm hx hok (pw_tE A e) hT.1 (by omega)) l_8_127 rfl rfl rfl rfl (by omega) (Nat.le_of_ble_eq_true rfl) (by decide +kernel) ?_
          rintro _ m1 ⟨rfl, e1⟩
          rw [e1]
          clear e1 m1
          show pw_V x m_X8_readClause 5 Z 39 [(1, .int (nI 7)), (0, .ref 26)] [] (pw_tok A mm (pw_tE A e))
          obtain ⟨m1, hm1⟩ : ∃ m, m = pw_tok A mm (pw_tE A e) := ⟨_, rfl⟩
          rw [← hm1]
          have T1 : TK A m1 (pw_tE A e) := by rw [hm1]; exact pw_tok_TK
          have W1 : m1 26 21 = nI 1 := by rw [hm1]; exact (pw_tok_6 (by omega)).trans hw1
          have X1 : MX A m1 := by rw [hm1]; exact MX.t hx
          have S1 : SD X m1 := by rw [hm1]; exact SD.t hX
          have F1 : pw_rfm mm m1 := by rw [hm1]; exact pw_rfm_k pw_rfm_r
          have w1 := pw_tb1 (A := A) (e := pw_tE A e) (by omega)
          clear hm1
          have hkn : ¬ (pw_kw 5 = true ∧ 6 ≤ k) := fun z => absurd z.2 (by omega)
          refine pw_blk (pc' := 41) [.iload 1, .iconst 1] (by decide +kernel) ?_
          show pw_V x m_X8_readClause 5 Z 41 [(1, .int (nI 7)), (0, .ref 26)] [.int (nI 1), .int (nI 7)] m1
          refine pw_in_ne (tgt := 51) (off := 10) (by omega) (by omega) (by decide +kernel) (by decide) (fun _ => ?_) (fun h => by omega)
          refine pw_blk (pc' := 54) [.iload 1, .iconst (6)] (by decide +kernel) ?_
          show pw_V x m_X8_readClause 5 Z 54 [(1, .int (nI 7)), (0, .ref 26)] [.int (nI 6), .int (nI 7)] m1
          refine pw_in_gt (tgt := 67) (off := 13) (by omega) (by omega) (by decide +kernel) (by decide) (fun _ => ?_) (fun h => by omega)
          refine pw_blk (pc' := 70) [.iload 1, .iconst (9)] (by decide +kernel) ?_
          show pw_V x m_X8_readClause 5 Z 70 [(1, .int (nI 7)), (0, .ref 26)] [.int (nI 9), .int (nI 7)] m1
          refine pw_in_gt (tgt := 84) (off := 14) (by omega) (by omega) (by decide +kernel) (by decide) (fun h => by omega) (fun _ => ?_)
          refine pw_blk (pc' := 77) [.aload 0, .iload 1, .iconst (7)] (by decide +kernel) ?_
          show pw_V x m_X8_readClause 5 Z 77 [(1, .int (nI 7)), (0, .ref 26)] [.int (nI 7), .int (nI 7), .ref 26] m1
          refine pw_blk (pc' := 78) [.isub] (by decide +kernel) ?_
          show pw_V x m_X8_readClause 5 Z 78 [(1, .int (nI 7)), (0, .ref 26)] [.int (nI 7 - nI 7), .ref 26] m1
          rw [pk_sub (show 7 ≤ 7 by omega)]
          refine pw_cV (vs := [.int (nI (7 - 7))]) (rest := []) k_X8_readKnight (c_mrKnight0 m1 X1 hok X S1 s k hs hk hs8 hk6 (pw_tE A e) (by omega) T1 W1 (by omega)) l_8_162 rfl rfl rfl rfl (by omega) (Nat.le_of_ble_eq_true rfl) (by decide +kernel) ?_
          rintro _ m2 ⟨rfl, hrp⟩
          show pw_V x m_X8_readClause 5 Z 81 [(1, .int (nI 7)), (0, .ref 26)] [] m2
          refine pw_goto (tgt := 171) (off := 90) (by decide +kernel) (by decide) ?_
          rw [← hZ]
          refine pw_rv (by decide +kernel) ?_
          exact ⟨rfl, pw_rcm_of htw hkn F1 hrp⟩
        · refine pw_blk (pc' := 34) [.aload 0, .iconst 0, .putfield 821] (by decide +kernel) ?_
          refine ⟨Or.inl rfl, ?_⟩
          show pw_V x m_X8_readClause 5 Z 34 [(1, .int (nI 7)), (0, .ref 26)] [] (pw_up mm 26 21 (nI 0))
          rw [← hZ]
          refine pw_rv (by decide +kernel) ?_
          have hc : pw_cz A s k e = (e, none) := by unfold pw_cz; rw [htw]; dsimp only; rw [if_pos ⟨rfl, by omega⟩]
          exact ⟨rfl, pw_rcm_no hc (pw_rfm_6 pw_rfm_r (by decide)) pw_up_gs ((pw_up_26 (by decide)).trans hT.2.1)⟩
    · subst ew
      rw [show pw_wc (some 6) = 8 from rfl]
      refine pw_blk (pc' := 6) [.istore 1, .iload 1] (by decide +kernel) ?_
      show pw_V x m_X8_readClause 5 Z 6 [(1, .int (nI 8)), (0, .ref 26)] [.int (nI 8)] mm
      refine pw_iz_eq (tgt := 29) (off := 23) (by omega) (by decide +kernel) (by decide) (fun h => by omega) (fun _ => ?_)
      refine pw_blk (pc' := 14) [.iload 1, .iconst (7), .iconst (9)] (by decide +kernel) ?_
      show pw_V x m_X8_readClause 5 Z 14 [(1, .int (nI 8)), (0, .ref 26)] [.int (nI 9), .int (nI 7), .int (nI 8)] mm
      refine pw_cS (vs := [.int (nI 8), .int (nI 7), .int (nI 9)]) (rest := []) k_X8_in (c_mIn (nI 8) (nI 7) (nI 9) mm) l_8_78 rfl (by omega) (Nat.le_of_ble_eq_true rfl) (by decide +kernel) ?_
      rintro _ m1 ⟨rfl, e1⟩
      rw [e1]
      clear e1 m1
      show pw_V x m_X8_readClause 5 Z 17 [(1, .int (nI 8)), (0, .ref 26)] [.int (pw_b (pw_in (nI 8) (nI 7) (nI 9)))] mm
      have i14 : pw_in (nI 8) (nI 7) (nI 9) = true := by decide
      refine pw_ib_eq (tgt := 35) (off := 18) (by decide +kernel) (by decide) (fun h17 => ?_) (fun h17 => ?_)
      · rw [i14] at h17; cases h17
      · refine pw_blk (pc' := 26) [.aload 0, .getfield 825, .iconst (6)] (by decide +kernel) ?_
        show pw_V x m_X8_readClause 5 Z 26 [(1, .int (nI 8)), (0, .ref 26)] [.int (nI 6), .int (mm 26 25)] mm
        rw [show mm 26 25 = nI k from (hX.1.2.trans hk)]
        refine pw_in_ne (tgt := 35) (off := 9) (by omega) (by omega) (by decide +kernel) (by decide) (fun h26 => ?_) (fun h26 => ?_)
        · refine pw_blk (pc' := 36) [.aload 0] (by decide +kernel) ?_
          show pw_V x m_X8_readClause 5 Z 36 [(1, .int (nI 8)), (0, .ref 26)] [.ref 26] mm
          refine pw_cV (vs := []) (rest := []) k_X8_next (c_mnext (A := A) mm hx hok (pw_tE A e) hT.1 (by omega)) l_8_127 rfl rfl rfl rfl (by omega) (Nat.le_of_ble_eq_true rfl) (by decide +kernel) ?_
          rintro _ m1 ⟨rfl, e1⟩
          rw [e1]
          clear e1 m1
          show pw_V x m_X8_readClause 5 Z 39 [(1, .int (nI 8)), (0, .ref 26)] [] (pw_tok A mm (pw_tE A e))
          obtain ⟨m1, hm1⟩ : ∃ m, m = pw_tok A mm (pw_tE A e) := ⟨_, rfl⟩
          rw [← hm1]
          have T1 : TK A m1 (pw_tE A e) := by rw [hm1]; exact pw_tok_TK
          have W1 : m1 26 21 = nI 1 := by rw [hm1]; exact (pw_tok_6 (by omega)).trans hw1
          have X1 : MX A m1 := by rw [hm1]; exact MX.t hx
          have S1 : SD X m1 := by rw [hm1]; exact SD.t hX
          have F1 : pw_rfm mm m1 := by rw [hm1]; exact pw_rfm_k pw_rfm_r
          have w1 := pw_tb1 (A := A) (e := pw_tE A e) (by omega)
          clear hm1
          have hkn : ¬ (pw_kw 6 = true ∧ 6 ≤ k) := fun z => absurd z.2 (by omega)
          refine pw_blk (pc' := 41) [.iload 1, .iconst 1] (by decide +kernel) ?_
          show pw_V x m_X8_readClause 5 Z 41 [(1, .int (nI 8)), (0, .ref 26)] [.int (nI 1), .int (nI 8)] m1
          refine pw_in_ne (tgt := 51) (off := 10) (by omega) (by omega) (by decide +kernel) (by decide) (fun _ => ?_) (fun h => by omega)
          refine pw_blk (pc' := 54) [.iload 1, .iconst (6)] (by decide +kernel) ?_
          show pw_V x m_X8_readClause 5 Z 54 [(1, .int (nI 8)), (0, .ref 26)] [.int (nI 6), .int (nI 8)] m1
          refine pw_in_gt (tgt := 67) (off := 13) (by omega) (by omega) (by decide +kernel) (by decide) (fun _ => ?_) (fun h => by omega)
          refine pw_blk (pc' := 70) [.iload 1, .iconst (9)] (by decide +kernel) ?_
          show pw_V x m_X8_readClause 5 Z 70 [(1, .int (nI 8)), (0, .ref 26)] [.int (nI 9), .int (nI 8)] m1
          refine pw_in_gt (tgt := 84) (off := 14) (by omega) (by omega) (by decide +kernel) (by decide) (fun h => by omega) (fun _ => ?_)
          refine pw_blk (pc' := 77) [.aload 0, .iload 1, .iconst (7)] (by decide +kernel) ?_
          show pw_V x m_X8_readClause 5 Z 77 [(1, .int (nI 8)), (0, .ref 26)] [.int (nI 7), .int (nI 8), .ref 26] m1
          refine pw_blk (pc' := 78) [.isub] (by decide +kernel) ?_
          show pw_V x m_X8_readClause 5 Z 78 [(1, .int (nI 8)), (0, .ref 26)] [.int (nI 8 - nI 7), .ref 26] m1
          rw [pk_sub (show 7 ≤ 8 by omega)]
          refine pw_cV (vs := [.int (nI (8 - 7))]) (rest := []) k_X8_readKnight (c_mrKnight1 m1 X1 hok X S1 s k hs hk hs8 hk6 (pw_tE A e) (by omega) T1 W1 (by omega)) l_8_162 rfl rfl rfl rfl (by omega) (Nat.le_of_ble_eq_true rfl) (by decide +kernel) ?_
          rintro _ m2 ⟨rfl, hrp⟩
          show pw_V x m_X8_readClause 5 Z 81 [(1, .int (nI 8)), (0, .ref 26)] [] m2
          refine pw_goto (tgt := 171) (off := 90) (by decide +kernel) (by decide) ?_
          rw [← hZ]
          refine pw_rv (by decide +kernel) ?_
          exact ⟨rfl, pw_rcm_of htw hkn F1 hrp⟩
        · refine pw_blk (pc' := 34) [.aload 0, .iconst 0, .putfield 821] (by decide +kernel) ?_
          refine ⟨Or.inl rfl, ?_⟩
          show pw_V x m_X8_readClause 5 Z 34 [(1, .int (nI 8)), (0, .ref 26)] [] (pw_up mm 26 21 (nI 0))
          rw [← hZ]
          refine pw_rv (by decide +kernel) ?_
          have hc : pw_cz A s k e = (e, none) := by unfold pw_cz; rw [htw]; dsimp only; rw [if_pos ⟨rfl, by omega⟩]
          exact ⟨rfl, pw_rcm_no hc (pw_rfm_6 pw_rfm_r (by decide)) pw_up_gs ((pw_up_26 (by decide)).trans hT.2.1)⟩
    · subst ew
      rw [show pw_wc (some 7) = 9 from rfl]
      refine pw_blk (pc' := 6) [.istore 1, .iload 1] (by decide +kernel) ?_
      show pw_V x m_X8_readClause 5 Z 6 [(1, .int (nI 9)), (0, .ref 26)] [.int (nI 9)] mm
      refine pw_iz_eq (tgt := 29) (off := 23) (by omega) (by decide +kernel) (by decide) (fun h => by omega) (fun _ => ?_)
      refine pw_blk (pc' := 14) [.iload 1, .iconst (7), .iconst (9)] (by decide +kernel) ?_
      show pw_V x m_X8_readClause 5 Z 14 [(1, .int (nI 9)), (0, .ref 26)] [.int (nI 9), .int (nI 7), .int (nI 9)] mm
      refine pw_cS (vs := [.int (nI 9), .int (nI 7), .int (nI 9)]) (rest := []) k_X8_in (c_mIn (nI 9) (nI 7) (nI 9) mm) l_8_78 rfl (by omega) (Nat.le_of_ble_eq_true rfl) (by decide +kernel) ?_
      rintro _ m1 ⟨rfl, e1⟩
      rw [e1]
      clear e1 m1
      show pw_V x m_X8_readClause 5 Z 17 [(1, .int (nI 9)), (0, .ref 26)] [.int (pw_b (pw_in (nI 9) (nI 7) (nI 9)))] mm
      have i14 : pw_in (nI 9) (nI 7) (nI 9) = true := by decide
      refine pw_ib_eq (tgt := 35) (off := 18) (by decide +kernel) (by decide) (fun h17 => ?_) (fun h17 => ?_)
      · rw [i14] at h17; cases h17
      · refine pw_blk (pc' := 26) [.aload 0, .getfield 825, .iconst (6)] (by decide +kernel) ?_
        show pw_V x m_X8_readClause 5 Z 26 [(1, .int (nI 9)), (0, .ref 26)] [.int (nI 6), .int (mm 26 25)] mm
        rw [show mm 26 25 = nI k from (hX.1.2.trans hk)]
        refine pw_in_ne (tgt := 35) (off := 9) (by omega) (by omega) (by decide +kernel) (by decide) (fun h26 => ?_) (fun h26 => ?_)
        · refine pw_blk (pc' := 36) [.aload 0] (by decide +kernel) ?_
          show pw_V x m_X8_readClause 5 Z 36 [(1, .int (nI 9)), (0, .ref 26)] [.ref 26] mm
          refine pw_cV (vs := []) (rest := []) k_X8_next (c_mnext (A := A) mm hx hok (pw_tE A e) hT.1 (by omega)) l_8_127 rfl rfl rfl rfl (by omega) (Nat.le_of_ble_eq_true rfl) (by decide +kernel) ?_
          rintro _ m1 ⟨rfl, e1⟩
          rw [e1]
          clear e1 m1
          show pw_V x m_X8_readClause 5 Z 39 [(1, .int (nI 9)), (0, .ref 26)] [] (pw_tok A mm (pw_tE A e))
          obtain ⟨m1, hm1⟩ : ∃ m, m = pw_tok A mm (pw_tE A e) := ⟨_, rfl⟩
          rw [← hm1]
          have T1 : TK A m1 (pw_tE A e) := by rw [hm1]; exact pw_tok_TK
          have W1 : m1 26 21 = nI 1 := by rw [hm1]; exact (pw_tok_6 (by omega)).trans hw1
          have X1 : MX A m1 := by rw [hm1]; exact MX.t hx
          have S1 : SD X m1 := by rw [hm1]; exact SD.t hX
          have F1 : pw_rfm mm m1 := by rw [hm1]; exact pw_rfm_k pw_rfm_r
          have w1 := pw_tb1 (A := A) (e := pw_tE A e) (by omega)
          clear hm1
          have hkn : ¬ (pw_kw 7 = true ∧ 6 ≤ k) := fun z => absurd z.2 (by omega)
          refine pw_blk (pc' := 41) [.iload 1, .iconst 1] (by decide +kernel) ?_
          show pw_V x m_X8_readClause 5 Z 41 [(1, .int (nI 9)), (0, .ref 26)] [.int (nI 1), .int (nI 9)] m1
          refine pw_in_ne (tgt := 51) (off := 10) (by omega) (by omega) (by decide +kernel) (by decide) (fun _ => ?_) (fun h => by omega)
          refine pw_blk (pc' := 54) [.iload 1, .iconst (6)] (by decide +kernel) ?_
          show pw_V x m_X8_readClause 5 Z 54 [(1, .int (nI 9)), (0, .ref 26)] [.int (nI 6), .int (nI 9)] m1
          refine pw_in_gt (tgt := 67) (off := 13) (by omega) (by omega) (by decide +kernel) (by decide) (fun _ => ?_) (fun h => by omega)
          refine pw_blk (pc' := 70) [.iload 1, .iconst (9)] (by decide +kernel) ?_
          show pw_V x m_X8_readClause 5 Z 70 [(1, .int (nI 9)), (0, .ref 26)] [.int (nI 9), .int (nI 9)] m1
          refine pw_in_gt (tgt := 84) (off := 14) (by omega) (by omega) (by decide +kernel) (by decide) (fun h => by omega) (fun _ => ?_)
          refine pw_blk (pc' := 77) [.aload 0, .iload 1, .iconst (7)] (by decide +kernel) ?_
          show pw_V x m_X8_readClause 5 Z 77 [(1, .int (nI 9)), (0, .ref 26)] [.int (nI 7), .int (nI 9), .ref 26] m1
          refine pw_blk (pc' := 78) [.isub] (by decide +kernel) ?_
          show pw_V x m_X8_readClause 5 Z 78 [(1, .int (nI 9)), (0, .ref 26)] [.int (nI 9 - nI 7), .ref 26] m1
          rw [pk_sub (show 7 ≤ 9 by omega)]
          refine pw_cV (vs := [.int (nI (9 - 7))]) (rest := []) k_X8_readKnight (c_mrKnight2 m1 X1 hok X S1 s k hs hk hs8 hk6 (pw_tE A e) (by omega) T1 W1 (by omega)) l_8_162 rfl rfl rfl rfl (by omega) (Nat.le_of_ble_eq_true rfl) (by decide +kernel) ?_
          rintro _ m2 ⟨rfl, hrp⟩
          show pw_V x m_X8_readClause 5 Z 81 [(1, .int (nI 9)), (0, .ref 26)] [] m2
          refine pw_goto (tgt := 171) (off := 90) (by decide +kernel) (by decide) ?_
          rw [← hZ]
          refine pw_rv (by decide +kernel) ?_
          exact ⟨rfl, pw_rcm_of htw hkn F1 hrp⟩
        · refine pw_blk (pc' := 34) [.aload 0, .iconst 0, .putfield 821] (by decide +kernel) ?_
          refine ⟨Or.inl rfl, ?_⟩
          show pw_V x m_X8_readClause 5 Z 34 [(1, .int (nI 9)), (0, .ref 26)] [] (pw_up mm 26 21 (nI 0))
          rw [← hZ]
          refine pw_rv (by decide +kernel) ?_
          have hc : pw_cz A s k e = (e, none) := by unfold pw_cz; rw [htw]; dsimp only; rw [if_pos ⟨rfl, by omega⟩]
          exact ⟨rfl, pw_rcm_no hc (pw_rfm_6 pw_rfm_r (by decide)) pw_up_gs ((pw_up_26 (by decide)).trans hT.2.1)⟩
    · subst ew
      rw [show pw_wc (some 8) = 10 from rfl]
      refine pw_blk (pc' := 6) [.istore 1, .iload 1] (by decide +kernel) ?_
      show pw_V x m_X8_readClause 5 Z 6 [(1, .int (nI 10)), (0, .ref 26)] [.int (nI 10)] mm
      refine pw_iz_eq (tgt := 29) (off := 23) (by omega) (by decide +kernel) (by decide) (fun h => by omega) (fun _ => ?_)
      refine pw_blk (pc' := 14) [.iload 1, .iconst (7), .iconst (9)] (by decide +kernel) ?_
      show pw_V x m_X8_readClause 5 Z 14 [(1, .int (nI 10)), (0, .ref 26)] [.int (nI 9), .int (nI 7), .int (nI 10)] mm
      refine pw_cS (vs := [.int (nI 10), .int (nI 7), .int (nI 9)]) (rest := []) k_X8_in (c_mIn (nI 10) (nI 7) (nI 9) mm) l_8_78 rfl (by omega) (Nat.le_of_ble_eq_true rfl) (by decide +kernel) ?_
      rintro _ m1 ⟨rfl, e1⟩
      rw [e1]
      clear e1 m1
      show pw_V x m_X8_readClause 5 Z 17 [(1, .int (nI 10)), (0, .ref 26)] [.int (pw_b (pw_in (nI 10) (nI 7) (nI 9)))] mm
      have i14 : pw_in (nI 10) (nI 7) (nI 9) = false := by decide
      refine pw_ib_eq (tgt := 35) (off := 18) (by decide +kernel) (by decide) (fun h17 => ?_) (fun h17 => ?_)
      · refine pw_blk (pc' := 36) [.aload 0] (by decide +kernel) ?_
        show pw_V x m_X8_readClause 5 Z 36 [(1, .int (nI 10)), (0, .ref 26)] [.ref 26] mm
        refine pw_cV (vs := []) (rest := []) k_X8_next (c_mnext (A := A) mm hx hok (pw_tE A e) hT.1 (by omega)) l_8_127 rfl rfl rfl rfl (by omega) (Nat.le_of_ble_eq_true rfl) (by decide +kernel) ?_
        rintro _ m1 ⟨rfl, e1⟩
        rw [e1]
        clear e1 m1
        show pw_V x m_X8_readClause 5 Z 39 [(1, .int (nI 10)), (0, .ref 26)] [] (pw_tok A mm (pw_tE A e))
        obtain ⟨m1, hm1⟩ : ∃ m, m = pw_tok A mm (pw_tE A e) := ⟨_, rfl⟩
        rw [← hm1]
        have T1 : TK A m1 (pw_tE A e) := by rw [hm1]; exact pw_tok_TK
        have W1 : m1 26 21 = nI 1 := by rw [hm1]; exact (pw_tok_6 (by omega)).trans hw1
        have X1 : MX A m1 := by rw [hm1]; exact MX.t hx
        have S1 : SD X m1 := by rw [hm1]; exact SD.t hX
        have F1 : pw_rfm mm m1 := by rw [hm1]; exact pw_rfm_k pw_rfm_r
        have w1 := pw_tb1 (A := A) (e := pw_tE A e) (by omega)
        clear hm1
        have hkn : ¬ (pw_kw 8 = true ∧ 6 ≤ k) := fun z => absurd z.1 (by decide)
        refine pw_blk (pc' := 41) [.iload 1, .iconst 1] (by decide +kernel) ?_
        show pw_V x m_X8_readClause 5 Z 41 [(1, .int (nI 10)), (0, .ref 26)] [.int (nI 1), .int (nI 10)] m1
        refine pw_in_ne (tgt := 51) (off := 10) (by omega) (by omega) (by decide +kernel) (by decide) (fun _ => ?_) (fun h => by omega)
        refine pw_blk (pc' := 54) [.iload 1, .iconst (6)] (by decide +kernel) ?_
        show pw_V x m_X8_readClause 5 Z 54 [(1, .int (nI 10)), (0, .ref 26)] [.int (nI 6), .int (nI 10)] m1
        refine pw_in_gt (tgt := 67) (off := 13) (by omega) (by omega) (by decide +kernel) (by decide) (fun _ => ?_) (fun h => by omega)
        refine pw_blk (pc' := 70) [.iload 1, .iconst (9)] (by decide +kernel) ?_
        show pw_V x m_X8_readClause 5 Z 70 [(1, .int (nI 10)), (0, .ref 26)] [.int (nI 9), .int (nI 10)] m1
        refine pw_in_gt (tgt := 84) (off := 14) (by omega) (by omega) (by decide +kernel) (by decide) (fun _ => ?_) (fun h => by omega)
        refine pw_blk (pc' := 87) [.iload 1, .iconst (10)] (by decide +kernel) ?_
        show pw_V x m_X8_readClause 5 Z 87 [(1, .int (nI 10)), (0, .ref 26)] [.int (nI 10), .int (nI 10)] m1
        refine pw_in_ne (tgt := 97) (off := 10) (by omega) (by omega) (by decide +kernel) (by decide) (fun h => by omega) (fun _ => ?_)
        refine pw_blk (pc' := 91) [.aload 0] (by decide +kernel) ?_
        show pw_V x m_X8_readClause 5 Z 91 [(1, .int (nI 10)), (0, .ref 26)] [.ref 26] m1
        refine pw_cV (vs := []) (rest := []) k_X8_readEnemies (c_mrEnemies m1 X1 hok X S1 s k hs hk hs8 hk6 (pw_tE A e) (by omega) T1 W1) l_8_165 rfl rfl rfl rfl (by omega) (Nat.le_of_ble_eq_true rfl) (by decide +kernel) ?_
        rintro _ m2 ⟨rfl, hrp⟩
        show pw_V x m_X8_readClause 5 Z 94 [(1, .int (nI 10)), (0, .ref 26)] [] m2
        refine pw_goto (tgt := 171) (off := 77) (by decide +kernel) (by decide) ?_
        rw [← hZ]
        refine pw_rv (by decide +kernel) ?_
        exact ⟨rfl, pw_rcm_of htw hkn F1 hrp⟩
      · rw [i14] at h17; cases h17
    · subst ew
      rw [show pw_wc (some 9) = 11 from rfl]
      refine pw_blk (pc' := 6) [.istore 1, .iload 1] (by decide +kernel) ?_
      show pw_V x m_X8_readClause 5 Z 6 [(1, .int (nI 11)), (0, .ref 26)] [.int (nI 11)] mm
      refine pw_iz_eq (tgt := 29) (off := 23) (by omega) (by decide +kernel) (by decide) (fun h => by omega) (fun _ => ?_)
      refine pw_blk (pc' := 14) [.iload 1, .iconst (7), .iconst (9)] (by decide +kernel) ?_
      show pw_V x m_X8_readClause 5 Z 14 [(1, .int (nI 11)), (0, .ref 26)] [.int (nI 9), .int (nI 7), .int (nI 11)] mm
      refine pw_cS (vs := [.int (nI 11), .int (nI 7), .int (nI 9)]) (rest := []) k_X8_in (c_mIn (nI 11) (nI 7) (nI 9) mm) l_8_78 rfl (by omega) (Nat.le_of_ble_eq_true rfl) (by decide +kernel) ?_
      rintro _ m1 ⟨rfl, e1⟩
      rw [e1]
      clear e1 m1
      show pw_V x m_X8_readClause 5 Z 17 [(1, .int (nI 11)), (0, .ref 26)] [.int (pw_b (pw_in (nI 11) (nI 7) (nI 9)))] mm
      have i14 : pw_in (nI 11) (nI 7) (nI 9) = false := by decide
      refine pw_ib_eq (tgt := 35) (off := 18) (by decide +kernel) (by decide) (fun h17 => ?_) (fun h17 => ?_)
      · refine pw_blk (pc' := 36) [.aload 0] (by decide +kernel) ?_
        show pw_V x m_X8_readClause 5 Z 36 [(1, .int (nI 11)), (0, .ref 26)] [.ref 26] mm
        refine pw_cV (vs := []) (rest := []) k_X8_next (c_mnext (A := A) mm hx hok (pw_tE A e) hT.1 (by omega)) l_8_127 rfl rfl rfl rfl (by omega) (Nat.le_of_ble_eq_true rfl) (by decide +kernel) ?_
        rintro _ m1 ⟨rfl, e1⟩
        rw [e1]
        clear e1 m1
        show pw_V x m_X8_readClause 5 Z 39 [(1, .int (nI 11)), (0, .ref 26)] [] (pw_tok A mm (pw_tE A e))
        obtain ⟨m1, hm1⟩ : ∃ m, m = pw_tok A mm (pw_tE A e) := ⟨_, rfl⟩
        rw [← hm1]
        have T1 : TK A m1 (pw_tE A e) := by rw [hm1]; exact pw_tok_TK
        have W1 : m1 26 21 = nI 1 := by rw [hm1]; exact (pw_tok_6 (by omega)).trans hw1
        have X1 : MX A m1 := by rw [hm1]; exact MX.t hx
        have S1 : SD X m1 := by rw [hm1]; exact SD.t hX
        have F1 : pw_rfm mm m1 := by rw [hm1]; exact pw_rfm_k pw_rfm_r
        have w1 := pw_tb1 (A := A) (e := pw_tE A e) (by omega)
        clear hm1
        have hkn : ¬ (pw_kw 9 = true ∧ 6 ≤ k) := fun z => absurd z.1 (by decide)
        refine pw_blk (pc' := 41) [.iload 1, .iconst 1] (by decide +kernel) ?_
        show pw_V x m_X8_readClause 5 Z 41 [(1, .int (nI 11)), (0, .ref 26)] [.int (nI 1), .int (nI 11)] m1
        refine pw_in_ne (tgt := 51) (off := 10) (by omega) (by omega) (by decide +kernel) (by decide) (fun _ => ?_) (fun h => by omega)
        refine pw_blk (pc' := 54) [.iload 1, .iconst (6)] (by decide +kernel) ?_
        show pw_V x m_X8_readClause 5 Z 54 [(1, .int (nI 11)), (0, .ref 26)] [.int (nI 6), .int (nI 11)] m1
        refine pw_in_gt (tgt := 67) (off := 13) (by omega) (by omega) (by decide +kernel) (by decide) (fun _ => ?_) (fun h => by omega)
        refine pw_blk (pc' := 70) [.iload 1, .iconst (9)] (by decide +kernel) ?_
        show pw_V x m_X8_readClause 5 Z 70 [(1, .int (nI 11)), (0, .ref 26)] [.int (nI 9), .int (nI 11)] m1
        refine pw_in_gt (tgt := 84) (off := 14) (by omega) (by omega) (by decide +kernel) (by decide) (fun _ => ?_) (fun h => by omega)
        refine pw_blk (pc' := 87) [.iload 1, .iconst (10)] (by decide +kernel) ?_
        show pw_V x m_X8_readClause 5 Z 87 [(1, .int (nI 11)), (0, .ref 26)] [.int (nI 10), .int (nI 11)] m1
        refine pw_in_ne (tgt := 97) (off := 10) (by omega) (by omega) (by decide +kernel) (by decide) (fun _ => ?_) (fun h => by omega)
        refine pw_blk (pc' := 100) [.iload 1, .iconst (11)] (by decide +kernel) ?_
        show pw_V x m_X8_readClause 5 Z 100 [(1, .int (nI 11)), (0, .ref 26)] [.int (nI 11), .int (nI 11)] m1
        refine pw_in_ne (tgt := 110) (off := 10) (by omega) (by omega) (by decide +kernel) (by decide) (fun h => by omega) (fun _ => ?_)
        refine pw_blk (pc' := 104) [.aload 0] (by decide +kernel) ?_
        show pw_V x m_X8_readClause 5 Z 104 [(1, .int (nI 11)), (0, .ref 26)] [.ref 26] m1
        refine pw_cV (vs := []) (rest := []) k_X8_readPeril (c_mrPeril m1 X1 hok X S1 s k hs hk hs8 hk6 (pw_tE A e) (by omega) T1 W1) l_8_168 rfl rfl rfl rfl (by omega) (Nat.le_of_ble_eq_true rfl) (by decide +kernel) ?_
        rintro _ m2 ⟨rfl, hrp⟩
        show pw_V x m_X8_readClause 5 Z 107 [(1, .int (nI 11)), (0, .ref 26)] [] m2
        refine pw_goto (tgt := 171) (off := 64) (by decide +kernel) (by decide) ?_
        rw [← hZ]
        refine pw_rv (by decide +kernel) ?_
        exact ⟨rfl, pw_rcm_of htw hkn F1 hrp⟩
      · rw [i14] at h17; cases h17
    · subst ew
      rw [show pw_wc (some 10) = 12 from rfl]
      refine pw_blk (pc' := 6) [.istore 1, .iload 1] (by decide +kernel) ?_
      show pw_V x m_X8_readClause 5 Z 6 [(1, .int (nI 12)), (0, .ref 26)] [.int (nI 12)] mm
      refine pw_iz_eq (tgt := 29) (off := 23) (by omega) (by decide +kernel) (by decide) (fun h => by omega) (fun _ => ?_)
      refine pw_blk (pc' := 14) [.iload 1, .iconst (7), .iconst (9)] (by decide +kernel) ?_
      show pw_V x m_X8_readClause 5 Z 14 [(1, .int (nI 12)), (0, .ref 26)] [.int (nI 9), .int (nI 7), .int (nI 12)] mm
      refine pw_cS (vs := [.int (nI 12), .int (nI 7), .int (nI 9)]) (rest := []) k_X8_in (c_mIn (nI 12) (nI 7) (nI 9) mm) l_8_78 rfl (by omega) (Nat.le_of_ble_eq_true rfl) (by decide +kernel) ?_
      rintro _ m1 ⟨rfl, e1⟩
      rw [e1]
      clear e1 m1
      show pw_V x m_X8_readClause 5 Z 17 [(1, .int (nI 12)), (0, .ref 26)] [.int (pw_b (pw_in (nI 12) (nI 7) (nI 9)))] mm
      have i14 : pw_in (nI 12) (nI 7) (nI 9) = false := by decide
      refine pw_ib_eq (tgt := 35) (off := 18) (by decide +kernel) (by decide) (fun h17 => ?_) (fun h17 => ?_)
      · refine pw_blk (pc' := 36) [.aload 0] (by decide +kernel) ?_
        show pw_V x m_X8_readClause 5 Z 36 [(1, .int (nI 12)), (0, .ref 26)] [.ref 26] mm
        refine pw_cV (vs := []) (rest := []) k_X8_next (c_mnext (A := A) mm hx hok (pw_tE A e) hT.1 (by omega)) l_8_127 rfl rfl rfl rfl (by omega) (Nat.le_of_ble_eq_true rfl) (by decide +kernel) ?_
        rintro _ m1 ⟨rfl, e1⟩
        rw [e1]
        clear e1 m1
        show pw_V x m_X8_readClause 5 Z 39 [(1, .int (nI 12)), (0, .ref 26)] [] (pw_tok A mm (pw_tE A e))
        obtain ⟨m1, hm1⟩ : ∃ m, m = pw_tok A mm (pw_tE A e) := ⟨_, rfl⟩
        rw [← hm1]
        have T1 : TK A m1 (pw_tE A e) := by rw [hm1]; exact pw_tok_TK
        have W1 : m1 26 21 = nI 1 := by rw [hm1]; exact (pw_tok_6 (by omega)).trans hw1
        have X1 : MX A m1 := by rw [hm1]; exact MX.t hx
        have S1 : SD X m1 := by rw [hm1]; exact SD.t hX
        have F1 : pw_rfm mm m1 := by rw [hm1]; exact pw_rfm_k pw_rfm_r
        have w1 := pw_tb1 (A := A) (e := pw_tE A e) (by omega)
        clear hm1
        have hkn : ¬ (pw_kw 10 = true ∧ 6 ≤ k) := fun z => absurd z.1 (by decide)
        refine pw_blk (pc' := 41) [.iload 1, .iconst 1] (by decide +kernel) ?_
        show pw_V x m_X8_readClause 5 Z 41 [(1, .int (nI 12)), (0, .ref 26)] [.int (nI 1), .int (nI 12)] m1
        refine pw_in_ne (tgt := 51) (off := 10) (by omega) (by omega) (by decide +kernel) (by decide) (fun _ => ?_) (fun h => by omega)
        refine pw_blk (pc' := 54) [.iload 1, .iconst (6)] (by decide +kernel) ?_
        show pw_V x m_X8_readClause 5 Z 54 [(1, .int (nI 12)), (0, .ref 26)] [.int (nI 6), .int (nI 12)] m1
        refine pw_in_gt (tgt := 67) (off := 13) (by omega) (by omega) (by decide +kernel) (by decide) (fun _ => ?_) (fun h => by omega)
        refine pw_blk (pc' := 70) [.iload 1, .iconst (9)] (by decide +kernel) ?_
        show pw_V x m_X8_readClause 5 Z 70 [(1, .int (nI 12)), (0, .ref 26)] [.int (nI 9), .int (nI 12)] m1
        refine pw_in_gt (tgt := 84) (off := 14) (by omega) (by omega) (by decide +kernel) (by decide) (fun _ => ?_) (fun h => by omega)
        refine pw_blk (pc' := 87) [.iload 1, .iconst (10)] (by decide +kernel) ?_
        show pw_V x m_X8_readClause 5 Z 87 [(1, .int (nI 12)), (0, .ref 26)] [.int (nI 10), .int (nI 12)] m1
        refine pw_in_ne (tgt := 97) (off := 10) (by omega) (by omega) (by decide +kernel) (by decide) (fun _ => ?_) (fun h => by omega)
        refine pw_blk (pc' := 100) [.iload 1, .iconst (11)] (by decide +kernel) ?_
        show pw_V x m_X8_readClause 5 Z 100 [(1, .int (nI 12)), (0, .ref 26)] [.int (nI 11), .int (nI 12)] m1
        refine pw_in_ne (tgt := 110) (off := 10) (by omega) (by omega) (by decide +kernel) (by decide) (fun _ => ?_) (fun h => by omega)
        refine pw_blk (pc' := 113) [.iload 1, .iconst (12)] (by decide +kernel) ?_
        show pw_V x m_X8_readClause 5 Z 113 [(1, .int (nI 12)), (0, .ref 26)] [.int (nI 12), .int (nI 12)] m1
        refine pw_in_ne (tgt := 150) (off := 37) (by omega) (by omega) (by decide +kernel) (by decide) (fun h => by omega) (fun _ => ?_)
        refine pw_blk (pc' := 124) [.aload 0, .iconst 0, .aload 0, .getfield 825, .iconst 1, .isub] (by decide +kernel) ?_
        show pw_V x m_X8_readClause 5 Z 124 [(1, .int (nI 12)), (0, .ref 26)] [.int ((m1 26 25) - (nI 1)), .int (nI 0), .ref 26] m1
        rw [show m1 26 25 = nI k from (S1.1.2.trans hk)]
        refine pw_cV (vs := [.int (nI 0), .int ((nI k) - (nI 1))]) (rest := []) k_X8_number (c_mnumb (A := A) m1 X1 (pw_tE A e) (by omega) T1 b21 hok true W1 0 k ((nI k) - (nI 1)) rfl (by omega) (by omega)) l_8_145 rfl rfl rfl rfl (by omega) (Nat.le_of_ble_eq_true rfl) (by decide +kernel) ?_
        rintro _ m1 ⟨rfl, e1⟩
        rw [e1]
        clear e1 m1
        show pw_V x m_X8_readClause 5 Z 127 [(1, .int (nI 12)), (0, .ref 26)] [.int (pw_nuR A (pw_tE A e) 0 k true)] (pw_nuM A m1 (pw_tE A e) 0 k true)
        by_cases c124 : pw_rgb 0 k (pw_tN A (pw_tE A e)) = true
        · obtain ⟨y124, ey124, ya124, yb124⟩ := pw_rgb_t c124 (by omega) (by omega)
          rw [show pw_nuR A (pw_tE A e) 0 k true = nI y124 from by unfold pw_nuR pw_nuC; rw [c124, ← ey124]; rfl, show pw_nuM A m1 (pw_tE A e) 0 k true = pw_tok A (pw_up m1 26 21 (nI 1)) (pw_tE A (pw_tE A e)) from by unfold pw_nuM pw_nuC; rw [c124]; rfl]
          have w124 := pw_tb1 (A := A) (e := pw_tE A (pw_tE A e)) (by omega)
          obtain ⟨m124, hm124⟩ : ∃ m, m = pw_tok A (pw_up m1 26 21 (nI 1)) (pw_tE A (pw_tE A e)) := ⟨_, rfl⟩
          rw [← hm124]
          have T124 : TK A m124 (pw_tE A (pw_tE A e)) := by rw [hm124]; exact pw_tok_TK
          have W124 : m124 26 21 = nI 1 := by rw [hm124]; exact (pw_tok_6 (by omega)).trans pw_up_gs
          have X124 : MX A m124 := by rw [hm124]; exact MX.t (MX.u X1 (by decide))
          have S124 : SD X m124 := by rw [hm124]; exact SD.t (SD.w S1)
          have F124 : pw_rfm mm m124 := by rw [hm124]; exact pw_rfm_k (pw_rfm_6 F1 (by decide))
          clear hm124
          show pw_V x m_X8_readClause 5 Z 127 [(1, .int (nI 12)), (0, .ref 26)] [.int (nI y124)] m124
          refine pw_blk (pc' := 133) [.istore 2, .aload 0, .aload 0, .getfield 821] (by decide +kernel) ?_
          show pw_V x m_X8_readClause 5 Z 133 [(2, .int (nI y124)), (1, .int (nI 12)), (0, .ref 26)] [.int (m124 26 21), .ref 26] m124
          rw [show m124 26 21 = nI 1 from W124]
          refine pw_iz_eq (tgt := 140) (off := 7) (by omega) (by decide +kernel) (by decide) (fun h => by omega) (fun _ => ?_)
          refine pw_blk (pc' := 137) [.iload 2] (by decide +kernel) ?_
          show pw_V x m_X8_readClause 5 Z 137 [(2, .int (nI y124)), (1, .int (nI 12)), (0, .ref 26)] [.int (nI y124), .ref 26] m124
          refine pw_goto (tgt := 144) (off := 7) (by decide +kernel) (by decide) ?_
          refine pw_blk (pc' := 147) [.putfield 830] (by decide +kernel) ?_
          show pw_V x m_X8_readClause 5 Z 147 [(2, .int (nI y124)), (1, .int (nI 12)), (0, .ref 26)] [] (pw_up m124 26 30 (nI y124))
          refine pw_goto (tgt := 171) (off := 24) (by decide +kernel) (by decide) ?_
          rw [← hZ]
          refine pw_rv (by decide +kernel) ?_
          have hr : pw_rest A s k 10 (pw_tE A e) = (some (10, y124, 0), (pw_tE A (pw_tE A e))) := by
            unfold pw_rest
            rw [if_neg (show ¬ pw_nb 10 < 1 by decide), if_pos (show pw_rgb (pw_le_ 10) (pw_mf s k 10) (pw_tN A (pw_tE A e)) = true from c124), if_pos (show pw_nb 10 < 2 by decide), ey124, pw_c_nI (show y124 < 2 ^ 31 by omega)]
          exact ⟨rfl, pw_rcm_of htw hkn pw_rfm_r (pw_rp_ok hr (TK.v T124 (by omega)) ((pw_up_26 (by decide)).trans W124) (pw_rfm_6 F124 (by decide)) (show SD (G_o1 X (10, y124, 0)) _ from SD.mt S124))⟩
        · rw [show pw_nuR A (pw_tE A e) 0 k true = nI 0 from by unfold pw_nuR pw_nuC; rw [Bool.true_and, if_neg c124], show pw_nuM A m1 (pw_tE A e) 0 k true = pw_up m1 26 21 (nI 0) from by unfold pw_nuM pw_nuC; rw [Bool.true_and, if_neg c124]]
          obtain ⟨m124, hm124⟩ : ∃ m, m = pw_up m1 26 21 (nI 0) := ⟨_, rfl⟩
          rw [← hm124]
          have T124 : TK A m124 (pw_tE A e) := by rw [hm124]; exact (TK.u T1)
          have W124 : m124 26 21 = nI 0 := by rw [hm124]; exact pw_up_gs
          have X124 : MX A m124 := by rw [hm124]; exact MX.u X1 (by decide)
          have S124 : SD X m124 := by rw [hm124]; exact SD.w S1
          have F124 : pw_rfm mm m124 := by rw [hm124]; exact pw_rfm_6 F1 (by decide)
          clear hm124
          show pw_V x m_X8_readClause 5 Z 127 [(1, .int (nI 12)), (0, .ref 26)] [.int (nI 0)] m124
          refine pw_blk (pc' := 133) [.istore 2, .aload 0, .aload 0, .getfield 821] (by decide +kernel) ?_
          show pw_V x m_X8_readClause 5 Z 133 [(2, .int (nI 0)), (1, .int (nI 12)), (0, .ref 26)] [.int (m124 26 21), .ref 26] m124
          rw [show m124 26 21 = nI 0 from W124]
          refine pw_iz_eq (tgt := 140) (off := 7) (by omega) (by decide +kernel) (by decide) (fun _ => ?_) (fun h => by omega)
          refine pw_blk (pc' := 147) [.aload 0, .getfield 830, .putfield 830] (by decide +kernel) ?_
          show pw_V x m_X8_readClause 5 Z 147 [(2, .int (nI 0)), (1, .int (nI 12)), (0, .ref 26)] [] (pw_up m124 26 30 (m124 26 30))
          refine pw_goto (tgt := 171) (off := 24) (by decide +kernel) (by decide) ?_
          rw [← hZ]
          refine pw_rv (by decide +kernel) ?_
          have hr : pw_rest A s k 10 (pw_tE A e) = (none, pw_tE A e) := by
            unfold pw_rest
            rw [if_neg (show ¬ pw_nb 10 < 1 by decide), if_neg (show ¬ pw_rgb (pw_le_ 10) (pw_mf s k 10) (pw_tN A (pw_tE A e)) = true from c124)]
          exact ⟨rfl, pw_rcm_of htw hkn pw_rfm_r (pw_rp_no hr (TK.v T124 (by omega)) ((pw_up_26 (by decide)).trans W124) (pw_rfm_6 F124 (by decide)))⟩
      · rw [i14] at h17; cases h17
    · subst ew
      rw [show pw_wc (some 11) = 13 from rfl]
      refine pw_blk (pc' := 6) [.istore 1, .iload 1] (by decide +kernel) ?_
      show pw_V x m_X8_readClause 5 Z 6 [(1, .int (nI 13)), (0, .ref 26)] [.int (nI 13)] mm
      refine pw_iz_eq (tgt := 29) (off := 23) (by omega) (by decide +kernel) (by decide) (fun h => by omega) (fun _ => ?_)
      refine pw_blk (pc' := 14) [.iload 1, .iconst (7), .iconst (9)] (by decide +kernel) ?_
      show pw_V x m_X8_readClause 5 Z 14 [(1, .int (nI 13)), (0, .ref 26)] [.int (nI 9), .int (nI 7), .int (nI 13)] mm
      refine pw_cS (vs := [.int (nI 13), .int (nI 7), .int (nI 9)]) (rest := []) k_X8_in (c_mIn (nI 13) (nI 7) (nI 9) mm) l_8_78 rfl (by omega) (Nat.le_of_ble_eq_true rfl) (by decide +kernel) ?_
      rintro _ m1 ⟨rfl, e1⟩
      rw [e1]
      clear e1 m1
      show pw_V x m_X8_readClause 5 Z 17 [(1, .int (nI 13)), (0, .ref 26)] [.int (pw_b (pw_in (nI 13) (nI 7) (nI 9)))] mm
      have i14 : pw_in (nI 13) (nI 7) (nI 9) = false := by decide
      refine pw_ib_eq (tgt := 35) (off := 18) (by decide +kernel) (by decide) (fun h17 => ?_) (fun h17 => ?_)
      · refine pw_blk (pc' := 36) [.aload 0] (by decide +kernel) ?_
        show pw_V x m_X8_readClause 5 Z 36 [(1, .int (nI 13)), (0, .ref 26)] [.ref 26] mm
        refine pw_cV (vs := []) (rest := []) k_X8_next (c_mnext (A := A) mm hx hok (pw_tE A e) hT.1 (by omega)) l_8_127 rfl rfl rfl rfl (by omega) (Nat.le_of_ble_eq_true rfl) (by decide +kernel) ?_
        rintro _ m1 ⟨rfl, e1⟩
        rw [e1]
        clear e1 m1
        show pw_V x m_X8_readClause 5 Z 39 [(1, .int (nI 13)), (0, .ref 26)] [] (pw_tok A mm (pw_tE A e))
        obtain ⟨m1, hm1⟩ : ∃ m, m = pw_tok A mm (pw_tE A e) := ⟨_, rfl⟩
        rw [← hm1]
        have T1 : TK A m1 (pw_tE A e) := by rw [hm1]; exact pw_tok_TK
        have W1 : m1 26 21 = nI 1 := by rw [hm1]; exact (pw_tok_6 (by omega)).trans hw1
        have X1 : MX A m1 := by rw [hm1]; exact MX.t hx
        have S1 : SD X m1 := by rw [hm1]; exact SD.t hX
        have F1 : pw_rfm mm m1 := by rw [hm1]; exact pw_rfm_k pw_rfm_r
        have w1 := pw_tb1 (A := A) (e := pw_tE A e) (by omega)
        clear hm1
        have hkn : ¬ (pw_kw 11 = true ∧ 6 ≤ k) := fun z => absurd z.1 (by decide)
        refine pw_blk (pc' := 41) [.iload 1, .iconst 1] (by decide +kernel) ?_
        show pw_V x m_X8_readClause 5 Z 41 [(1, .int (nI 13)), (0, .ref 26)] [.int (nI 1), .int (nI 13)] m1
        refine pw_in_ne (tgt := 51) (off := 10) (by omega) (by omega) (by decide +kernel) (by decide) (fun _ => ?_) (fun h => by omega)
        refine pw_blk (pc' := 54) [.iload 1, .iconst (6)] (by decide +kernel) ?_
        show pw_V x m_X8_readClause 5 Z 54 [(1, .int (nI 13)), (0, .ref 26)] [.int (nI 6), .int (nI 13)] m1
        refine pw_in_gt (tgt := 67) (off := 13) (by omega) (by omega) (by decide +kernel) (by decide) (fun _ => ?_) (fun h => by omega)
        refine pw_blk (pc' := 70) [.iload 1, .iconst (9)] (by decide +kernel) ?_
        show pw_V x m_X8_readClause 5 Z 70 [(1, .int (nI 13)), (0, .ref 26)] [.int (nI 9), .int (nI 13)] m1
        refine pw_in_gt (tgt := 84) (off := 14) (by omega) (by omega) (by decide +kernel) (by decide) (fun _ => ?_) (fun h => by omega)
        refine pw_blk (pc' := 87) [.iload 1, .iconst (10)] (by decide +kernel) ?_
        show pw_V x m_X8_readClause 5 Z 87 [(1, .int (nI 13)), (0, .ref 26)] [.int (nI 10), .int (nI 13)] m1
        refine pw_in_ne (tgt := 97) (off := 10) (by omega) (by omega) (by decide +kernel) (by decide) (fun _ => ?_) (fun h => by omega)
        refine pw_blk (pc' := 100) [.iload 1, .iconst (11)] (by decide +kernel) ?_
        show pw_V x m_X8_readClause 5 Z 100 [(1, .int (nI 13)), (0, .ref 26)] [.int (nI 11), .int (nI 13)] m1
        refine pw_in_ne (tgt := 110) (off := 10) (by omega) (by omega) (by decide +kernel) (by decide) (fun _ => ?_) (fun h => by omega)
        refine pw_blk (pc' := 113) [.iload 1, .iconst (12)] (by decide +kernel) ?_
        show pw_V x m_X8_readClause 5 Z 113 [(1, .int (nI 13)), (0, .ref 26)] [.int (nI 12), .int (nI 13)] m1
        refine pw_in_ne (tgt := 150) (off := 37) (by omega) (by omega) (by decide +kernel) (by decide) (fun _ => ?_) (fun h => by omega)
        refine pw_blk (pc' := 152) [.iconst 0, .istore 2] (by decide +kernel) ?_
        show pw_V x m_X8_readClause 5 Z 152 [(2, .int (nI 0)), (1, .int (nI 13)), (0, .ref 26)] [] m1
        refine pw_lvp [2, 0] rfl ?_
        suffices lo : ∀ ix : Nat, ix ≤ 6 → pw_V x m_X8_readClause 5 Z 152 [(0, .ref 26), (2, .int (nI ix))] [] (pw_zI m1 38 ix) from lo 0 (by omega)
        refine pw_dn 6 (fun ix hix ih => ?_)
        refine pw_blk (pc' := 155) [.iload 2, .iconst (6)] (by decide +kernel) ?_
        show pw_V x m_X8_readClause 5 Z 155 [(0, .ref 26), (2, .int (nI ix))] [.int (nI 6), .int (nI ix)] (pw_zI m1 38 ix)
        refine pw_in_ge (tgt := 171) (off := 16) (by omega) (by omega) (by decide +kernel) (by decide) (fun h155 => ?_) (fun h155 => ?_)
        · rw [← hZ]
          refine pw_rv (by decide +kernel) ?_
          have hr : pw_rest A s k 11 (pw_tE A e) = (some (11, 0, 0), pw_tE A e) := by
            unfold pw_rest
            rw [if_pos (show pw_nb 11 < 1 by decide)]
          rw [show ix = 6 by omega]
          exact ⟨rfl, pw_rcm_of htw hkn F1 (pw_rp_ok hr (TK.z T1 (by decide)) (by rw [pw_zI_o (by omega)]; exact W1) (pw_rfm_z pw_rfm_r (by decide)) (show SD (G_o1 X (11, 0, 0)) _ from SD.z S1))⟩
        · refine pw_blk (pc' := 168) [.aload 0, .getfield 827, .iload 2, .iconst 0, .iastore, .iinc 2 1] (by decide +kernel) ?_
          refine ⟨ix, rfl, by omega, ?_⟩
          show pw_V x m_X8_readClause 5 Z 168 [(2, .int ((nI ix) + (nI 1))), (0, .ref 26)] [] (pw_up (pw_zI m1 38 ix) 38 ix (nI 0))
          rw [show (nI ix) + (nI 1) = nI (ix + 1) from nI_add _ _]
          refine pw_goto (tgt := 152) (off := -16) (by decide +kernel) (by decide) ?_
          refine pw_lvp [1, 0] rfl ?_
          exact ih (by omega)
      · rw [i14] at h17; cases h17
