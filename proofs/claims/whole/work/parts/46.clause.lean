theorem pw_nb_b (w : Nat) : pw_nb w ≤ 2 := by unfold pw_nb; split; omega; split <;> omega
theorem c_kw (w : Nat) (hw : w < 12) (mm : pw_m) : pw_Ct 0 yX2_isKnightWord m_X2_isKnightWord [.int (nI w)] mm (fun r m' => r = some (.int (pw_b (pw_kw w))) ∧ m' = mm) := by
  have h := c_isKnightWord (nI w) mm
  rw [pw_kw_n w hw] at h
  exact h
theorem c_nb (w : Nat) (hw : w < 12) (mm : pw_m) : pw_Ct 0 yX2_numbersBehind m_X2_numbersBehind [.int (nI w)] mm (fun r m' => r = some (.int (nI (pw_nb w))) ∧ m' = mm) := by
  have h := c_numbersBehind (nI w) mm
  rw [pw_nb_n w hw] at h
  exact h
theorem c_ln (w : Nat) (hw : w < 12) (mm : pw_m) : pw_Ct 0 yX2_leastNumber m_X2_leastNumber [.int (nI w)] mm (fun r m' => r = some (.int (nI (pw_le_ w))) ∧ m' = mm) := by
  have h := c_leastNumber (nI w) mm
  rw [pw_le_n w hw] at h
  exact h
theorem c_mf (w s k : Nat) (hw : w < 12) (mm : pw_m) (hs : mm 1 2 = nI s) (hk : mm 1 3 = nI k) : pw_Ct 0 yX2_mostFirst m_X2_mostFirst [.ref 1, .int (nI w)] mm (fun r m' => r = some (.int (nI (pw_mf s k w) - nI 1)) ∧ m' = mm) := by
  have h := c_mostFirst (nI w) mm
  rw [pw_mf_n hw hs hk] at h
  exact h
theorem c_ms (w k : Nat) (hw : w < 12) (mm : pw_m) (hk : mm 1 3 = nI k) : pw_Ct 0 yX2_mostSecond m_X2_mostSecond [.ref 1, .int (nI w)] mm (fun r m' => r = some (.int (nI (pw_ms k w) - nI 1)) ∧ m' = mm) := by
  have h := c_mostSecond (nI w) mm
  rw [pw_ms_n hw hk] at h
  exact h
theorem pw_lt31 {A : pw_m} {e w : Nat} (h : pw_tW A e = some w → w < 12) (q : pw_tW A e = some w) : w < 12 := h q
theorem pw_le_b (w : Nat) : pw_le_ w < 1000 := by unfold pw_le_; split <;> omega
theorem pw_mf_b {s k : Nat} (w : Nat) (hs : s ≤ 8) (hk : k ≤ 6) : pw_mf s k w < 1000 := by unfold pw_mf; split; omega; split; omega; split <;> omega
theorem pw_ms_b {k : Nat} (w : Nat) (hk : k ≤ 6) : pw_ms k w < 1000 := by unfold pw_ms; split; omega; split <;> omega
theorem pw_rgc {lo hi : Nat} {a : Int32} (h : pw_rgb lo hi a = true) (hl : lo < 1000) (hh : hi < 1000) : a = nI (pw_c a) := by
  obtain ⟨y, e, h1, h2⟩ := pw_rgb_t h hl hh
  subst e
  rw [pw_c_nI (by omega)]

set_option maxHeartbeats 4000000 in
set_option maxRecDepth 100000 in
theorem c_readClause {A : pw_m} (mm : pw_m) (htx : pw_tx A mm) (hx : A 2 1 = nI (pw_g A 2 1)) (bwr : pw_g A 2 1 ≤ 160) (s k e : Nat) (he : mm 2 4 = nI e) (he2 : e ≤ pw_g A 2 1) (hs : mm 1 2 = nI s) (hk : mm 1 3 = nI k) (hs8 : s ≤ 8) (hk6 : k ≤ 6) : pw_Ct 2 yX2_readClause m_X2_readClause [.ref 1] mm (fun r m' => r = some (.int (pw_b (pw_cz A s k e).2.isSome)) ∧ pw_rcp A mm m' s k e) := by
  refine pw_ct (by decide +kernel) rfl (Nat.le_of_ble_eq_true rfl) (fun x => ?_)
  generalize hZ : pw_Z x _ = Z
  show pw_V x m_X2_readClause 2 Z 0 [(0, .ref 1)] [] mm
  refine pw_blk (pc' := 4) [.aload 0, .getfield 200] (by decide +kernel) ?_
  show pw_V x m_X2_readClause 2 Z 4 [(0, .ref 1)] [.ref 2] mm
  refine pw_cV (vs := []) (rest := []) k_X3_advance (c_adv mm htx hx bwr e he (by omega)) l_2_55 rfl rfl rfl rfl (by omega) (Nat.le_of_ble_eq_true rfl) (by decide +kernel) ?_
  rintro _ m1 ⟨rfl, e1⟩
  rw [e1]
  clear e1 m1
  show pw_V x m_X2_readClause 2 Z 7 [(0, .ref 1)] [] (pw_up (pw_up (pw_up mm 2 3 (nI (pw_tB A e))) 2 2 (pw_tT A e)) 2 4 (nI (pw_tE A e)))
  have z4 := pw_tb1 (A := A) (e := e) (by omega)
  refine pw_blk (pc' := 9) [.aload 0, .aload 0] (by decide +kernel) ?_
  show pw_V x m_X2_readClause 2 Z 9 [(0, .ref 1)] [.ref 1, .ref 1] (pw_up (pw_up (pw_up mm 2 3 (nI (pw_tB A e))) 2 2 (pw_tT A e)) 2 4 (nI (pw_tE A e)))
  refine pw_cV (vs := []) (rest := [.ref 1]) k_X2_wordThatStandsHere (c_word (pw_up (pw_up (pw_up mm 2 3 (nI (pw_tB A e))) 2 2 (pw_tT A e)) 2 4 (nI (pw_tE A e))) (pw_tx_u (pw_tx_u (pw_tx_u htx (by decide)) (by decide)) (by decide)) hx bwr e rfl rfl rfl (by omega)) l_2_64 rfl rfl rfl rfl (by omega) (Nat.le_of_ble_eq_true rfl) (by decide +kernel) ?_
  rintro _ m1 ⟨rfl, e1⟩
  rw [e1]
  clear e1 m1
  show pw_V x m_X2_readClause 2 Z 12 [(0, .ref 1)] [.int (pw_o (pw_tW A e)), .ref 1] (pw_up (pw_up (pw_up mm 2 3 (nI (pw_tB A e))) 2 2 (pw_tT A e)) 2 4 (nI (pw_tE A e)))
  refine pw_blk (pc' := 20) [.putfield 204, .aload 0, .getfield 204, .iconst (-1)] (by decide +kernel) ?_
  show pw_V x m_X2_readClause 2 Z 20 [(0, .ref 1)] [.int (-1), .int (pw_o (pw_tW A e))] (pw_up (pw_up (pw_up (pw_up mm 2 3 (nI (pw_tB A e))) 2 2 (pw_tT A e)) 2 4 (nI (pw_tE A e))) 1 4 (pw_o (pw_tW A e)))
  rcases h20 : pw_tW A e with _ | s20
  · show pw_V x m_X2_readClause 2 Z 20 [(0, .ref 1)] [.int (-1), .int (-1)] (pw_up (pw_up (pw_up (pw_up mm 2 3 (nI (pw_tB A e))) 2 2 (pw_tT A e)) 2 4 (nI (pw_tE A e))) 1 4 (-1))
    refine pw_ic_eq (tgt := 42) (off := 22) (by decide +kernel) (by decide) (fun _ => ?_) (fun h => absurd rfl h)
    refine pw_blk (pc' := 43) [.iconst 0] (by decide +kernel) ?_
    show pw_V x m_X2_readClause 2 Z 43 [(0, .ref 1)] [.int (nI 0)] (pw_up (pw_up (pw_up (pw_up mm 2 3 (nI (pw_tB A e))) 2 2 (pw_tT A e)) 2 4 (nI (pw_tE A e))) 1 4 (-1))
    rw [← hZ]
    refine pw_rz (by decide +kernel) (Or.inl rfl) ?_
    have hcl : pw_cz A s k e = (e, none) := by
      unfold pw_cz
      rw [h20]
    exact (by have z := pw_rc_no (mm := mm) (B := (pw_up (pw_up (pw_up (pw_up mm 2 3 (nI (pw_tB A e))) 2 2 (pw_tT A e)) 2 4 (nI (pw_tE A e))) 1 4 (-1))) hcl (fun c q1 q2 => by simp only [pw_up, q1, q2, if_false]) rfl rfl rfl rfl; exact ⟨by rw [z.1]; rfl, z.2⟩)
  · show pw_V x m_X2_readClause 2 Z 20 [(0, .ref 1)] [.int (-1), .int (nI s20)] (pw_up (pw_up (pw_up (pw_up mm 2 3 (nI (pw_tB A e))) 2 2 (pw_tT A e)) 2 4 (nI (pw_tE A e))) 1 4 (nI s20))
    have b20 := pw_lt31 pw_tW_b h20
    refine pw_ic_eq (tgt := 42) (off := 22) (by decide +kernel) (by decide) (fun h => absurd h (pw_n1 (by omega))) (fun _ => ?_)
    refine pw_blk (pc' := 27) [.aload 0, .getfield 204] (by decide +kernel) ?_
    show pw_V x m_X2_readClause 2 Z 27 [(0, .ref 1)] [.int (nI s20)] (pw_up (pw_up (pw_up (pw_up mm 2 3 (nI (pw_tB A e))) 2 2 (pw_tT A e)) 2 4 (nI (pw_tE A e))) 1 4 (nI s20))
    refine pw_cS (vs := [.int (nI s20)]) (rest := []) k_X2_isKnightWord (c_kw s20 b20 (pw_up (pw_up (pw_up (pw_up mm 2 3 (nI (pw_tB A e))) 2 2 (pw_tT A e)) 2 4 (nI (pw_tE A e))) 1 4 (nI s20))) l_2_68 rfl (by omega) (Nat.le_of_ble_eq_true rfl) (by decide +kernel) ?_
    rintro _ m1 ⟨rfl, e1⟩
    rw [e1]
    clear e1 m1
    show pw_V x m_X2_readClause 2 Z 30 [(0, .ref 1)] [.int (pw_b (pw_kw s20))] (pw_up (pw_up (pw_up (pw_up mm 2 3 (nI (pw_tB A e))) 2 2 (pw_tT A e)) 2 4 (nI (pw_tE A e))) 1 4 (nI s20))
    refine pw_ib_eq (tgt := 44) (off := 14) (by decide +kernel) (by decide) (fun h30 => ?_) (fun h30 => ?_)
    · refine pw_blk (pc' := 58) [.aload 0, .iconst (-1), .putfield 205, .aload 0, .iconst (-1), .putfield 206, .aload 0, .getfield 204] (by decide +kernel) ?_
      show pw_V x m_X2_readClause 2 Z 58 [(0, .ref 1)] [.int (nI s20)] (pw_up (pw_up (pw_up (pw_up (pw_up (pw_up mm 2 3 (nI (pw_tB A e))) 2 2 (pw_tT A e)) 2 4 (nI (pw_tE A e))) 1 4 (nI s20)) 1 5 (-1)) 1 6 (-1))
      refine pw_cS (vs := [.int (nI s20)]) (rest := []) k_X2_numbersBehind (c_nb s20 b20 (pw_up (pw_up (pw_up (pw_up (pw_up (pw_up mm 2 3 (nI (pw_tB A e))) 2 2 (pw_tT A e)) 2 4 (nI (pw_tE A e))) 1 4 (nI s20)) 1 5 (-1)) 1 6 (-1))) l_2_72 rfl (by omega) (Nat.le_of_ble_eq_true rfl) (by decide +kernel) ?_
      rintro _ m1 ⟨rfl, e1⟩
      rw [e1]
      clear e1 m1
      show pw_V x m_X2_readClause 2 Z 61 [(0, .ref 1)] [.int (nI (pw_nb s20))] (pw_up (pw_up (pw_up (pw_up (pw_up (pw_up mm 2 3 (nI (pw_tB A e))) 2 2 (pw_tT A e)) 2 4 (nI (pw_tE A e))) 1 4 (nI s20)) 1 5 (-1)) 1 6 (-1))
      have bnb := pw_nb_b s20
      refine pw_blk (pc' := 64) [.istore 1, .iload 1, .iconst 1] (by decide +kernel) ?_
      show pw_V x m_X2_readClause 2 Z 64 [(1, .int (nI (pw_nb s20))), (0, .ref 1)] [.int (nI 1), .int (nI (pw_nb s20))] (pw_up (pw_up (pw_up (pw_up (pw_up (pw_up mm 2 3 (nI (pw_tB A e))) 2 2 (pw_tT A e)) 2 4 (nI (pw_tE A e))) 1 4 (nI s20)) 1 5 (-1)) 1 6 (-1))
      refine pw_in_lt (tgt := 116) (off := 52) (by omega) (by omega) (by decide +kernel) (by decide) (fun h64 => ?_) (fun h64 => ?_)
      · refine pw_blk (pc' := 118) [.iload 1, .iconst 2] (by decide +kernel) ?_
        show pw_V x m_X2_readClause 2 Z 118 [(1, .int (nI (pw_nb s20))), (0, .ref 1)] [.int (nI 2), .int (nI (pw_nb s20))] (pw_up (pw_up (pw_up (pw_up (pw_up (pw_up mm 2 3 (nI (pw_tB A e))) 2 2 (pw_tT A e)) 2 4 (nI (pw_tE A e))) 1 4 (nI s20)) 1 5 (-1)) 1 6 (-1))
        refine pw_in_lt (tgt := 183) (off := 65) (by omega) (by omega) (by decide +kernel) (by decide) (fun h118 => ?_) (fun h118 => ?_)
        · refine pw_blk (pc' := 184) [.aload 0] (by decide +kernel) ?_
          show pw_V x m_X2_readClause 2 Z 184 [(1, .int (nI (pw_nb s20))), (0, .ref 1)] [.ref 1] (pw_up (pw_up (pw_up (pw_up (pw_up (pw_up mm 2 3 (nI (pw_tB A e))) 2 2 (pw_tT A e)) 2 4 (nI (pw_tE A e))) 1 4 (nI s20)) 1 5 (-1)) 1 6 (-1))
          refine pw_cV (vs := []) (rest := []) k_X2_tally (c_tally (pw_up (pw_up (pw_up (pw_up (pw_up (pw_up mm 2 3 (nI (pw_tB A e))) 2 2 (pw_tT A e)) 2 4 (nI (pw_tE A e))) 1 4 (nI s20)) 1 5 (-1)) 1 6 (-1))) l_2_88 rfl rfl rfl rfl (by omega) (Nat.le_of_ble_eq_true rfl) (by decide +kernel) ?_
          rintro _ m1 ⟨rfl, e1⟩
          rw [e1]
          clear e1 m1
          show pw_V x m_X2_readClause 2 Z 187 [(1, .int (nI (pw_nb s20))), (0, .ref 1)] [] (G_tal (pw_up (pw_up (pw_up (pw_up (pw_up (pw_up mm 2 3 (nI (pw_tB A e))) 2 2 (pw_tT A e)) 2 4 (nI (pw_tE A e))) 1 4 (nI s20)) 1 5 (-1)) 1 6 (-1)))
          refine pw_blk (pc' := 188) [.iconst 1] (by decide +kernel) ?_
          show pw_V x m_X2_readClause 2 Z 188 [(1, .int (nI (pw_nb s20))), (0, .ref 1)] [.int (nI 1)] (G_tal (pw_up (pw_up (pw_up (pw_up (pw_up (pw_up mm 2 3 (nI (pw_tB A e))) 2 2 (pw_tT A e)) 2 4 (nI (pw_tE A e))) 1 4 (nI s20)) 1 5 (-1)) 1 6 (-1)))
          rw [← hZ]
          refine pw_rz (by decide +kernel) (Or.inr rfl) ?_
          have b20 := pw_tW_b h20
          have hcl : pw_cz A s k e = (e, some (s20, 0, 0)) := by
            unfold pw_cz
            rw [h20]
            dsimp only
            rw [if_neg (fun z => by rw [h30] at z; exact absurd z.1 (by decide)), if_pos h64]
          exact (by have z := pw_rc_ok (mm := mm) (B := (pw_up (pw_up (pw_up (pw_up (pw_up (pw_up mm 2 3 (nI (pw_tB A e))) 2 2 (pw_tT A e)) 2 4 (nI (pw_tE A e))) 1 4 (nI s20)) 1 5 (-1)) 1 6 (-1))) hcl b20 (fun c q1 q2 => by simp only [pw_up, q1, q2, if_false]) rfl rfl rfl rfl rfl (by rw [if_pos h64]; rfl) (by rw [if_pos (by omega)]; rfl) hs hk; exact ⟨by rw [z.1]; rfl, z.2⟩)
        · omega
      · refine pw_blk (pc' := 71) [.aload 0, .getfield 200] (by decide +kernel) ?_
        show pw_V x m_X2_readClause 2 Z 71 [(1, .int (nI (pw_nb s20))), (0, .ref 1)] [.ref 2] (pw_up (pw_up (pw_up (pw_up (pw_up (pw_up mm 2 3 (nI (pw_tB A e))) 2 2 (pw_tT A e)) 2 4 (nI (pw_tE A e))) 1 4 (nI s20)) 1 5 (-1)) 1 6 (-1))
        refine pw_cV (vs := []) (rest := []) k_X3_advance (c_adv (pw_up (pw_up (pw_up (pw_up (pw_up (pw_up mm 2 3 (nI (pw_tB A e))) 2 2 (pw_tT A e)) 2 4 (nI (pw_tE A e))) 1 4 (nI s20)) 1 5 (-1)) 1 6 (-1)) (pw_tx_u (pw_tx_u (pw_tx_u (pw_tx_u (pw_tx_u (pw_tx_u htx (by decide)) (by decide)) (by decide)) (by decide)) (by decide)) (by decide)) hx bwr (pw_tE A e) rfl (by omega)) l_2_55 rfl rfl rfl rfl (by omega) (Nat.le_of_ble_eq_true rfl) (by decide +kernel) ?_
        rintro _ m1 ⟨rfl, e1⟩
        rw [e1]
        clear e1 m1
        show pw_V x m_X2_readClause 2 Z 74 [(1, .int (nI (pw_nb s20))), (0, .ref 1)] [] (pw_up (pw_up (pw_up (pw_up (pw_up (pw_up (pw_up (pw_up (pw_up mm 2 3 (nI (pw_tB A e))) 2 2 (pw_tT A e)) 2 4 (nI (pw_tE A e))) 1 4 (nI s20)) 1 5 (-1)) 1 6 (-1)) 2 3 (nI (pw_tB A (pw_tE A e)))) 2 2 (pw_tT A (pw_tE A e))) 2 4 (nI (pw_tE A (pw_tE A e))))
        have z71 := pw_tb1 (A := A) (e := (pw_tE A e)) (by omega)
        refine pw_blk (pc' := 79) [.aload 0, .aload 0, .getfield 200] (by decide +kernel) ?_
        show pw_V x m_X2_readClause 2 Z 79 [(1, .int (nI (pw_nb s20))), (0, .ref 1)] [.ref 2, .ref 1] (pw_up (pw_up (pw_up (pw_up (pw_up (pw_up (pw_up (pw_up (pw_up mm 2 3 (nI (pw_tB A e))) 2 2 (pw_tT A e)) 2 4 (nI (pw_tE A e))) 1 4 (nI s20)) 1 5 (-1)) 1 6 (-1)) 2 3 (nI (pw_tB A (pw_tE A e)))) 2 2 (pw_tT A (pw_tE A e))) 2 4 (nI (pw_tE A (pw_tE A e))))
        refine pw_cV (vs := []) (rest := [.ref 1]) k_X3_number (c_numb (pw_up (pw_up (pw_up (pw_up (pw_up (pw_up (pw_up (pw_up (pw_up mm 2 3 (nI (pw_tB A e))) 2 2 (pw_tT A e)) 2 4 (nI (pw_tE A e))) 1 4 (nI s20)) 1 5 (-1)) 1 6 (-1)) 2 3 (nI (pw_tB A (pw_tE A e)))) 2 2 (pw_tT A (pw_tE A e))) 2 4 (nI (pw_tE A (pw_tE A e)))) (pw_tx_u (pw_tx_u (pw_tx_u (pw_tx_u (pw_tx_u (pw_tx_u (pw_tx_u (pw_tx_u (pw_tx_u htx (by decide)) (by decide)) (by decide)) (by decide)) (by decide)) (by decide)) (by decide)) (by decide)) (by decide)) hx bwr (pw_tE A e) rfl rfl rfl (by omega)) l_2_76 rfl rfl rfl rfl (by omega) (Nat.le_of_ble_eq_true rfl) (by decide +kernel) ?_
        rintro _ m1 ⟨rfl, e1⟩
        rw [e1]
        clear e1 m1
        show pw_V x m_X2_readClause 2 Z 82 [(1, .int (nI (pw_nb s20))), (0, .ref 1)] [.int (pw_tN A (pw_tE A e)), .ref 1] (pw_up (pw_up (pw_up (pw_up (pw_up (pw_up (pw_up (pw_up (pw_up mm 2 3 (nI (pw_tB A e))) 2 2 (pw_tT A e)) 2 4 (nI (pw_tE A e))) 1 4 (nI s20)) 1 5 (-1)) 1 6 (-1)) 2 3 (nI (pw_tB A (pw_tE A e)))) 2 2 (pw_tT A (pw_tE A e))) 2 4 (nI (pw_tE A (pw_tE A e))))
        refine pw_blk (pc' := 93) [.putfield 205, .aload 0, .getfield 205, .aload 0, .getfield 204] (by decide +kernel) ?_
        show pw_V x m_X2_readClause 2 Z 93 [(1, .int (nI (pw_nb s20))), (0, .ref 1)] [.int (nI s20), .int (pw_tN A (pw_tE A e))] (pw_up (pw_up (pw_up (pw_up (pw_up (pw_up (pw_up (pw_up (pw_up (pw_up mm 2 3 (nI (pw_tB A e))) 2 2 (pw_tT A e)) 2 4 (nI (pw_tE A e))) 1 4 (nI s20)) 1 5 (-1)) 1 6 (-1)) 2 3 (nI (pw_tB A (pw_tE A e)))) 2 2 (pw_tT A (pw_tE A e))) 2 4 (nI (pw_tE A (pw_tE A e)))) 1 5 (pw_tN A (pw_tE A e)))
        refine pw_cS (vs := [.int (nI s20)]) (rest := [.int (pw_tN A (pw_tE A e))]) k_X2_leastNumber (c_ln s20 b20 (pw_up (pw_up (pw_up (pw_up (pw_up (pw_up (pw_up (pw_up (pw_up (pw_up mm 2 3 (nI (pw_tB A e))) 2 2 (pw_tT A e)) 2 4 (nI (pw_tE A e))) 1 4 (nI s20)) 1 5 (-1)) 1 6 (-1)) 2 3 (nI (pw_tB A (pw_tE A e)))) 2 2 (pw_tT A (pw_tE A e))) 2 4 (nI (pw_tE A (pw_tE A e)))) 1 5 (pw_tN A (pw_tE A e)))) l_2_79 rfl (by omega) (Nat.le_of_ble_eq_true rfl) (by decide +kernel) ?_
        rintro _ m1 ⟨rfl, e1⟩
        rw [e1]
        clear e1 m1
        show pw_V x m_X2_readClause 2 Z 96 [(1, .int (nI (pw_nb s20))), (0, .ref 1)] [.int (nI (pw_le_ s20)), .int (pw_tN A (pw_tE A e))] (pw_up (pw_up (pw_up (pw_up (pw_up (pw_up (pw_up (pw_up (pw_up (pw_up mm 2 3 (nI (pw_tB A e))) 2 2 (pw_tT A e)) 2 4 (nI (pw_tE A e))) 1 4 (nI s20)) 1 5 (-1)) 1 6 (-1)) 2 3 (nI (pw_tB A (pw_tE A e)))) 2 2 (pw_tT A (pw_tE A e))) 2 4 (nI (pw_tE A (pw_tE A e)))) 1 5 (pw_tN A (pw_tE A e)))
        refine pw_ic_lt (tgt := 114) (off := 18) (by decide +kernel) (by decide) (fun h96 => ?_) (fun h96 => ?_)
        · refine pw_blk (pc' := 115) [.iconst 0] (by decide +kernel) ?_
          show pw_V x m_X2_readClause 2 Z 115 [(1, .int (nI (pw_nb s20))), (0, .ref 1)] [.int (nI 0)] (pw_up (pw_up (pw_up (pw_up (pw_up (pw_up (pw_up (pw_up (pw_up (pw_up mm 2 3 (nI (pw_tB A e))) 2 2 (pw_tT A e)) 2 4 (nI (pw_tE A e))) 1 4 (nI s20)) 1 5 (-1)) 1 6 (-1)) 2 3 (nI (pw_tB A (pw_tE A e)))) 2 2 (pw_tT A (pw_tE A e))) 2 4 (nI (pw_tE A (pw_tE A e)))) 1 5 (pw_tN A (pw_tE A e)))
          rw [← hZ]
          refine pw_rz (by decide +kernel) (Or.inl rfl) ?_
          have b20 := pw_tW_b h20
          have hcl : pw_cz A s k e = ((pw_tE A e), none) := by
            unfold pw_cz
            rw [h20]
            dsimp only
            rw [if_neg (fun z => by rw [h30] at z; exact absurd z.1 (by decide)), if_neg (by omega), if_neg (fun z => absurd h96 (of_decide_eq_true z).1)]
          exact (by have z := pw_rc_no (mm := mm) (B := (pw_up (pw_up (pw_up (pw_up (pw_up (pw_up (pw_up (pw_up (pw_up (pw_up mm 2 3 (nI (pw_tB A e))) 2 2 (pw_tT A e)) 2 4 (nI (pw_tE A e))) 1 4 (nI s20)) 1 5 (-1)) 1 6 (-1)) 2 3 (nI (pw_tB A (pw_tE A e)))) 2 2 (pw_tT A (pw_tE A e))) 2 4 (nI (pw_tE A (pw_tE A e)))) 1 5 (pw_tN A (pw_tE A e)))) hcl (fun c q1 q2 => by simp only [pw_up, q1, q2, if_false]) rfl rfl rfl rfl; exact ⟨by rw [z.1]; rfl, z.2⟩)
        · refine pw_blk (pc' := 108) [.aload 0, .getfield 205, .aload 0, .aload 0, .getfield 204] (by decide +kernel) ?_
          show pw_V x m_X2_readClause 2 Z 108 [(1, .int (nI (pw_nb s20))), (0, .ref 1)] [.int (nI s20), .ref 1, .int (pw_tN A (pw_tE A e))] (pw_up (pw_up (pw_up (pw_up (pw_up (pw_up (pw_up (pw_up (pw_up (pw_up mm 2 3 (nI (pw_tB A e))) 2 2 (pw_tT A e)) 2 4 (nI (pw_tE A e))) 1 4 (nI s20)) 1 5 (-1)) 1 6 (-1)) 2 3 (nI (pw_tB A (pw_tE A e)))) 2 2 (pw_tT A (pw_tE A e))) 2 4 (nI (pw_tE A (pw_tE A e)))) 1 5 (pw_tN A (pw_tE A e)))
          refine pw_cV (vs := [.int (nI s20)]) (rest := [.int (pw_tN A (pw_tE A e))]) k_X2_mostFirst (c_mf s20 s k b20 (pw_up (pw_up (pw_up (pw_up (pw_up (pw_up (pw_up (pw_up (pw_up (pw_up mm 2 3 (nI (pw_tB A e))) 2 2 (pw_tT A e)) 2 4 (nI (pw_tE A e))) 1 4 (nI s20)) 1 5 (-1)) 1 6 (-1)) 2 3 (nI (pw_tB A (pw_tE A e)))) 2 2 (pw_tT A (pw_tE A e))) 2 4 (nI (pw_tE A (pw_tE A e)))) 1 5 (pw_tN A (pw_tE A e))) hs hk) l_2_82 rfl rfl rfl rfl (by omega) (Nat.le_of_ble_eq_true rfl) (by decide +kernel) ?_
          rintro _ m1 ⟨rfl, e1⟩
          rw [e1]
          clear e1 m1
          show pw_V x m_X2_readClause 2 Z 111 [(1, .int (nI (pw_nb s20))), (0, .ref 1)] [.int (nI (pw_mf s k s20) - nI 1), .int (pw_tN A (pw_tE A e))] (pw_up (pw_up (pw_up (pw_up (pw_up (pw_up (pw_up (pw_up (pw_up (pw_up mm 2 3 (nI (pw_tB A e))) 2 2 (pw_tT A e)) 2 4 (nI (pw_tE A e))) 1 4 (nI s20)) 1 5 (-1)) 1 6 (-1)) 2 3 (nI (pw_tB A (pw_tE A e)))) 2 2 (pw_tT A (pw_tE A e))) 2 4 (nI (pw_tE A (pw_tE A e)))) 1 5 (pw_tN A (pw_tE A e)))
          refine pw_ic_le (tgt := 116) (off := 5) (by decide +kernel) (by decide) (fun h111 => ?_) (fun h111 => ?_)
          · refine pw_blk (pc' := 118) [.iload 1, .iconst 2] (by decide +kernel) ?_
            show pw_V x m_X2_readClause 2 Z 118 [(1, .int (nI (pw_nb s20))), (0, .ref 1)] [.int (nI 2), .int (nI (pw_nb s20))] (pw_up (pw_up (pw_up (pw_up (pw_up (pw_up (pw_up (pw_up (pw_up (pw_up mm 2 3 (nI (pw_tB A e))) 2 2 (pw_tT A e)) 2 4 (nI (pw_tE A e))) 1 4 (nI s20)) 1 5 (-1)) 1 6 (-1)) 2 3 (nI (pw_tB A (pw_tE A e)))) 2 2 (pw_tT A (pw_tE A e))) 2 4 (nI (pw_tE A (pw_tE A e)))) 1 5 (pw_tN A (pw_tE A e)))
            refine pw_in_lt (tgt := 183) (off := 65) (by omega) (by omega) (by decide +kernel) (by decide) (fun h118 => ?_) (fun h118 => ?_)
            · refine pw_blk (pc' := 184) [.aload 0] (by decide +kernel) ?_
              show pw_V x m_X2_readClause 2 Z 184 [(1, .int (nI (pw_nb s20))), (0, .ref 1)] [.ref 1] (pw_up (pw_up (pw_up (pw_up (pw_up (pw_up (pw_up (pw_up (pw_up (pw_up mm 2 3 (nI (pw_tB A e))) 2 2 (pw_tT A e)) 2 4 (nI (pw_tE A e))) 1 4 (nI s20)) 1 5 (-1)) 1 6 (-1)) 2 3 (nI (pw_tB A (pw_tE A e)))) 2 2 (pw_tT A (pw_tE A e))) 2 4 (nI (pw_tE A (pw_tE A e)))) 1 5 (pw_tN A (pw_tE A e)))
              refine pw_cV (vs := []) (rest := []) k_X2_tally (c_tally (pw_up (pw_up (pw_up (pw_up (pw_up (pw_up (pw_up (pw_up (pw_up (pw_up mm 2 3 (nI (pw_tB A e))) 2 2 (pw_tT A e)) 2 4 (nI (pw_tE A e))) 1 4 (nI s20)) 1 5 (-1)) 1 6 (-1)) 2 3 (nI (pw_tB A (pw_tE A e)))) 2 2 (pw_tT A (pw_tE A e))) 2 4 (nI (pw_tE A (pw_tE A e)))) 1 5 (pw_tN A (pw_tE A e)))) l_2_88 rfl rfl rfl rfl (by omega) (Nat.le_of_ble_eq_true rfl) (by decide +kernel) ?_
              rintro _ m1 ⟨rfl, e1⟩
              rw [e1]
              clear e1 m1
              show pw_V x m_X2_readClause 2 Z 187 [(1, .int (nI (pw_nb s20))), (0, .ref 1)] [] (G_tal (pw_up (pw_up (pw_up (pw_up (pw_up (pw_up (pw_up (pw_up (pw_up (pw_up mm 2 3 (nI (pw_tB A e))) 2 2 (pw_tT A e)) 2 4 (nI (pw_tE A e))) 1 4 (nI s20)) 1 5 (-1)) 1 6 (-1)) 2 3 (nI (pw_tB A (pw_tE A e)))) 2 2 (pw_tT A (pw_tE A e))) 2 4 (nI (pw_tE A (pw_tE A e)))) 1 5 (pw_tN A (pw_tE A e))))
              refine pw_blk (pc' := 188) [.iconst 1] (by decide +kernel) ?_
              show pw_V x m_X2_readClause 2 Z 188 [(1, .int (nI (pw_nb s20))), (0, .ref 1)] [.int (nI 1)] (G_tal (pw_up (pw_up (pw_up (pw_up (pw_up (pw_up (pw_up (pw_up (pw_up (pw_up mm 2 3 (nI (pw_tB A e))) 2 2 (pw_tT A e)) 2 4 (nI (pw_tE A e))) 1 4 (nI s20)) 1 5 (-1)) 1 6 (-1)) 2 3 (nI (pw_tB A (pw_tE A e)))) 2 2 (pw_tT A (pw_tE A e))) 2 4 (nI (pw_tE A (pw_tE A e)))) 1 5 (pw_tN A (pw_tE A e))))
              rw [← hZ]
              refine pw_rz (by decide +kernel) (Or.inr rfl) ?_
              have b20 := pw_tW_b h20
              have hcl : pw_cz A s k e = ((pw_tE A e), some (s20, pw_c (pw_tN A (pw_tE A e)), 0)) := by
                unfold pw_cz
                rw [h20]
                dsimp only
                rw [if_neg (fun z => by rw [h30] at z; exact absurd z.1 (by decide)), if_neg (by omega), if_pos (show pw_rgb _ _ _ = true from decide_eq_true ⟨h96, h111⟩), if_pos h118]
              exact (by have z := pw_rc_ok (mm := mm) (B := (pw_up (pw_up (pw_up (pw_up (pw_up (pw_up (pw_up (pw_up (pw_up (pw_up mm 2 3 (nI (pw_tB A e))) 2 2 (pw_tT A e)) 2 4 (nI (pw_tE A e))) 1 4 (nI s20)) 1 5 (-1)) 1 6 (-1)) 2 3 (nI (pw_tB A (pw_tE A e)))) 2 2 (pw_tT A (pw_tE A e))) 2 4 (nI (pw_tE A (pw_tE A e)))) 1 5 (pw_tN A (pw_tE A e)))) hcl b20 (fun c q1 q2 => by simp only [pw_up, q1, q2, if_false]) rfl rfl rfl rfl rfl (by rw [if_neg (by omega)]; exact pw_rgc (show pw_rgb (pw_le_ s20) (pw_mf s k s20) _ = true from decide_eq_true ⟨h96, h111⟩) (pw_le_b s20) (pw_mf_b s20 hs8 hk6)) (by rw [if_pos (by omega)]; rfl) hs hk; exact ⟨by rw [z.1]; rfl, z.2⟩)
            · refine pw_blk (pc' := 125) [.aload 0, .getfield 200] (by decide +kernel) ?_
              show pw_V x m_X2_readClause 2 Z 125 [(1, .int (nI (pw_nb s20))), (0, .ref 1)] [.ref 2] (pw_up (pw_up (pw_up (pw_up (pw_up (pw_up (pw_up (pw_up (pw_up (pw_up mm 2 3 (nI (pw_tB A e))) 2 2 (pw_tT A e)) 2 4 (nI (pw_tE A e))) 1 4 (nI s20)) 1 5 (-1)) 1 6 (-1)) 2 3 (nI (pw_tB A (pw_tE A e)))) 2 2 (pw_tT A (pw_tE A e))) 2 4 (nI (pw_tE A (pw_tE A e)))) 1 5 (pw_tN A (pw_tE A e)))
              refine pw_cV (vs := []) (rest := []) k_X3_advance (c_adv (pw_up (pw_up (pw_up (pw_up (pw_up (pw_up (pw_up (pw_up (pw_up (pw_up mm 2 3 (nI (pw_tB A e))) 2 2 (pw_tT A e)) 2 4 (nI (pw_tE A e))) 1 4 (nI s20)) 1 5 (-1)) 1 6 (-1)) 2 3 (nI (pw_tB A (pw_tE A e)))) 2 2 (pw_tT A (pw_tE A e))) 2 4 (nI (pw_tE A (pw_tE A e)))) 1 5 (pw_tN A (pw_tE A e))) (pw_tx_u (pw_tx_u (pw_tx_u (pw_tx_u (pw_tx_u (pw_tx_u (pw_tx_u (pw_tx_u (pw_tx_u (pw_tx_u htx (by decide)) (by decide)) (by decide)) (by decide)) (by decide)) (by decide)) (by decide)) (by decide)) (by decide)) (by decide)) hx bwr (pw_tE A (pw_tE A e)) rfl (by omega)) l_2_55 rfl rfl rfl rfl (by omega) (Nat.le_of_ble_eq_true rfl) (by decide +kernel) ?_
              rintro _ m1 ⟨rfl, e1⟩
              rw [e1]
              clear e1 m1
              show pw_V x m_X2_readClause 2 Z 128 [(1, .int (nI (pw_nb s20))), (0, .ref 1)] [] (pw_up (pw_up (pw_up (pw_up (pw_up (pw_up (pw_up (pw_up (pw_up (pw_up (pw_up (pw_up (pw_up mm 2 3 (nI (pw_tB A e))) 2 2 (pw_tT A e)) 2 4 (nI (pw_tE A e))) 1 4 (nI s20)) 1 5 (-1)) 1 6 (-1)) 2 3 (nI (pw_tB A (pw_tE A e)))) 2 2 (pw_tT A (pw_tE A e))) 2 4 (nI (pw_tE A (pw_tE A e)))) 1 5 (pw_tN A (pw_tE A e))) 2 3 (nI (pw_tB A (pw_tE A (pw_tE A e))))) 2 2 (pw_tT A (pw_tE A (pw_tE A e)))) 2 4 (nI (pw_tE A (pw_tE A (pw_tE A e)))))
              have z125 := pw_tb1 (A := A) (e := (pw_tE A (pw_tE A e))) (by omega)
              refine pw_blk (pc' := 133) [.aload 0, .aload 0, .getfield 200] (by decide +kernel) ?_
              show pw_V x m_X2_readClause 2 Z 133 [(1, .int (nI (pw_nb s20))), (0, .ref 1)] [.ref 2, .ref 1] (pw_up (pw_up (pw_up (pw_up (pw_up (pw_up (pw_up (pw_up (pw_up (pw_up (pw_up (pw_up (pw_up mm 2 3 (nI (pw_tB A e))) 2 2 (pw_tT A e)) 2 4 (nI (pw_tE A e))) 1 4 (nI s20)) 1 5 (-1)) 1 6 (-1)) 2 3 (nI (pw_tB A (pw_tE A e)))) 2 2 (pw_tT A (pw_tE A e))) 2 4 (nI (pw_tE A (pw_tE A e)))) 1 5 (pw_tN A (pw_tE A e))) 2 3 (nI (pw_tB A (pw_tE A (pw_tE A e))))) 2 2 (pw_tT A (pw_tE A (pw_tE A e)))) 2 4 (nI (pw_tE A (pw_tE A (pw_tE A e)))))
              refine pw_cV (vs := []) (rest := [.ref 1]) k_X3_number (c_numb (pw_up (pw_up (pw_up (pw_up (pw_up (pw_up (pw_up (pw_up (pw_up (pw_up (pw_up (pw_up (pw_up mm 2 3 (nI (pw_tB A e))) 2 2 (pw_tT A e)) 2 4 (nI (pw_tE A e))) 1 4 (nI s20)) 1 5 (-1)) 1 6 (-1)) 2 3 (nI (pw_tB A (pw_tE A e)))) 2 2 (pw_tT A (pw_tE A e))) 2 4 (nI (pw_tE A (pw_tE A e)))) 1 5 (pw_tN A (pw_tE A e))) 2 3 (nI (pw_tB A (pw_tE A (pw_tE A e))))) 2 2 (pw_tT A (pw_tE A (pw_tE A e)))) 2 4 (nI (pw_tE A (pw_tE A (pw_tE A e))))) (pw_tx_u (pw_tx_u (pw_tx_u (pw_tx_u (pw_tx_u (pw_tx_u (pw_tx_u (pw_tx_u (pw_tx_u (pw_tx_u (pw_tx_u (pw_tx_u (pw_tx_u htx (by decide)) (by decide)) (by decide)) (by decide)) (by decide)) (by decide)) (by decide)) (by decide)) (by decide)) (by decide)) (by decide)) (by decide)) (by decide)) hx bwr (pw_tE A (pw_tE A e)) rfl rfl rfl (by omega)) l_2_76 rfl rfl rfl rfl (by omega) (Nat.le_of_ble_eq_true rfl) (by decide +kernel) ?_
              rintro _ m1 ⟨rfl, e1⟩
              rw [e1]
              clear e1 m1
              show pw_V x m_X2_readClause 2 Z 136 [(1, .int (nI (pw_nb s20))), (0, .ref 1)] [.int (pw_tN A (pw_tE A (pw_tE A e))), .ref 1] (pw_up (pw_up (pw_up (pw_up (pw_up (pw_up (pw_up (pw_up (pw_up (pw_up (pw_up (pw_up (pw_up mm 2 3 (nI (pw_tB A e))) 2 2 (pw_tT A e)) 2 4 (nI (pw_tE A e))) 1 4 (nI s20)) 1 5 (-1)) 1 6 (-1)) 2 3 (nI (pw_tB A (pw_tE A e)))) 2 2 (pw_tT A (pw_tE A e))) 2 4 (nI (pw_tE A (pw_tE A e)))) 1 5 (pw_tN A (pw_tE A e))) 2 3 (nI (pw_tB A (pw_tE A (pw_tE A e))))) 2 2 (pw_tT A (pw_tE A (pw_tE A e)))) 2 4 (nI (pw_tE A (pw_tE A (pw_tE A e)))))
              refine pw_blk (pc' := 143) [.putfield 206, .aload 0, .getfield 206] (by decide +kernel) ?_
              show pw_V x m_X2_readClause 2 Z 143 [(1, .int (nI (pw_nb s20))), (0, .ref 1)] [.int (pw_tN A (pw_tE A (pw_tE A e)))] (pw_up (pw_up (pw_up (pw_up (pw_up (pw_up (pw_up (pw_up (pw_up (pw_up (pw_up (pw_up (pw_up (pw_up mm 2 3 (nI (pw_tB A e))) 2 2 (pw_tT A e)) 2 4 (nI (pw_tE A e))) 1 4 (nI s20)) 1 5 (-1)) 1 6 (-1)) 2 3 (nI (pw_tB A (pw_tE A e)))) 2 2 (pw_tT A (pw_tE A e))) 2 4 (nI (pw_tE A (pw_tE A e)))) 1 5 (pw_tN A (pw_tE A e))) 2 3 (nI (pw_tB A (pw_tE A (pw_tE A e))))) 2 2 (pw_tT A (pw_tE A (pw_tE A e)))) 2 4 (nI (pw_tE A (pw_tE A (pw_tE A e))))) 1 6 (pw_tN A (pw_tE A (pw_tE A e))))
              refine pw_if_lt (tgt := 181) (off := 38) (by decide +kernel) (by decide) (fun h143 => ?_) (fun h143 => ?_)
              · refine pw_blk (pc' := 182) [.iconst 0] (by decide +kernel) ?_
                show pw_V x m_X2_readClause 2 Z 182 [(1, .int (nI (pw_nb s20))), (0, .ref 1)] [.int (nI 0)] (pw_up (pw_up (pw_up (pw_up (pw_up (pw_up (pw_up (pw_up (pw_up (pw_up (pw_up (pw_up (pw_up (pw_up mm 2 3 (nI (pw_tB A e))) 2 2 (pw_tT A e)) 2 4 (nI (pw_tE A e))) 1 4 (nI s20)) 1 5 (-1)) 1 6 (-1)) 2 3 (nI (pw_tB A (pw_tE A e)))) 2 2 (pw_tT A (pw_tE A e))) 2 4 (nI (pw_tE A (pw_tE A e)))) 1 5 (pw_tN A (pw_tE A e))) 2 3 (nI (pw_tB A (pw_tE A (pw_tE A e))))) 2 2 (pw_tT A (pw_tE A (pw_tE A e)))) 2 4 (nI (pw_tE A (pw_tE A (pw_tE A e))))) 1 6 (pw_tN A (pw_tE A (pw_tE A e))))
                rw [← hZ]
                refine pw_rz (by decide +kernel) (Or.inl rfl) ?_
                have b20 := pw_tW_b h20
                have hcl : pw_cz A s k e = ((pw_tE A (pw_tE A e)), none) := by
                  unfold pw_cz
                  rw [h20]
                  dsimp only
                  rw [if_neg (fun z => by rw [h30] at z; exact absurd z.1 (by decide)), if_neg (by omega), if_pos (show pw_rgb _ _ _ = true from decide_eq_true ⟨h96, h111⟩), if_neg (by omega), if_neg (fun z => absurd h143 (of_decide_eq_true z.1).1)]
                exact (by have z := pw_rc_no (mm := mm) (B := (pw_up (pw_up (pw_up (pw_up (pw_up (pw_up (pw_up (pw_up (pw_up (pw_up (pw_up (pw_up (pw_up (pw_up mm 2 3 (nI (pw_tB A e))) 2 2 (pw_tT A e)) 2 4 (nI (pw_tE A e))) 1 4 (nI s20)) 1 5 (-1)) 1 6 (-1)) 2 3 (nI (pw_tB A (pw_tE A e)))) 2 2 (pw_tT A (pw_tE A e))) 2 4 (nI (pw_tE A (pw_tE A e)))) 1 5 (pw_tN A (pw_tE A e))) 2 3 (nI (pw_tB A (pw_tE A (pw_tE A e))))) 2 2 (pw_tT A (pw_tE A (pw_tE A e)))) 2 4 (nI (pw_tE A (pw_tE A (pw_tE A e))))) 1 6 (pw_tN A (pw_tE A (pw_tE A e))))) hcl (fun c q1 q2 => by simp only [pw_up, q1, q2, if_false]) rfl rfl rfl rfl; exact ⟨by rw [z.1]; rfl, z.2⟩)
              · refine pw_blk (pc' := 155) [.aload 0, .getfield 206, .aload 0, .aload 0, .getfield 204] (by decide +kernel) ?_
                show pw_V x m_X2_readClause 2 Z 155 [(1, .int (nI (pw_nb s20))), (0, .ref 1)] [.int (nI s20), .ref 1, .int (pw_tN A (pw_tE A (pw_tE A e)))] (pw_up (pw_up (pw_up (pw_up (pw_up (pw_up (pw_up (pw_up (pw_up (pw_up (pw_up (pw_up (pw_up (pw_up mm 2 3 (nI (pw_tB A e))) 2 2 (pw_tT A e)) 2 4 (nI (pw_tE A e))) 1 4 (nI s20)) 1 5 (-1)) 1 6 (-1)) 2 3 (nI (pw_tB A (pw_tE A e)))) 2 2 (pw_tT A (pw_tE A e))) 2 4 (nI (pw_tE A (pw_tE A e)))) 1 5 (pw_tN A (pw_tE A e))) 2 3 (nI (pw_tB A (pw_tE A (pw_tE A e))))) 2 2 (pw_tT A (pw_tE A (pw_tE A e)))) 2 4 (nI (pw_tE A (pw_tE A (pw_tE A e))))) 1 6 (pw_tN A (pw_tE A (pw_tE A e))))
                refine pw_cV (vs := [.int (nI s20)]) (rest := [.int (pw_tN A (pw_tE A (pw_tE A e)))]) k_X2_mostSecond (c_ms s20 k b20 (pw_up (pw_up (pw_up (pw_up (pw_up (pw_up (pw_up (pw_up (pw_up (pw_up (pw_up (pw_up (pw_up (pw_up mm 2 3 (nI (pw_tB A e))) 2 2 (pw_tT A e)) 2 4 (nI (pw_tE A e))) 1 4 (nI s20)) 1 5 (-1)) 1 6 (-1)) 2 3 (nI (pw_tB A (pw_tE A e)))) 2 2 (pw_tT A (pw_tE A e))) 2 4 (nI (pw_tE A (pw_tE A e)))) 1 5 (pw_tN A (pw_tE A e))) 2 3 (nI (pw_tB A (pw_tE A (pw_tE A e))))) 2 2 (pw_tT A (pw_tE A (pw_tE A e)))) 2 4 (nI (pw_tE A (pw_tE A (pw_tE A e))))) 1 6 (pw_tN A (pw_tE A (pw_tE A e)))) hk) l_2_85 rfl rfl rfl rfl (by omega) (Nat.le_of_ble_eq_true rfl) (by decide +kernel) ?_
                rintro _ m1 ⟨rfl, e1⟩
                rw [e1]
                clear e1 m1
                show pw_V x m_X2_readClause 2 Z 158 [(1, .int (nI (pw_nb s20))), (0, .ref 1)] [.int (nI (pw_ms k s20) - nI 1), .int (pw_tN A (pw_tE A (pw_tE A e)))] (pw_up (pw_up (pw_up (pw_up (pw_up (pw_up (pw_up (pw_up (pw_up (pw_up (pw_up (pw_up (pw_up (pw_up mm 2 3 (nI (pw_tB A e))) 2 2 (pw_tT A e)) 2 4 (nI (pw_tE A e))) 1 4 (nI s20)) 1 5 (-1)) 1 6 (-1)) 2 3 (nI (pw_tB A (pw_tE A e)))) 2 2 (pw_tT A (pw_tE A e))) 2 4 (nI (pw_tE A (pw_tE A e)))) 1 5 (pw_tN A (pw_tE A e))) 2 3 (nI (pw_tB A (pw_tE A (pw_tE A e))))) 2 2 (pw_tT A (pw_tE A (pw_tE A e)))) 2 4 (nI (pw_tE A (pw_tE A (pw_tE A e))))) 1 6 (pw_tN A (pw_tE A (pw_tE A e))))
                refine pw_ic_gt (tgt := 181) (off := 23) (by decide +kernel) (by decide) (fun h158 => ?_) (fun h158 => ?_)
                · refine pw_blk (pc' := 182) [.iconst 0] (by decide +kernel) ?_
                  show pw_V x m_X2_readClause 2 Z 182 [(1, .int (nI (pw_nb s20))), (0, .ref 1)] [.int (nI 0)] (pw_up (pw_up (pw_up (pw_up (pw_up (pw_up (pw_up (pw_up (pw_up (pw_up (pw_up (pw_up (pw_up (pw_up mm 2 3 (nI (pw_tB A e))) 2 2 (pw_tT A e)) 2 4 (nI (pw_tE A e))) 1 4 (nI s20)) 1 5 (-1)) 1 6 (-1)) 2 3 (nI (pw_tB A (pw_tE A e)))) 2 2 (pw_tT A (pw_tE A e))) 2 4 (nI (pw_tE A (pw_tE A e)))) 1 5 (pw_tN A (pw_tE A e))) 2 3 (nI (pw_tB A (pw_tE A (pw_tE A e))))) 2 2 (pw_tT A (pw_tE A (pw_tE A e)))) 2 4 (nI (pw_tE A (pw_tE A (pw_tE A e))))) 1 6 (pw_tN A (pw_tE A (pw_tE A e))))
                  rw [← hZ]
                  refine pw_rz (by decide +kernel) (Or.inl rfl) ?_
                  have b20 := pw_tW_b h20
                  have hcl : pw_cz A s k e = ((pw_tE A (pw_tE A e)), none) := by
                    unfold pw_cz
                    rw [h20]
                    dsimp only
                    rw [if_neg (fun z => by rw [h30] at z; exact absurd z.1 (by decide)), if_neg (by omega), if_pos (show pw_rgb _ _ _ = true from decide_eq_true ⟨h96, h111⟩), if_neg (by omega), if_neg (fun z => absurd h158 (Int32.not_lt.mpr (of_decide_eq_true z.1).2))]
                  exact (by have z := pw_rc_no (mm := mm) (B := (pw_up (pw_up (pw_up (pw_up (pw_up (pw_up (pw_up (pw_up (pw_up (pw_up (pw_up (pw_up (pw_up (pw_up mm 2 3 (nI (pw_tB A e))) 2 2 (pw_tT A e)) 2 4 (nI (pw_tE A e))) 1 4 (nI s20)) 1 5 (-1)) 1 6 (-1)) 2 3 (nI (pw_tB A (pw_tE A e)))) 2 2 (pw_tT A (pw_tE A e))) 2 4 (nI (pw_tE A (pw_tE A e)))) 1 5 (pw_tN A (pw_tE A e))) 2 3 (nI (pw_tB A (pw_tE A (pw_tE A e))))) 2 2 (pw_tT A (pw_tE A (pw_tE A e)))) 2 4 (nI (pw_tE A (pw_tE A (pw_tE A e))))) 1 6 (pw_tN A (pw_tE A (pw_tE A e))))) hcl (fun c q1 q2 => by simp only [pw_up, q1, q2, if_false]) rfl rfl rfl rfl; exact ⟨by rw [z.1]; rfl, z.2⟩)
                · refine pw_blk (pc' := 167) [.aload 0, .getfield 204, .iconst (8)] (by decide +kernel) ?_
                  show pw_V x m_X2_readClause 2 Z 167 [(1, .int (nI (pw_nb s20))), (0, .ref 1)] [.int (nI 8), .int (nI s20)] (pw_up (pw_up (pw_up (pw_up (pw_up (pw_up (pw_up (pw_up (pw_up (pw_up (pw_up (pw_up (pw_up (pw_up mm 2 3 (nI (pw_tB A e))) 2 2 (pw_tT A e)) 2 4 (nI (pw_tE A e))) 1 4 (nI s20)) 1 5 (-1)) 1 6 (-1)) 2 3 (nI (pw_tB A (pw_tE A e)))) 2 2 (pw_tT A (pw_tE A e))) 2 4 (nI (pw_tE A (pw_tE A e)))) 1 5 (pw_tN A (pw_tE A e))) 2 3 (nI (pw_tB A (pw_tE A (pw_tE A e))))) 2 2 (pw_tT A (pw_tE A (pw_tE A e)))) 2 4 (nI (pw_tE A (pw_tE A (pw_tE A e))))) 1 6 (pw_tN A (pw_tE A (pw_tE A e))))
                  refine pw_in_ne (tgt := 183) (off := 16) (by omega) (by omega) (by decide +kernel) (by decide) (fun h167 => ?_) (fun h167 => ?_)
                  · refine pw_blk (pc' := 184) [.aload 0] (by decide +kernel) ?_
                    show pw_V x m_X2_readClause 2 Z 184 [(1, .int (nI (pw_nb s20))), (0, .ref 1)] [.ref 1] (pw_up (pw_up (pw_up (pw_up (pw_up (pw_up (pw_up (pw_up (pw_up (pw_up (pw_up (pw_up (pw_up (pw_up mm 2 3 (nI (pw_tB A e))) 2 2 (pw_tT A e)) 2 4 (nI (pw_tE A e))) 1 4 (nI s20)) 1 5 (-1)) 1 6 (-1)) 2 3 (nI (pw_tB A (pw_tE A e)))) 2 2 (pw_tT A (pw_tE A e))) 2 4 (nI (pw_tE A (pw_tE A e)))) 1 5 (pw_tN A (pw_tE A e))) 2 3 (nI (pw_tB A (pw_tE A (pw_tE A e))))) 2 2 (pw_tT A (pw_tE A (pw_tE A e)))) 2 4 (nI (pw_tE A (pw_tE A (pw_tE A e))))) 1 6 (pw_tN A (pw_tE A (pw_tE A e))))
                    refine pw_cV (vs := []) (rest := []) k_X2_tally (c_tally (pw_up (pw_up (pw_up (pw_up (pw_up (pw_up (pw_up (pw_up (pw_up (pw_up (pw_up (pw_up (pw_up (pw_up mm 2 3 (nI (pw_tB A e))) 2 2 (pw_tT A e)) 2 4 (nI (pw_tE A e))) 1 4 (nI s20)) 1 5 (-1)) 1 6 (-1)) 2 3 (nI (pw_tB A (pw_tE A e)))) 2 2 (pw_tT A (pw_tE A e))) 2 4 (nI (pw_tE A (pw_tE A e)))) 1 5 (pw_tN A (pw_tE A e))) 2 3 (nI (pw_tB A (pw_tE A (pw_tE A e))))) 2 2 (pw_tT A (pw_tE A (pw_tE A e)))) 2 4 (nI (pw_tE A (pw_tE A (pw_tE A e))))) 1 6 (pw_tN A (pw_tE A (pw_tE A e))))) l_2_88 rfl rfl rfl rfl (by omega) (Nat.le_of_ble_eq_true rfl) (by decide +kernel) ?_
                    rintro _ m1 ⟨rfl, e1⟩
                    rw [e1]
                    clear e1 m1
                    show pw_V x m_X2_readClause 2 Z 187 [(1, .int (nI (pw_nb s20))), (0, .ref 1)] [] (G_tal (pw_up (pw_up (pw_up (pw_up (pw_up (pw_up (pw_up (pw_up (pw_up (pw_up (pw_up (pw_up (pw_up (pw_up mm 2 3 (nI (pw_tB A e))) 2 2 (pw_tT A e)) 2 4 (nI (pw_tE A e))) 1 4 (nI s20)) 1 5 (-1)) 1 6 (-1)) 2 3 (nI (pw_tB A (pw_tE A e)))) 2 2 (pw_tT A (pw_tE A e))) 2 4 (nI (pw_tE A (pw_tE A e)))) 1 5 (pw_tN A (pw_tE A e))) 2 3 (nI (pw_tB A (pw_tE A (pw_tE A e))))) 2 2 (pw_tT A (pw_tE A (pw_tE A e)))) 2 4 (nI (pw_tE A (pw_tE A (pw_tE A e))))) 1 6 (pw_tN A (pw_tE A (pw_tE A e)))))
                    refine pw_blk (pc' := 188) [.iconst 1] (by decide +kernel) ?_
                    show pw_V x m_X2_readClause 2 Z 188 [(1, .int (nI (pw_nb s20))), (0, .ref 1)] [.int (nI 1)] (G_tal (pw_up (pw_up (pw_up (pw_up (pw_up (pw_up (pw_up (pw_up (pw_up (pw_up (pw_up (pw_up (pw_up (pw_up mm 2 3 (nI (pw_tB A e))) 2 2 (pw_tT A e)) 2 4 (nI (pw_tE A e))) 1 4 (nI s20)) 1 5 (-1)) 1 6 (-1)) 2 3 (nI (pw_tB A (pw_tE A e)))) 2 2 (pw_tT A (pw_tE A e))) 2 4 (nI (pw_tE A (pw_tE A e)))) 1 5 (pw_tN A (pw_tE A e))) 2 3 (nI (pw_tB A (pw_tE A (pw_tE A e))))) 2 2 (pw_tT A (pw_tE A (pw_tE A e)))) 2 4 (nI (pw_tE A (pw_tE A (pw_tE A e))))) 1 6 (pw_tN A (pw_tE A (pw_tE A e)))))
                    rw [← hZ]
                    refine pw_rz (by decide +kernel) (Or.inr rfl) ?_
                    have b20 := pw_tW_b h20
                    have hcl : pw_cz A s k e = ((pw_tE A (pw_tE A e)), some (s20, pw_c (pw_tN A (pw_tE A e)), pw_c (pw_tN A (pw_tE A (pw_tE A e))))) := by
                      unfold pw_cz
                      rw [h20]
                      dsimp only
                      rw [if_neg (fun z => by rw [h30] at z; exact absurd z.1 (by decide)), if_neg (by omega), if_pos (show pw_rgb _ _ _ = true from decide_eq_true ⟨h96, h111⟩), if_neg (by omega), if_pos ⟨show pw_rgb _ _ _ = true from decide_eq_true ⟨h143, Int32.not_lt.mp h158⟩, fun z => absurd z.1 h167⟩]
                    exact (by have z := pw_rc_ok (mm := mm) (B := (pw_up (pw_up (pw_up (pw_up (pw_up (pw_up (pw_up (pw_up (pw_up (pw_up (pw_up (pw_up (pw_up (pw_up mm 2 3 (nI (pw_tB A e))) 2 2 (pw_tT A e)) 2 4 (nI (pw_tE A e))) 1 4 (nI s20)) 1 5 (-1)) 1 6 (-1)) 2 3 (nI (pw_tB A (pw_tE A e)))) 2 2 (pw_tT A (pw_tE A e))) 2 4 (nI (pw_tE A (pw_tE A e)))) 1 5 (pw_tN A (pw_tE A e))) 2 3 (nI (pw_tB A (pw_tE A (pw_tE A e))))) 2 2 (pw_tT A (pw_tE A (pw_tE A e)))) 2 4 (nI (pw_tE A (pw_tE A (pw_tE A e))))) 1 6 (pw_tN A (pw_tE A (pw_tE A e))))) hcl b20 (fun c q1 q2 => by simp only [pw_up, q1, q2, if_false]) rfl rfl rfl rfl rfl (by rw [if_neg (by omega)]; exact pw_rgc (show pw_rgb (pw_le_ s20) (pw_mf s k s20) _ = true from decide_eq_true ⟨h96, h111⟩) (pw_le_b s20) (pw_mf_b s20 hs8 hk6)) (by rw [if_neg (by omega)]; exact pw_rgc (show pw_rgb 0 (pw_ms k s20) _ = true from decide_eq_true ⟨h143, Int32.not_lt.mp h158⟩) (by omega) (pw_ms_b s20 hk6)) hs hk; exact ⟨by rw [z.1]; rfl, z.2⟩)
                  · refine pw_blk (pc' := 178) [.aload 0, .getfield 206, .aload 0, .getfield 205] (by decide +kernel) ?_
                    show pw_V x m_X2_readClause 2 Z 178 [(1, .int (nI (pw_nb s20))), (0, .ref 1)] [.int (pw_tN A (pw_tE A e)), .int (pw_tN A (pw_tE A (pw_tE A e)))] (pw_up (pw_up (pw_up (pw_up (pw_up (pw_up (pw_up (pw_up (pw_up (pw_up (pw_up (pw_up (pw_up (pw_up mm 2 3 (nI (pw_tB A e))) 2 2 (pw_tT A e)) 2 4 (nI (pw_tE A e))) 1 4 (nI s20)) 1 5 (-1)) 1 6 (-1)) 2 3 (nI (pw_tB A (pw_tE A e)))) 2 2 (pw_tT A (pw_tE A e))) 2 4 (nI (pw_tE A (pw_tE A e)))) 1 5 (pw_tN A (pw_tE A e))) 2 3 (nI (pw_tB A (pw_tE A (pw_tE A e))))) 2 2 (pw_tT A (pw_tE A (pw_tE A e)))) 2 4 (nI (pw_tE A (pw_tE A (pw_tE A e))))) 1 6 (pw_tN A (pw_tE A (pw_tE A e))))
                    refine pw_ic_ne (tgt := 183) (off := 5) (by decide +kernel) (by decide) (fun h178 => ?_) (fun h178 => ?_)
                    · refine pw_blk (pc' := 184) [.aload 0] (by decide +kernel) ?_
                      show pw_V x m_X2_readClause 2 Z 184 [(1, .int (nI (pw_nb s20))), (0, .ref 1)] [.ref 1] (pw_up (pw_up (pw_up (pw_up (pw_up (pw_up (pw_up (pw_up (pw_up (pw_up (pw_up (pw_up (pw_up (pw_up mm 2 3 (nI (pw_tB A e))) 2 2 (pw_tT A e)) 2 4 (nI (pw_tE A e))) 1 4 (nI s20)) 1 5 (-1)) 1 6 (-1)) 2 3 (nI (pw_tB A (pw_tE A e)))) 2 2 (pw_tT A (pw_tE A e))) 2 4 (nI (pw_tE A (pw_tE A e)))) 1 5 (pw_tN A (pw_tE A e))) 2 3 (nI (pw_tB A (pw_tE A (pw_tE A e))))) 2 2 (pw_tT A (pw_tE A (pw_tE A e)))) 2 4 (nI (pw_tE A (pw_tE A (pw_tE A e))))) 1 6 (pw_tN A (pw_tE A (pw_tE A e))))
                      refine pw_cV (vs := []) (rest := []) k_X2_tally (c_tally (pw_up (pw_up (pw_up (pw_up (pw_up (pw_up (pw_up (pw_up (pw_up (pw_up (pw_up (pw_up (pw_up (pw_up mm 2 3 (nI (pw_tB A e))) 2 2 (pw_tT A e)) 2 4 (nI (pw_tE A e))) 1 4 (nI s20)) 1 5 (-1)) 1 6 (-1)) 2 3 (nI (pw_tB A (pw_tE A e)))) 2 2 (pw_tT A (pw_tE A e))) 2 4 (nI (pw_tE A (pw_tE A e)))) 1 5 (pw_tN A (pw_tE A e))) 2 3 (nI (pw_tB A (pw_tE A (pw_tE A e))))) 2 2 (pw_tT A (pw_tE A (pw_tE A e)))) 2 4 (nI (pw_tE A (pw_tE A (pw_tE A e))))) 1 6 (pw_tN A (pw_tE A (pw_tE A e))))) l_2_88 rfl rfl rfl rfl (by omega) (Nat.le_of_ble_eq_true rfl) (by decide +kernel) ?_
                      rintro _ m1 ⟨rfl, e1⟩
                      rw [e1]
                      clear e1 m1
                      show pw_V x m_X2_readClause 2 Z 187 [(1, .int (nI (pw_nb s20))), (0, .ref 1)] [] (G_tal (pw_up (pw_up (pw_up (pw_up (pw_up (pw_up (pw_up (pw_up (pw_up (pw_up (pw_up (pw_up (pw_up (pw_up mm 2 3 (nI (pw_tB A e))) 2 2 (pw_tT A e)) 2 4 (nI (pw_tE A e))) 1 4 (nI s20)) 1 5 (-1)) 1 6 (-1)) 2 3 (nI (pw_tB A (pw_tE A e)))) 2 2 (pw_tT A (pw_tE A e))) 2 4 (nI (pw_tE A (pw_tE A e)))) 1 5 (pw_tN A (pw_tE A e))) 2 3 (nI (pw_tB A (pw_tE A (pw_tE A e))))) 2 2 (pw_tT A (pw_tE A (pw_tE A e)))) 2 4 (nI (pw_tE A (pw_tE A (pw_tE A e))))) 1 6 (pw_tN A (pw_tE A (pw_tE A e)))))
                      refine pw_blk (pc' := 188) [.iconst 1] (by decide +kernel) ?_
                      show pw_V x m_X2_readClause 2 Z 188 [(1, .int (nI (pw_nb s20))), (0, .ref 1)] [.int (nI 1)] (G_tal (pw_up (pw_up (pw_up (pw_up (pw_up (pw_up (pw_up (pw_up (pw_up (pw_up (pw_up (pw_up (pw_up (pw_up mm 2 3 (nI (pw_tB A e))) 2 2 (pw_tT A e)) 2 4 (nI (pw_tE A e))) 1 4 (nI s20)) 1 5 (-1)) 1 6 (-1)) 2 3 (nI (pw_tB A (pw_tE A e)))) 2 2 (pw_tT A (pw_tE A e))) 2 4 (nI (pw_tE A (pw_tE A e)))) 1 5 (pw_tN A (pw_tE A e))) 2 3 (nI (pw_tB A (pw_tE A (pw_tE A e))))) 2 2 (pw_tT A (pw_tE A (pw_tE A e)))) 2 4 (nI (pw_tE A (pw_tE A (pw_tE A e))))) 1 6 (pw_tN A (pw_tE A (pw_tE A e)))))
                      rw [← hZ]
                      refine pw_rz (by decide +kernel) (Or.inr rfl) ?_
                      have b20 := pw_tW_b h20
                      have hcl : pw_cz A s k e = ((pw_tE A (pw_tE A e)), some (s20, pw_c (pw_tN A (pw_tE A e)), pw_c (pw_tN A (pw_tE A (pw_tE A e))))) := by
                        unfold pw_cz
                        rw [h20]
                        dsimp only
                        rw [if_neg (fun z => by rw [h30] at z; exact absurd z.1 (by decide)), if_neg (by omega), if_pos (show pw_rgb _ _ _ = true from decide_eq_true ⟨h96, h111⟩), if_neg (by omega), if_pos ⟨show pw_rgb _ _ _ = true from decide_eq_true ⟨h143, Int32.not_lt.mp h158⟩, fun z => absurd z.2 h178⟩]
                      exact (by have z := pw_rc_ok (mm := mm) (B := (pw_up (pw_up (pw_up (pw_up (pw_up (pw_up (pw_up (pw_up (pw_up (pw_up (pw_up (pw_up (pw_up (pw_up mm 2 3 (nI (pw_tB A e))) 2 2 (pw_tT A e)) 2 4 (nI (pw_tE A e))) 1 4 (nI s20)) 1 5 (-1)) 1 6 (-1)) 2 3 (nI (pw_tB A (pw_tE A e)))) 2 2 (pw_tT A (pw_tE A e))) 2 4 (nI (pw_tE A (pw_tE A e)))) 1 5 (pw_tN A (pw_tE A e))) 2 3 (nI (pw_tB A (pw_tE A (pw_tE A e))))) 2 2 (pw_tT A (pw_tE A (pw_tE A e)))) 2 4 (nI (pw_tE A (pw_tE A (pw_tE A e))))) 1 6 (pw_tN A (pw_tE A (pw_tE A e))))) hcl b20 (fun c q1 q2 => by simp only [pw_up, q1, q2, if_false]) rfl rfl rfl rfl rfl (by rw [if_neg (by omega)]; exact pw_rgc (show pw_rgb (pw_le_ s20) (pw_mf s k s20) _ = true from decide_eq_true ⟨h96, h111⟩) (pw_le_b s20) (pw_mf_b s20 hs8 hk6)) (by rw [if_neg (by omega)]; exact pw_rgc (show pw_rgb 0 (pw_ms k s20) _ = true from decide_eq_true ⟨h143, Int32.not_lt.mp h158⟩) (by omega) (pw_ms_b s20 hk6)) hs hk; exact ⟨by rw [z.1]; rfl, z.2⟩)
                    · refine pw_blk (pc' := 182) [.iconst 0] (by decide +kernel) ?_
                      show pw_V x m_X2_readClause 2 Z 182 [(1, .int (nI (pw_nb s20))), (0, .ref 1)] [.int (nI 0)] (pw_up (pw_up (pw_up (pw_up (pw_up (pw_up (pw_up (pw_up (pw_up (pw_up (pw_up (pw_up (pw_up (pw_up mm 2 3 (nI (pw_tB A e))) 2 2 (pw_tT A e)) 2 4 (nI (pw_tE A e))) 1 4 (nI s20)) 1 5 (-1)) 1 6 (-1)) 2 3 (nI (pw_tB A (pw_tE A e)))) 2 2 (pw_tT A (pw_tE A e))) 2 4 (nI (pw_tE A (pw_tE A e)))) 1 5 (pw_tN A (pw_tE A e))) 2 3 (nI (pw_tB A (pw_tE A (pw_tE A e))))) 2 2 (pw_tT A (pw_tE A (pw_tE A e)))) 2 4 (nI (pw_tE A (pw_tE A (pw_tE A e))))) 1 6 (pw_tN A (pw_tE A (pw_tE A e))))
                      rw [← hZ]
                      refine pw_rz (by decide +kernel) (Or.inl rfl) ?_
                      have b20 := pw_tW_b h20
                      have hcl : pw_cz A s k e = ((pw_tE A (pw_tE A e)), none) := by
                        unfold pw_cz
                        rw [h20]
                        dsimp only
                        rw [if_neg (fun z => by rw [h30] at z; exact absurd z.1 (by decide)), if_neg (by omega), if_pos (show pw_rgb _ _ _ = true from decide_eq_true ⟨h96, h111⟩), if_neg (by omega), if_neg (fun z => z.2 ⟨h167, h178⟩)]
                      exact (by have z := pw_rc_no (mm := mm) (B := (pw_up (pw_up (pw_up (pw_up (pw_up (pw_up (pw_up (pw_up (pw_up (pw_up (pw_up (pw_up (pw_up (pw_up mm 2 3 (nI (pw_tB A e))) 2 2 (pw_tT A e)) 2 4 (nI (pw_tE A e))) 1 4 (nI s20)) 1 5 (-1)) 1 6 (-1)) 2 3 (nI (pw_tB A (pw_tE A e)))) 2 2 (pw_tT A (pw_tE A e))) 2 4 (nI (pw_tE A (pw_tE A e)))) 1 5 (pw_tN A (pw_tE A e))) 2 3 (nI (pw_tB A (pw_tE A (pw_tE A e))))) 2 2 (pw_tT A (pw_tE A (pw_tE A e)))) 2 4 (nI (pw_tE A (pw_tE A (pw_tE A e))))) 1 6 (pw_tN A (pw_tE A (pw_tE A e))))) hcl (fun c q1 q2 => by simp only [pw_up, q1, q2, if_false]) rfl rfl rfl rfl; exact ⟨by rw [z.1]; rfl, z.2⟩)
          · refine pw_blk (pc' := 115) [.iconst 0] (by decide +kernel) ?_
            show pw_V x m_X2_readClause 2 Z 115 [(1, .int (nI (pw_nb s20))), (0, .ref 1)] [.int (nI 0)] (pw_up (pw_up (pw_up (pw_up (pw_up (pw_up (pw_up (pw_up (pw_up (pw_up mm 2 3 (nI (pw_tB A e))) 2 2 (pw_tT A e)) 2 4 (nI (pw_tE A e))) 1 4 (nI s20)) 1 5 (-1)) 1 6 (-1)) 2 3 (nI (pw_tB A (pw_tE A e)))) 2 2 (pw_tT A (pw_tE A e))) 2 4 (nI (pw_tE A (pw_tE A e)))) 1 5 (pw_tN A (pw_tE A e)))
            rw [← hZ]
            refine pw_rz (by decide +kernel) (Or.inl rfl) ?_
            have b20 := pw_tW_b h20
            have hcl : pw_cz A s k e = ((pw_tE A e), none) := by
              unfold pw_cz
              rw [h20]
              dsimp only
              rw [if_neg (fun z => by rw [h30] at z; exact absurd z.1 (by decide)), if_neg (by omega), if_neg (fun z => h111 (of_decide_eq_true z).2)]
            exact (by have z := pw_rc_no (mm := mm) (B := (pw_up (pw_up (pw_up (pw_up (pw_up (pw_up (pw_up (pw_up (pw_up (pw_up mm 2 3 (nI (pw_tB A e))) 2 2 (pw_tT A e)) 2 4 (nI (pw_tE A e))) 1 4 (nI s20)) 1 5 (-1)) 1 6 (-1)) 2 3 (nI (pw_tB A (pw_tE A e)))) 2 2 (pw_tT A (pw_tE A e))) 2 4 (nI (pw_tE A (pw_tE A e)))) 1 5 (pw_tN A (pw_tE A e)))) hcl (fun c q1 q2 => by simp only [pw_up, q1, q2, if_false]) rfl rfl rfl rfl; exact ⟨by rw [z.1]; rfl, z.2⟩)
    · refine pw_blk (pc' := 39) [.aload 0, .getfield 203, .iconst (6)] (by decide +kernel) ?_
      show pw_V x m_X2_readClause 2 Z 39 [(0, .ref 1)] [.int (nI 6), .int (mm 1 3)] (pw_up (pw_up (pw_up (pw_up mm 2 3 (nI (pw_tB A e))) 2 2 (pw_tT A e)) 2 4 (nI (pw_tE A e))) 1 4 (nI s20))
      rw [show mm 1 3 = nI k from hk]
      refine pw_in_lt (tgt := 44) (off := 5) (by omega) (by omega) (by decide +kernel) (by decide) (fun h39 => ?_) (fun h39 => ?_)
      · refine pw_blk (pc' := 58) [.aload 0, .iconst (-1), .putfield 205, .aload 0, .iconst (-1), .putfield 206, .aload 0, .getfield 204] (by decide +kernel) ?_
        show pw_V x m_X2_readClause 2 Z 58 [(0, .ref 1)] [.int (nI s20)] (pw_up (pw_up (pw_up (pw_up (pw_up (pw_up mm 2 3 (nI (pw_tB A e))) 2 2 (pw_tT A e)) 2 4 (nI (pw_tE A e))) 1 4 (nI s20)) 1 5 (-1)) 1 6 (-1))
        refine pw_cS (vs := [.int (nI s20)]) (rest := []) k_X2_numbersBehind (c_nb s20 b20 (pw_up (pw_up (pw_up (pw_up (pw_up (pw_up mm 2 3 (nI (pw_tB A e))) 2 2 (pw_tT A e)) 2 4 (nI (pw_tE A e))) 1 4 (nI s20)) 1 5 (-1)) 1 6 (-1))) l_2_72 rfl (by omega) (Nat.le_of_ble_eq_true rfl) (by decide +kernel) ?_
        rintro _ m1 ⟨rfl, e1⟩
        rw [e1]
        clear e1 m1
        show pw_V x m_X2_readClause 2 Z 61 [(0, .ref 1)] [.int (nI (pw_nb s20))] (pw_up (pw_up (pw_up (pw_up (pw_up (pw_up mm 2 3 (nI (pw_tB A e))) 2 2 (pw_tT A e)) 2 4 (nI (pw_tE A e))) 1 4 (nI s20)) 1 5 (-1)) 1 6 (-1))
        have bnb := pw_nb_b s20
        refine pw_blk (pc' := 64) [.istore 1, .iload 1, .iconst 1] (by decide +kernel) ?_
        show pw_V x m_X2_readClause 2 Z 64 [(1, .int (nI (pw_nb s20))), (0, .ref 1)] [.int (nI 1), .int (nI (pw_nb s20))] (pw_up (pw_up (pw_up (pw_up (pw_up (pw_up mm 2 3 (nI (pw_tB A e))) 2 2 (pw_tT A e)) 2 4 (nI (pw_tE A e))) 1 4 (nI s20)) 1 5 (-1)) 1 6 (-1))
        refine pw_in_lt (tgt := 116) (off := 52) (by omega) (by omega) (by decide +kernel) (by decide) (fun h64 => ?_) (fun h64 => ?_)
        · refine pw_blk (pc' := 118) [.iload 1, .iconst 2] (by decide +kernel) ?_
          show pw_V x m_X2_readClause 2 Z 118 [(1, .int (nI (pw_nb s20))), (0, .ref 1)] [.int (nI 2), .int (nI (pw_nb s20))] (pw_up (pw_up (pw_up (pw_up (pw_up (pw_up mm 2 3 (nI (pw_tB A e))) 2 2 (pw_tT A e)) 2 4 (nI (pw_tE A e))) 1 4 (nI s20)) 1 5 (-1)) 1 6 (-1))
          refine pw_in_lt (tgt := 183) (off := 65) (by omega) (by omega) (by decide +kernel) (by decide) (fun h118 => ?_) (fun h118 => ?_)
          · refine pw_blk (pc' := 184) [.aload 0] (by decide +kernel) ?_
            show pw_V x m_X2_readClause 2 Z 184 [(1, .int (nI (pw_nb s20))), (0, .ref 1)] [.ref 1] (pw_up (pw_up (pw_up (pw_up (pw_up (pw_up mm 2 3 (nI (pw_tB A e))) 2 2 (pw_tT A e)) 2 4 (nI (pw_tE A e))) 1 4 (nI s20)) 1 5 (-1)) 1 6 (-1))
            refine pw_cV (vs := []) (rest := []) k_X2_tally (c_tally (pw_up (pw_up (pw_up (pw_up (pw_up (pw_up mm 2 3 (nI (pw_tB A e))) 2 2 (pw_tT A e)) 2 4 (nI (pw_tE A e))) 1 4 (nI s20)) 1 5 (-1)) 1 6 (-1))) l_2_88 rfl rfl rfl rfl (by omega) (Nat.le_of_ble_eq_true rfl) (by decide +kernel) ?_
            rintro _ m1 ⟨rfl, e1⟩
            rw [e1]
            clear e1 m1
            show pw_V x m_X2_readClause 2 Z 187 [(1, .int (nI (pw_nb s20))), (0, .ref 1)] [] (G_tal (pw_up (pw_up (pw_up (pw_up (pw_up (pw_up mm 2 3 (nI (pw_tB A e))) 2 2 (pw_tT A e)) 2 4 (nI (pw_tE A e))) 1 4 (nI s20)) 1 5 (-1)) 1 6 (-1)))
            refine pw_blk (pc' := 188) [.iconst 1] (by decide +kernel) ?_
            show pw_V x m_X2_readClause 2 Z 188 [(1, .int (nI (pw_nb s20))), (0, .ref 1)] [.int (nI 1)] (G_tal (pw_up (pw_up (pw_up (pw_up (pw_up (pw_up mm 2 3 (nI (pw_tB A e))) 2 2 (pw_tT A e)) 2 4 (nI (pw_tE A e))) 1 4 (nI s20)) 1 5 (-1)) 1 6 (-1)))
            rw [← hZ]
            refine pw_rz (by decide +kernel) (Or.inr rfl) ?_
            have b20 := pw_tW_b h20
            have hcl : pw_cz A s k e = (e, some (s20, 0, 0)) := by
              unfold pw_cz
              rw [h20]
              dsimp only
              rw [if_neg (fun z => absurd z.2 (by omega)), if_pos h64]
            exact (by have z := pw_rc_ok (mm := mm) (B := (pw_up (pw_up (pw_up (pw_up (pw_up (pw_up mm 2 3 (nI (pw_tB A e))) 2 2 (pw_tT A e)) 2 4 (nI (pw_tE A e))) 1 4 (nI s20)) 1 5 (-1)) 1 6 (-1))) hcl b20 (fun c q1 q2 => by simp only [pw_up, q1, q2, if_false]) rfl rfl rfl rfl rfl (by rw [if_pos h64]; rfl) (by rw [if_pos (by omega)]; rfl) hs hk; exact ⟨by rw [z.1]; rfl, z.2⟩)
          · omega
        · refine pw_blk (pc' := 71) [.aload 0, .getfield 200] (by decide +kernel) ?_
          show pw_V x m_X2_readClause 2 Z 71 [(1, .int (nI (pw_nb s20))), (0, .ref 1)] [.ref 2] (pw_up (pw_up (pw_up (pw_up (pw_up (pw_up mm 2 3 (nI (pw_tB A e))) 2 2 (pw_tT A e)) 2 4 (nI (pw_tE A e))) 1 4 (nI s20)) 1 5 (-1)) 1 6 (-1))
          refine pw_cV (vs := []) (rest := []) k_X3_advance (c_adv (pw_up (pw_up (pw_up (pw_up (pw_up (pw_up mm 2 3 (nI (pw_tB A e))) 2 2 (pw_tT A e)) 2 4 (nI (pw_tE A e))) 1 4 (nI s20)) 1 5 (-1)) 1 6 (-1)) (pw_tx_u (pw_tx_u (pw_tx_u (pw_tx_u (pw_tx_u (pw_tx_u htx (by decide)) (by decide)) (by decide)) (by decide)) (by decide)) (by decide)) hx bwr (pw_tE A e) rfl (by omega)) l_2_55 rfl rfl rfl rfl (by omega) (Nat.le_of_ble_eq_true rfl) (by decide +kernel) ?_
          rintro _ m1 ⟨rfl, e1⟩
          rw [e1]
          clear e1 m1
          show pw_V x m_X2_readClause 2 Z 74 [(1, .int (nI (pw_nb s20))), (0, .ref 1)] [] (pw_up (pw_up (pw_up (pw_up (pw_up (pw_up (pw_up (pw_up (pw_up mm 2 3 (nI (pw_tB A e))) 2 2 (pw_tT A e)) 2 4 (nI (pw_tE A e))) 1 4 (nI s20)) 1 5 (-1)) 1 6 (-1)) 2 3 (nI (pw_tB A (pw_tE A e)))) 2 2 (pw_tT A (pw_tE A e))) 2 4 (nI (pw_tE A (pw_tE A e))))
          have z71 := pw_tb1 (A := A) (e := (pw_tE A e)) (by omega)
          refine pw_blk (pc' := 79) [.aload 0, .aload 0, .getfield 200] (by decide +kernel) ?_
          show pw_V x m_X2_readClause 2 Z 79 [(1, .int (nI (pw_nb s20))), (0, .ref 1)] [.ref 2, .ref 1] (pw_up (pw_up (pw_up (pw_up (pw_up (pw_up (pw_up (pw_up (pw_up mm 2 3 (nI (pw_tB A e))) 2 2 (pw_tT A e)) 2 4 (nI (pw_tE A e))) 1 4 (nI s20)) 1 5 (-1)) 1 6 (-1)) 2 3 (nI (pw_tB A (pw_tE A e)))) 2 2 (pw_tT A (pw_tE A e))) 2 4 (nI (pw_tE A (pw_tE A e))))
          refine pw_cV (vs := []) (rest := [.ref 1]) k_X3_number (c_numb (pw_up (pw_up (pw_up (pw_up (pw_up (pw_up (pw_up (pw_up (pw_up mm 2 3 (nI (pw_tB A e))) 2 2 (pw_tT A e)) 2 4 (nI (pw_tE A e))) 1 4 (nI s20)) 1 5 (-1)) 1 6 (-1)) 2 3 (nI (pw_tB A (pw_tE A e)))) 2 2 (pw_tT A (pw_tE A e))) 2 4 (nI (pw_tE A (pw_tE A e)))) (pw_tx_u (pw_tx_u (pw_tx_u (pw_tx_u (pw_tx_u (pw_tx_u (pw_tx_u (pw_tx_u (pw_tx_u htx (by decide)) (by decide)) (by decide)) (by decide)) (by decide)) (by decide)) (by decide)) (by decide)) (by decide)) hx bwr (pw_tE A e) rfl rfl rfl (by omega)) l_2_76 rfl rfl rfl rfl (by omega) (Nat.le_of_ble_eq_true rfl) (by decide +kernel) ?_
          rintro _ m1 ⟨rfl, e1⟩
          rw [e1]
          clear e1 m1
          show pw_V x m_X2_readClause 2 Z 82 [(1, .int (nI (pw_nb s20))), (0, .ref 1)] [.int (pw_tN A (pw_tE A e)), .ref 1] (pw_up (pw_up (pw_up (pw_up (pw_up (pw_up (pw_up (pw_up (pw_up mm 2 3 (nI (pw_tB A e))) 2 2 (pw_tT A e)) 2 4 (nI (pw_tE A e))) 1 4 (nI s20)) 1 5 (-1)) 1 6 (-1)) 2 3 (nI (pw_tB A (pw_tE A e)))) 2 2 (pw_tT A (pw_tE A e))) 2 4 (nI (pw_tE A (pw_tE A e))))
          refine pw_blk (pc' := 93) [.putfield 205, .aload 0, .getfield 205, .aload 0, .getfield 204] (by decide +kernel) ?_
          show pw_V x m_X2_readClause 2 Z 93 [(1, .int (nI (pw_nb s20))), (0, .ref 1)] [.int (nI s20), .int (pw_tN A (pw_tE A e))] (pw_up (pw_up (pw_up (pw_up (pw_up (pw_up (pw_up (pw_up (pw_up (pw_up mm 2 3 (nI (pw_tB A e))) 2 2 (pw_tT A e)) 2 4 (nI (pw_tE A e))) 1 4 (nI s20)) 1 5 (-1)) 1 6 (-1)) 2 3 (nI (pw_tB A (pw_tE A e)))) 2 2 (pw_tT A (pw_tE A e))) 2 4 (nI (pw_tE A (pw_tE A e)))) 1 5 (pw_tN A (pw_tE A e)))
          refine pw_cS (vs := [.int (nI s20)]) (rest := [.int (pw_tN A (pw_tE A e))]) k_X2_leastNumber (c_ln s20 b20 (pw_up (pw_up (pw_up (pw_up (pw_up (pw_up (pw_up (pw_up (pw_up (pw_up mm 2 3 (nI (pw_tB A e))) 2 2 (pw_tT A e)) 2 4 (nI (pw_tE A e))) 1 4 (nI s20)) 1 5 (-1)) 1 6 (-1)) 2 3 (nI (pw_tB A (pw_tE A e)))) 2 2 (pw_tT A (pw_tE A e))) 2 4 (nI (pw_tE A (pw_tE A e)))) 1 5 (pw_tN A (pw_tE A e)))) l_2_79 rfl (by omega) (Nat.le_of_ble_eq_true rfl) (by decide +kernel) ?_
          rintro _ m1 ⟨rfl, e1⟩
          rw [e1]
          clear e1 m1
          show pw_V x m_X2_readClause 2 Z 96 [(1, .int (nI (pw_nb s20))), (0, .ref 1)] [.int (nI (pw_le_ s20)), .int (pw_tN A (pw_tE A e))] (pw_up (pw_up (pw_up (pw_up (pw_up (pw_up (pw_up (pw_up (pw_up (pw_up mm 2 3 (nI (pw_tB A e))) 2 2 (pw_tT A e)) 2 4 (nI (pw_tE A e))) 1 4 (nI s20)) 1 5 (-1)) 1 6 (-1)) 2 3 (nI (pw_tB A (pw_tE A e)))) 2 2 (pw_tT A (pw_tE A e))) 2 4 (nI (pw_tE A (pw_tE A e)))) 1 5 (pw_tN A (pw_tE A e)))
          refine pw_ic_lt (tgt := 114) (off := 18) (by decide +kernel) (by decide) (fun h96 => ?_) (fun h96 => ?_)
          · refine pw_blk (pc' := 115) [.iconst 0] (by decide +kernel) ?_
            show pw_V x m_X2_readClause 2 Z 115 [(1, .int (nI (pw_nb s20))), (0, .ref 1)] [.int (nI 0)] (pw_up (pw_up (pw_up (pw_up (pw_up (pw_up (pw_up (pw_up (pw_up (pw_up mm 2 3 (nI (pw_tB A e))) 2 2 (pw_tT A e)) 2 4 (nI (pw_tE A e))) 1 4 (nI s20)) 1 5 (-1)) 1 6 (-1)) 2 3 (nI (pw_tB A (pw_tE A e)))) 2 2 (pw_tT A (pw_tE A e))) 2 4 (nI (pw_tE A (pw_tE A e)))) 1 5 (pw_tN A (pw_tE A e)))
            rw [← hZ]
            refine pw_rz (by decide +kernel) (Or.inl rfl) ?_
            have b20 := pw_tW_b h20
            have hcl : pw_cz A s k e = ((pw_tE A e), none) := by
              unfold pw_cz
              rw [h20]
              dsimp only
              rw [if_neg (fun z => absurd z.2 (by omega)), if_neg (by omega), if_neg (fun z => absurd h96 (of_decide_eq_true z).1)]
            exact (by have z := pw_rc_no (mm := mm) (B := (pw_up (pw_up (pw_up (pw_up (pw_up (pw_up (pw_up (pw_up (pw_up (pw_up mm 2 3 (nI (pw_tB A e))) 2 2 (pw_tT A e)) 2 4 (nI (pw_tE A e))) 1 4 (nI s20)) 1 5 (-1)) 1 6 (-1)) 2 3 (nI (pw_tB A (pw_tE A e)))) 2 2 (pw_tT A (pw_tE A e))) 2 4 (nI (pw_tE A (pw_tE A e)))) 1 5 (pw_tN A (pw_tE A e)))) hcl (fun c q1 q2 => by simp only [pw_up, q1, q2, if_false]) rfl rfl rfl rfl; exact ⟨by rw [z.1]; rfl, z.2⟩)
          · refine pw_blk (pc' := 108) [.aload 0, .getfield 205, .aload 0, .aload 0, .getfield 204] (by decide +kernel) ?_
            show pw_V x m_X2_readClause 2 Z 108 [(1, .int (nI (pw_nb s20))), (0, .ref 1)] [.int (nI s20), .ref 1, .int (pw_tN A (pw_tE A e))] (pw_up (pw_up (pw_up (pw_up (pw_up (pw_up (pw_up (pw_up (pw_up (pw_up mm 2 3 (nI (pw_tB A e))) 2 2 (pw_tT A e)) 2 4 (nI (pw_tE A e))) 1 4 (nI s20)) 1 5 (-1)) 1 6 (-1)) 2 3 (nI (pw_tB A (pw_tE A e)))) 2 2 (pw_tT A (pw_tE A e))) 2 4 (nI (pw_tE A (pw_tE A e)))) 1 5 (pw_tN A (pw_tE A e)))
            refine pw_cV (vs := [.int (nI s20)]) (rest := [.int (pw_tN A (pw_tE A e))]) k_X2_mostFirst (c_mf s20 s k b20 (pw_up (pw_up (pw_up (pw_up (pw_up (pw_up (pw_up (pw_up (pw_up (pw_up mm 2 3 (nI (pw_tB A e))) 2 2 (pw_tT A e)) 2 4 (nI (pw_tE A e))) 1 4 (nI s20)) 1 5 (-1)) 1 6 (-1)) 2 3 (nI (pw_tB A (pw_tE A e)))) 2 2 (pw_tT A (pw_tE A e))) 2 4 (nI (pw_tE A (pw_tE A e)))) 1 5 (pw_tN A (pw_tE A e))) hs hk) l_2_82 rfl rfl rfl rfl (by omega) (Nat.le_of_ble_eq_true rfl) (by decide +kernel) ?_
            rintro _ m1 ⟨rfl, e1⟩
            rw [e1]
            clear e1 m1
            show pw_V x m_X2_readClause 2 Z 111 [(1, .int (nI (pw_nb s20))), (0, .ref 1)] [.int (nI (pw_mf s k s20) - nI 1), .int (pw_tN A (pw_tE A e))] (pw_up (pw_up (pw_up (pw_up (pw_up (pw_up (pw_up (pw_up (pw_up (pw_up mm 2 3 (nI (pw_tB A e))) 2 2 (pw_tT A e)) 2 4 (nI (pw_tE A e))) 1 4 (nI s20)) 1 5 (-1)) 1 6 (-1)) 2 3 (nI (pw_tB A (pw_tE A e)))) 2 2 (pw_tT A (pw_tE A e))) 2 4 (nI (pw_tE A (pw_tE A e)))) 1 5 (pw_tN A (pw_tE A e)))
            refine pw_ic_le (tgt := 116) (off := 5) (by decide +kernel) (by decide) (fun h111 => ?_) (fun h111 => ?_)
            · refine pw_blk (pc' := 118) [.iload 1, .iconst 2] (by decide +kernel) ?_
              show pw_V x m_X2_readClause 2 Z 118 [(1, .int (nI (pw_nb s20))), (0, .ref 1)] [.int (nI 2), .int (nI (pw_nb s20))] (pw_up (pw_up (pw_up (pw_up (pw_up (pw_up (pw_up (pw_up (pw_up (pw_up mm 2 3 (nI (pw_tB A e))) 2 2 (pw_tT A e)) 2 4 (nI (pw_tE A e))) 1 4 (nI s20)) 1 5 (-1)) 1 6 (-1)) 2 3 (nI (pw_tB A (pw_tE A e)))) 2 2 (pw_tT A (pw_tE A e))) 2 4 (nI (pw_tE A (pw_tE A e)))) 1 5 (pw_tN A (pw_tE A e)))
              refine pw_in_lt (tgt := 183) (off := 65) (by omega) (by omega) (by decide +kernel) (by decide) (fun h118 => ?_) (fun h118 => ?_)
              · refine pw_blk (pc' := 184) [.aload 0] (by decide +kernel) ?_
                show pw_V x m_X2_readClause 2 Z 184 [(1, .int (nI (pw_nb s20))), (0, .ref 1)] [.ref 1] (pw_up (pw_up (pw_up (pw_up (pw_up (pw_up (pw_up (pw_up (pw_up (pw_up mm 2 3 (nI (pw_tB A e))) 2 2 (pw_tT A e)) 2 4 (nI (pw_tE A e))) 1 4 (nI s20)) 1 5 (-1)) 1 6 (-1)) 2 3 (nI (pw_tB A (pw_tE A e)))) 2 2 (pw_tT A (pw_tE A e))) 2 4 (nI (pw_tE A (pw_tE A e)))) 1 5 (pw_tN A (pw_tE A e)))
                refine pw_cV (vs := []) (rest := []) k_X2_tally (c_tally (pw_up (pw_up (pw_up (pw_up (pw_up (pw_up (pw_up (pw_up (pw_up (pw_up mm 2 3 (nI (pw_tB A e))) 2 2 (pw_tT A e)) 2 4 (nI (pw_tE A e))) 1 4 (nI s20)) 1 5 (-1)) 1 6 (-1)) 2 3 (nI (pw_tB A (pw_tE A e)))) 2 2 (pw_tT A (pw_tE A e))) 2 4 (nI (pw_tE A (pw_tE A e)))) 1 5 (pw_tN A (pw_tE A e)))) l_2_88 rfl rfl rfl rfl (by omega) (Nat.le_of_ble_eq_true rfl) (by decide +kernel) ?_
                rintro _ m1 ⟨rfl, e1⟩
                rw [e1]
                clear e1 m1
                show pw_V x m_X2_readClause 2 Z 187 [(1, .int (nI (pw_nb s20))), (0, .ref 1)] [] (G_tal (pw_up (pw_up (pw_up (pw_up (pw_up (pw_up (pw_up (pw_up (pw_up (pw_up mm 2 3 (nI (pw_tB A e))) 2 2 (pw_tT A e)) 2 4 (nI (pw_tE A e))) 1 4 (nI s20)) 1 5 (-1)) 1 6 (-1)) 2 3 (nI (pw_tB A (pw_tE A e)))) 2 2 (pw_tT A (pw_tE A e))) 2 4 (nI (pw_tE A (pw_tE A e)))) 1 5 (pw_tN A (pw_tE A e))))
                refine pw_blk (pc' := 188) [.iconst 1] (by decide +kernel) ?_
                show pw_V x m_X2_readClause 2 Z 188 [(1, .int (nI (pw_nb s20))), (0, .ref 1)] [.int (nI 1)] (G_tal (pw_up (pw_up (pw_up (pw_up (pw_up (pw_up (pw_up (pw_up (pw_up (pw_up mm 2 3 (nI (pw_tB A e))) 2 2 (pw_tT A e)) 2 4 (nI (pw_tE A e))) 1 4 (nI s20)) 1 5 (-1)) 1 6 (-1)) 2 3 (nI (pw_tB A (pw_tE A e)))) 2 2 (pw_tT A (pw_tE A e))) 2 4 (nI (pw_tE A (pw_tE A e)))) 1 5 (pw_tN A (pw_tE A e))))
                rw [← hZ]
                refine pw_rz (by decide +kernel) (Or.inr rfl) ?_
                have b20 := pw_tW_b h20
                have hcl : pw_cz A s k e = ((pw_tE A e), some (s20, pw_c (pw_tN A (pw_tE A e)), 0)) := by
                  unfold pw_cz
                  rw [h20]
                  dsimp only
                  rw [if_neg (fun z => absurd z.2 (by omega)), if_neg (by omega), if_pos (show pw_rgb _ _ _ = true from decide_eq_true ⟨h96, h111⟩), if_pos h118]
                exact (by have z := pw_rc_ok (mm := mm) (B := (pw_up (pw_up (pw_up (pw_up (pw_up (pw_up (pw_up (pw_up (pw_up (pw_up mm 2 3 (nI (pw_tB A e))) 2 2 (pw_tT A e)) 2 4 (nI (pw_tE A e))) 1 4 (nI s20)) 1 5 (-1)) 1 6 (-1)) 2 3 (nI (pw_tB A (pw_tE A e)))) 2 2 (pw_tT A (pw_tE A e))) 2 4 (nI (pw_tE A (pw_tE A e)))) 1 5 (pw_tN A (pw_tE A e)))) hcl b20 (fun c q1 q2 => by simp only [pw_up, q1, q2, if_false]) rfl rfl rfl rfl rfl (by rw [if_neg (by omega)]; exact pw_rgc (show pw_rgb (pw_le_ s20) (pw_mf s k s20) _ = true from decide_eq_true ⟨h96, h111⟩) (pw_le_b s20) (pw_mf_b s20 hs8 hk6)) (by rw [if_pos (by omega)]; rfl) hs hk; exact ⟨by rw [z.1]; rfl, z.2⟩)
              · refine pw_blk (pc' := 125) [.aload 0, .getfield 200] (by decide +kernel) ?_
                show pw_V x m_X2_readClause 2 Z 125 [(1, .int (nI (pw_nb s20))), (0, .ref 1)] [.ref 2] (pw_up (pw_up (pw_up (pw_up (pw_up (pw_up (pw_up (pw_up (pw_up (pw_up mm 2 3 (nI (pw_tB A e))) 2 2 (pw_tT A e)) 2 4 (nI (pw_tE A e))) 1 4 (nI s20)) 1 5 (-1)) 1 6 (-1)) 2 3 (nI (pw_tB A (pw_tE A e)))) 2 2 (pw_tT A (pw_tE A e))) 2 4 (nI (pw_tE A (pw_tE A e)))) 1 5 (pw_tN A (pw_tE A e)))
                refine pw_cV (vs := []) (rest := []) k_X3_advance (c_adv (pw_up (pw_up (pw_up (pw_up (pw_up (pw_up (pw_up (pw_up (pw_up (pw_up mm 2 3 (nI (pw_tB A e))) 2 2 (pw_tT A e)) 2 4 (nI (pw_tE A e))) 1 4 (nI s20)) 1 5 (-1)) 1 6 (-1)) 2 3 (nI (pw_tB A (pw_tE A e)))) 2 2 (pw_tT A (pw_tE A e))) 2 4 (nI (pw_tE A (pw_tE A e)))) 1 5 (pw_tN A (pw_tE A e))) (pw_tx_u (pw_tx_u (pw_tx_u (pw_tx_u (pw_tx_u (pw_tx_u (pw_tx_u (pw_tx_u (pw_tx_u (pw_tx_u htx (by decide)) (by decide)) (by decide)) (by decide)) (by decide)) (by decide)) (by decide)) (by decide)) (by decide)) (by decide)) hx bwr (pw_tE A (pw_tE A e)) rfl (by omega)) l_2_55 rfl rfl rfl rfl (by omega) (Nat.le_of_ble_eq_true rfl) (by decide +kernel) ?_
                rintro _ m1 ⟨rfl, e1⟩
                rw [e1]
                clear e1 m1
                show pw_V x m_X2_readClause 2 Z 128 [(1, .int (nI (pw_nb s20))), (0, .ref 1)] [] (pw_up (pw_up (pw_up (pw_up (pw_up (pw_up (pw_up (pw_up (pw_up (pw_up (pw_up (pw_up (pw_up mm 2 3 (nI (pw_tB A e))) 2 2 (pw_tT A e)) 2 4 (nI (pw_tE A e))) 1 4 (nI s20)) 1 5 (-1)) 1 6 (-1)) 2 3 (nI (pw_tB A (pw_tE A e)))) 2 2 (pw_tT A (pw_tE A e))) 2 4 (nI (pw_tE A (pw_tE A e)))) 1 5 (pw_tN A (pw_tE A e))) 2 3 (nI (pw_tB A (pw_tE A (pw_tE A e))))) 2 2 (pw_tT A (pw_tE A (pw_tE A e)))) 2 4 (nI (pw_tE A (pw_tE A (pw_tE A e)))))
                have z125 := pw_tb1 (A := A) (e := (pw_tE A (pw_tE A e))) (by omega)
                refine pw_blk (pc' := 133) [.aload 0, .aload 0, .getfield 200] (by decide +kernel) ?_
                show pw_V x m_X2_readClause 2 Z 133 [(1, .int (nI (pw_nb s20))), (0, .ref 1)] [.ref 2, .ref 1] (pw_up (pw_up (pw_up (pw_up (pw_up (pw_up (pw_up (pw_up (pw_up (pw_up (pw_up (pw_up (pw_up mm 2 3 (nI (pw_tB A e))) 2 2 (pw_tT A e)) 2 4 (nI (pw_tE A e))) 1 4 (nI s20)) 1 5 (-1)) 1 6 (-1)) 2 3 (nI (pw_tB A (pw_tE A e)))) 2 2 (pw_tT A (pw_tE A e))) 2 4 (nI (pw_tE A (pw_tE A e)))) 1 5 (pw_tN A (pw_tE A e))) 2 3 (nI (pw_tB A (pw_tE A (pw_tE A e))))) 2 2 (pw_tT A (pw_tE A (pw_tE A e)))) 2 4 (nI (pw_tE A (pw_tE A (pw_tE A e)))))
                refine pw_cV (vs := []) (rest := [.ref 1]) k_X3_number (c_numb (pw_up (pw_up (pw_up (pw_up (pw_up (pw_up (pw_up (pw_up (pw_up (pw_up (pw_up (pw_up (pw_up mm 2 3 (nI (pw_tB A e))) 2 2 (pw_tT A e)) 2 4 (nI (pw_tE A e))) 1 4 (nI s20)) 1 5 (-1)) 1 6 (-1)) 2 3 (nI (pw_tB A (pw_tE A e)))) 2 2 (pw_tT A (pw_tE A e))) 2 4 (nI (pw_tE A (pw_tE A e)))) 1 5 (pw_tN A (pw_tE A e))) 2 3 (nI (pw_tB A (pw_tE A (pw_tE A e))))) 2 2 (pw_tT A (pw_tE A (pw_tE A e)))) 2 4 (nI (pw_tE A (pw_tE A (pw_tE A e))))) (pw_tx_u (pw_tx_u (pw_tx_u (pw_tx_u (pw_tx_u (pw_tx_u (pw_tx_u (pw_tx_u (pw_tx_u (pw_tx_u (pw_tx_u (pw_tx_u (pw_tx_u htx (by decide)) (by decide)) (by decide)) (by decide)) (by decide)) (by decide)) (by decide)) (by decide)) (by decide)) (by decide)) (by decide)) (by decide)) (by decide)) hx bwr (pw_tE A (pw_tE A e)) rfl rfl rfl (by omega)) l_2_76 rfl rfl rfl rfl (by omega) (Nat.le_of_ble_eq_true rfl) (by decide +kernel) ?_
                rintro _ m1 ⟨rfl, e1⟩
                rw [e1]
                clear e1 m1
                show pw_V x m_X2_readClause 2 Z 136 [(1, .int (nI (pw_nb s20))), (0, .ref 1)] [.int (pw_tN A (pw_tE A (pw_tE A e))), .ref 1] (pw_up (pw_up (pw_up (pw_up (pw_up (pw_up (pw_up (pw_up (pw_up (pw_up (pw_up (pw_up (pw_up mm 2 3 (nI (pw_tB A e))) 2 2 (pw_tT A e)) 2 4 (nI (pw_tE A e))) 1 4 (nI s20)) 1 5 (-1)) 1 6 (-1)) 2 3 (nI (pw_tB A (pw_tE A e)))) 2 2 (pw_tT A (pw_tE A e))) 2 4 (nI (pw_tE A (pw_tE A e)))) 1 5 (pw_tN A (pw_tE A e))) 2 3 (nI (pw_tB A (pw_tE A (pw_tE A e))))) 2 2 (pw_tT A (pw_tE A (pw_tE A e)))) 2 4 (nI (pw_tE A (pw_tE A (pw_tE A e)))))
                refine pw_blk (pc' := 143) [.putfield 206, .aload 0, .getfield 206] (by decide +kernel) ?_
                show pw_V x m_X2_readClause 2 Z 143 [(1, .int (nI (pw_nb s20))), (0, .ref 1)] [.int (pw_tN A (pw_tE A (pw_tE A e)))] (pw_up (pw_up (pw_up (pw_up (pw_up (pw_up (pw_up (pw_up (pw_up (pw_up (pw_up (pw_up (pw_up (pw_up mm 2 3 (nI (pw_tB A e))) 2 2 (pw_tT A e)) 2 4 (nI (pw_tE A e))) 1 4 (nI s20)) 1 5 (-1)) 1 6 (-1)) 2 3 (nI (pw_tB A (pw_tE A e)))) 2 2 (pw_tT A (pw_tE A e))) 2 4 (nI (pw_tE A (pw_tE A e)))) 1 5 (pw_tN A (pw_tE A e))) 2 3 (nI (pw_tB A (pw_tE A (pw_tE A e))))) 2 2 (pw_tT A (pw_tE A (pw_tE A e)))) 2 4 (nI (pw_tE A (pw_tE A (pw_tE A e))))) 1 6 (pw_tN A (pw_tE A (pw_tE A e))))
                refine pw_if_lt (tgt := 181) (off := 38) (by decide +kernel) (by decide) (fun h143 => ?_) (fun h143 => ?_)
                · refine pw_blk (pc' := 182) [.iconst 0] (by decide +kernel) ?_
                  show pw_V x m_X2_readClause 2 Z 182 [(1, .int (nI (pw_nb s20))), (0, .ref 1)] [.int (nI 0)] (pw_up (pw_up (pw_up (pw_up (pw_up (pw_up (pw_up (pw_up (pw_up (pw_up (pw_up (pw_up (pw_up (pw_up mm 2 3 (nI (pw_tB A e))) 2 2 (pw_tT A e)) 2 4 (nI (pw_tE A e))) 1 4 (nI s20)) 1 5 (-1)) 1 6 (-1)) 2 3 (nI (pw_tB A (pw_tE A e)))) 2 2 (pw_tT A (pw_tE A e))) 2 4 (nI (pw_tE A (pw_tE A e)))) 1 5 (pw_tN A (pw_tE A e))) 2 3 (nI (pw_tB A (pw_tE A (pw_tE A e))))) 2 2 (pw_tT A (pw_tE A (pw_tE A e)))) 2 4 (nI (pw_tE A (pw_tE A (pw_tE A e))))) 1 6 (pw_tN A (pw_tE A (pw_tE A e))))
                  rw [← hZ]
                  refine pw_rz (by decide +kernel) (Or.inl rfl) ?_
                  have b20 := pw_tW_b h20
                  have hcl : pw_cz A s k e = ((pw_tE A (pw_tE A e)), none) := by
                    unfold pw_cz
                    rw [h20]
                    dsimp only
                    rw [if_neg (fun z => absurd z.2 (by omega)), if_neg (by omega), if_pos (show pw_rgb _ _ _ = true from decide_eq_true ⟨h96, h111⟩), if_neg (by omega), if_neg (fun z => absurd h143 (of_decide_eq_true z.1).1)]
                  exact (by have z := pw_rc_no (mm := mm) (B := (pw_up (pw_up (pw_up (pw_up (pw_up (pw_up (pw_up (pw_up (pw_up (pw_up (pw_up (pw_up (pw_up (pw_up mm 2 3 (nI (pw_tB A e))) 2 2 (pw_tT A e)) 2 4 (nI (pw_tE A e))) 1 4 (nI s20)) 1 5 (-1)) 1 6 (-1)) 2 3 (nI (pw_tB A (pw_tE A e)))) 2 2 (pw_tT A (pw_tE A e))) 2 4 (nI (pw_tE A (pw_tE A e)))) 1 5 (pw_tN A (pw_tE A e))) 2 3 (nI (pw_tB A (pw_tE A (pw_tE A e))))) 2 2 (pw_tT A (pw_tE A (pw_tE A e)))) 2 4 (nI (pw_tE A (pw_tE A (pw_tE A e))))) 1 6 (pw_tN A (pw_tE A (pw_tE A e))))) hcl (fun c q1 q2 => by simp only [pw_up, q1, q2, if_false]) rfl rfl rfl rfl; exact ⟨by rw [z.1]; rfl, z.2⟩)
                · refine pw_blk (pc' := 155) [.aload 0, .getfield 206, .aload 0, .aload 0, .getfield 204] (by decide +kernel) ?_
                  show pw_V x m_X2_readClause 2 Z 155 [(1, .int (nI (pw_nb s20))), (0, .ref 1)] [.int (nI s20), .ref 1, .int (pw_tN A (pw_tE A (pw_tE A e)))] (pw_up (pw_up (pw_up (pw_up (pw_up (pw_up (pw_up (pw_up (pw_up (pw_up (pw_up (pw_up (pw_up (pw_up mm 2 3 (nI (pw_tB A e))) 2 2 (pw_tT A e)) 2 4 (nI (pw_tE A e))) 1 4 (nI s20)) 1 5 (-1)) 1 6 (-1)) 2 3 (nI (pw_tB A (pw_tE A e)))) 2 2 (pw_tT A (pw_tE A e))) 2 4 (nI (pw_tE A (pw_tE A e)))) 1 5 (pw_tN A (pw_tE A e))) 2 3 (nI (pw_tB A (pw_tE A (pw_tE A e))))) 2 2 (pw_tT A (pw_tE A (pw_tE A e)))) 2 4 (nI (pw_tE A (pw_tE A (pw_tE A e))))) 1 6 (pw_tN A (pw_tE A (pw_tE A e))))
                  refine pw_cV (vs := [.int (nI s20)]) (rest := [.int (pw_tN A (pw_tE A (pw_tE A e)))]) k_X2_mostSecond (c_ms s20 k b20 (pw_up (pw_up (pw_up (pw_up (pw_up (pw_up (pw_up (pw_up (pw_up (pw_up (pw_up (pw_up (pw_up (pw_up mm 2 3 (nI (pw_tB A e))) 2 2 (pw_tT A e)) 2 4 (nI (pw_tE A e))) 1 4 (nI s20)) 1 5 (-1)) 1 6 (-1)) 2 3 (nI (pw_tB A (pw_tE A e)))) 2 2 (pw_tT A (pw_tE A e))) 2 4 (nI (pw_tE A (pw_tE A e)))) 1 5 (pw_tN A (pw_tE A e))) 2 3 (nI (pw_tB A (pw_tE A (pw_tE A e))))) 2 2 (pw_tT A (pw_tE A (pw_tE A e)))) 2 4 (nI (pw_tE A (pw_tE A (pw_tE A e))))) 1 6 (pw_tN A (pw_tE A (pw_tE A e)))) hk) l_2_85 rfl rfl rfl rfl (by omega) (Nat.le_of_ble_eq_true rfl) (by decide +kernel) ?_
                  rintro _ m1 ⟨rfl, e1⟩
                  rw [e1]
                  clear e1 m1
                  show pw_V x m_X2_readClause 2 Z 158 [(1, .int (nI (pw_nb s20))), (0, .ref 1)] [.int (nI (pw_ms k s20) - nI 1), .int (pw_tN A (pw_tE A (pw_tE A e)))] (pw_up (pw_up (pw_up (pw_up (pw_up (pw_up (pw_up (pw_up (pw_up (pw_up (pw_up (pw_up (pw_up (pw_up mm 2 3 (nI (pw_tB A e))) 2 2 (pw_tT A e)) 2 4 (nI (pw_tE A e))) 1 4 (nI s20)) 1 5 (-1)) 1 6 (-1)) 2 3 (nI (pw_tB A (pw_tE A e)))) 2 2 (pw_tT A (pw_tE A e))) 2 4 (nI (pw_tE A (pw_tE A e)))) 1 5 (pw_tN A (pw_tE A e))) 2 3 (nI (pw_tB A (pw_tE A (pw_tE A e))))) 2 2 (pw_tT A (pw_tE A (pw_tE A e)))) 2 4 (nI (pw_tE A (pw_tE A (pw_tE A e))))) 1 6 (pw_tN A (pw_tE A (pw_tE A e))))
                  refine pw_ic_gt (tgt := 181) (off := 23) (by decide +kernel) (by decide) (fun h158 => ?_) (fun h158 => ?_)
                  · refine pw_blk (pc' := 182) [.iconst 0] (by decide +kernel) ?_
                    show pw_V x m_X2_readClause 2 Z 182 [(1, .int (nI (pw_nb s20))), (0, .ref 1)] [.int (nI 0)] (pw_up (pw_up (pw_up (pw_up (pw_up (pw_up (pw_up (pw_up (pw_up (pw_up (pw_up (pw_up (pw_up (pw_up mm 2 3 (nI (pw_tB A e))) 2 2 (pw_tT A e)) 2 4 (nI (pw_tE A e))) 1 4 (nI s20)) 1 5 (-1)) 1 6 (-1)) 2 3 (nI (pw_tB A (pw_tE A e)))) 2 2 (pw_tT A (pw_tE A e))) 2 4 (nI (pw_tE A (pw_tE A e)))) 1 5 (pw_tN A (pw_tE A e))) 2 3 (nI (pw_tB A (pw_tE A (pw_tE A e))))) 2 2 (pw_tT A (pw_tE A (pw_tE A e)))) 2 4 (nI (pw_tE A (pw_tE A (pw_tE A e))))) 1 6 (pw_tN A (pw_tE A (pw_tE A e))))
                    rw [← hZ]
                    refine pw_rz (by decide +kernel) (Or.inl rfl) ?_
                    have b20 := pw_tW_b h20
                    have hcl : pw_cz A s k e = ((pw_tE A (pw_tE A e)), none) := by
                      unfold pw_cz
                      rw [h20]
                      dsimp only
                      rw [if_neg (fun z => absurd z.2 (by omega)), if_neg (by omega), if_pos (show pw_rgb _ _ _ = true from decide_eq_true ⟨h96, h111⟩), if_neg (by omega), if_neg (fun z => absurd h158 (Int32.not_lt.mpr (of_decide_eq_true z.1).2))]
                    exact (by have z := pw_rc_no (mm := mm) (B := (pw_up (pw_up (pw_up (pw_up (pw_up (pw_up (pw_up (pw_up (pw_up (pw_up (pw_up (pw_up (pw_up (pw_up mm 2 3 (nI (pw_tB A e))) 2 2 (pw_tT A e)) 2 4 (nI (pw_tE A e))) 1 4 (nI s20)) 1 5 (-1)) 1 6 (-1)) 2 3 (nI (pw_tB A (pw_tE A e)))) 2 2 (pw_tT A (pw_tE A e))) 2 4 (nI (pw_tE A (pw_tE A e)))) 1 5 (pw_tN A (pw_tE A e))) 2 3 (nI (pw_tB A (pw_tE A (pw_tE A e))))) 2 2 (pw_tT A (pw_tE A (pw_tE A e)))) 2 4 (nI (pw_tE A (pw_tE A (pw_tE A e))))) 1 6 (pw_tN A (pw_tE A (pw_tE A e))))) hcl (fun c q1 q2 => by simp only [pw_up, q1, q2, if_false]) rfl rfl rfl rfl; exact ⟨by rw [z.1]; rfl, z.2⟩)
                  · refine pw_blk (pc' := 167) [.aload 0, .getfield 204, .iconst (8)] (by decide +kernel) ?_
                    show pw_V x m_X2_readClause 2 Z 167 [(1, .int (nI (pw_nb s20))), (0, .ref 1)] [.int (nI 8), .int (nI s20)] (pw_up (pw_up (pw_up (pw_up (pw_up (pw_up (pw_up (pw_up (pw_up (pw_up (pw_up (pw_up (pw_up (pw_up mm 2 3 (nI (pw_tB A e))) 2 2 (pw_tT A e)) 2 4 (nI (pw_tE A e))) 1 4 (nI s20)) 1 5 (-1)) 1 6 (-1)) 2 3 (nI (pw_tB A (pw_tE A e)))) 2 2 (pw_tT A (pw_tE A e))) 2 4 (nI (pw_tE A (pw_tE A e)))) 1 5 (pw_tN A (pw_tE A e))) 2 3 (nI (pw_tB A (pw_tE A (pw_tE A e))))) 2 2 (pw_tT A (pw_tE A (pw_tE A e)))) 2 4 (nI (pw_tE A (pw_tE A (pw_tE A e))))) 1 6 (pw_tN A (pw_tE A (pw_tE A e))))
                    refine pw_in_ne (tgt := 183) (off := 16) (by omega) (by omega) (by decide +kernel) (by decide) (fun h167 => ?_) (fun h167 => ?_)
                    · refine pw_blk (pc' := 184) [.aload 0] (by decide +kernel) ?_
                      show pw_V x m_X2_readClause 2 Z 184 [(1, .int (nI (pw_nb s20))), (0, .ref 1)] [.ref 1] (pw_up (pw_up (pw_up (pw_up (pw_up (pw_up (pw_up (pw_up (pw_up (pw_up (pw_up (pw_up (pw_up (pw_up mm 2 3 (nI (pw_tB A e))) 2 2 (pw_tT A e)) 2 4 (nI (pw_tE A e))) 1 4 (nI s20)) 1 5 (-1)) 1 6 (-1)) 2 3 (nI (pw_tB A (pw_tE A e)))) 2 2 (pw_tT A (pw_tE A e))) 2 4 (nI (pw_tE A (pw_tE A e)))) 1 5 (pw_tN A (pw_tE A e))) 2 3 (nI (pw_tB A (pw_tE A (pw_tE A e))))) 2 2 (pw_tT A (pw_tE A (pw_tE A e)))) 2 4 (nI (pw_tE A (pw_tE A (pw_tE A e))))) 1 6 (pw_tN A (pw_tE A (pw_tE A e))))
                      refine pw_cV (vs := []) (rest := []) k_X2_tally (c_tally (pw_up (pw_up (pw_up (pw_up (pw_up (pw_up (pw_up (pw_up (pw_up (pw_up (pw_up (pw_up (pw_up (pw_up mm 2 3 (nI (pw_tB A e))) 2 2 (pw_tT A e)) 2 4 (nI (pw_tE A e))) 1 4 (nI s20)) 1 5 (-1)) 1 6 (-1)) 2 3 (nI (pw_tB A (pw_tE A e)))) 2 2 (pw_tT A (pw_tE A e))) 2 4 (nI (pw_tE A (pw_tE A e)))) 1 5 (pw_tN A (pw_tE A e))) 2 3 (nI (pw_tB A (pw_tE A (pw_tE A e))))) 2 2 (pw_tT A (pw_tE A (pw_tE A e)))) 2 4 (nI (pw_tE A (pw_tE A (pw_tE A e))))) 1 6 (pw_tN A (pw_tE A (pw_tE A e))))) l_2_88 rfl rfl rfl rfl (by omega) (Nat.le_of_ble_eq_true rfl) (by decide +kernel) ?_
                      rintro _ m1 ⟨rfl, e1⟩
                      rw [e1]
                      clear e1 m1
                      show pw_V x m_X2_readClause 2 Z 187 [(1, .int (nI (pw_nb s20))), (0, .ref 1)] [] (G_tal (pw_up (pw_up (pw_up (pw_up (pw_up (pw_up (pw_up (pw_up (pw_up (pw_up (pw_up (pw_up (pw_up (pw_up mm 2 3 (nI (pw_tB A e))) 2 2 (pw_tT A e)) 2 4 (nI (pw_tE A e))) 1 4 (nI s20)) 1 5 (-1)) 1 6 (-1)) 2 3 (nI (pw_tB A (pw_tE A e)))) 2 2 (pw_tT A (pw_tE A e))) 2 4 (nI (pw_tE A (pw_tE A e)))) 1 5 (pw_tN A (pw_tE A e))) 2 3 (nI (pw_tB A (pw_tE A (pw_tE A e))))) 2 2 (pw_tT A (pw_tE A (pw_tE A e)))) 2 4 (nI (pw_tE A (pw_tE A (pw_tE A e))))) 1 6 (pw_tN A (pw_tE A (pw_tE A e)))))
                      refine pw_blk (pc' := 188) [.iconst 1] (by decide +kernel) ?_
                      show pw_V x m_X2_readClause 2 Z 188 [(1, .int (nI (pw_nb s20))), (0, .ref 1)] [.int (nI 1)] (G_tal (pw_up (pw_up (pw_up (pw_up (pw_up (pw_up (pw_up (pw_up (pw_up (pw_up (pw_up (pw_up (pw_up (pw_up mm 2 3 (nI (pw_tB A e))) 2 2 (pw_tT A e)) 2 4 (nI (pw_tE A e))) 1 4 (nI s20)) 1 5 (-1)) 1 6 (-1)) 2 3 (nI (pw_tB A (pw_tE A e)))) 2 2 (pw_tT A (pw_tE A e))) 2 4 (nI (pw_tE A (pw_tE A e)))) 1 5 (pw_tN A (pw_tE A e))) 2 3 (nI (pw_tB A (pw_tE A (pw_tE A e))))) 2 2 (pw_tT A (pw_tE A (pw_tE A e)))) 2 4 (nI (pw_tE A (pw_tE A (pw_tE A e))))) 1 6 (pw_tN A (pw_tE A (pw_tE A e)))))
                      rw [← hZ]
                      refine pw_rz (by decide +kernel) (Or.inr rfl) ?_
                      have b20 := pw_tW_b h20
                      have hcl : pw_cz A s k e = ((pw_tE A (pw_tE A e)), some (s20, pw_c (pw_tN A (pw_tE A e)), pw_c (pw_tN A (pw_tE A (pw_tE A e))))) := by
                        unfold pw_cz
                        rw [h20]
                        dsimp only
                        rw [if_neg (fun z => absurd z.2 (by omega)), if_neg (by omega), if_pos (show pw_rgb _ _ _ = true from decide_eq_true ⟨h96, h111⟩), if_neg (by omega), if_pos ⟨show pw_rgb _ _ _ = true from decide_eq_true ⟨h143, Int32.not_lt.mp h158⟩, fun z => absurd z.1 h167⟩]
                      exact (by have z := pw_rc_ok (mm := mm) (B := (pw_up (pw_up (pw_up (pw_up (pw_up (pw_up (pw_up (pw_up (pw_up (pw_up (pw_up (pw_up (pw_up (pw_up mm 2 3 (nI (pw_tB A e))) 2 2 (pw_tT A e)) 2 4 (nI (pw_tE A e))) 1 4 (nI s20)) 1 5 (-1)) 1 6 (-1)) 2 3 (nI (pw_tB A (pw_tE A e)))) 2 2 (pw_tT A (pw_tE A e))) 2 4 (nI (pw_tE A (pw_tE A e)))) 1 5 (pw_tN A (pw_tE A e))) 2 3 (nI (pw_tB A (pw_tE A (pw_tE A e))))) 2 2 (pw_tT A (pw_tE A (pw_tE A e)))) 2 4 (nI (pw_tE A (pw_tE A (pw_tE A e))))) 1 6 (pw_tN A (pw_tE A (pw_tE A e))))) hcl b20 (fun c q1 q2 => by simp only [pw_up, q1, q2, if_false]) rfl rfl rfl rfl rfl (by rw [if_neg (by omega)]; exact pw_rgc (show pw_rgb (pw_le_ s20) (pw_mf s k s20) _ = true from decide_eq_true ⟨h96, h111⟩) (pw_le_b s20) (pw_mf_b s20 hs8 hk6)) (by rw [if_neg (by omega)]; exact pw_rgc (show pw_rgb 0 (pw_ms k s20) _ = true from decide_eq_true ⟨h143, Int32.not_lt.mp h158⟩) (by omega) (pw_ms_b s20 hk6)) hs hk; exact ⟨by rw [z.1]; rfl, z.2⟩)
                    · refine pw_blk (pc' := 178) [.aload 0, .getfield 206, .aload 0, .getfield 205] (by decide +kernel) ?_
                      show pw_V x m_X2_readClause 2 Z 178 [(1, .int (nI (pw_nb s20))), (0, .ref 1)] [.int (pw_tN A (pw_tE A e)), .int (pw_tN A (pw_tE A (pw_tE A e)))] (pw_up (pw_up (pw_up (pw_up (pw_up (pw_up (pw_up (pw_up (pw_up (pw_up (pw_up (pw_up (pw_up (pw_up mm 2 3 (nI (pw_tB A e))) 2 2 (pw_tT A e)) 2 4 (nI (pw_tE A e))) 1 4 (nI s20)) 1 5 (-1)) 1 6 (-1)) 2 3 (nI (pw_tB A (pw_tE A e)))) 2 2 (pw_tT A (pw_tE A e))) 2 4 (nI (pw_tE A (pw_tE A e)))) 1 5 (pw_tN A (pw_tE A e))) 2 3 (nI (pw_tB A (pw_tE A (pw_tE A e))))) 2 2 (pw_tT A (pw_tE A (pw_tE A e)))) 2 4 (nI (pw_tE A (pw_tE A (pw_tE A e))))) 1 6 (pw_tN A (pw_tE A (pw_tE A e))))
                      refine pw_ic_ne (tgt := 183) (off := 5) (by decide +kernel) (by decide) (fun h178 => ?_) (fun h178 => ?_)
                      · refine pw_blk (pc' := 184) [.aload 0] (by decide +kernel) ?_
                        show pw_V x m_X2_readClause 2 Z 184 [(1, .int (nI (pw_nb s20))), (0, .ref 1)] [.ref 1] (pw_up (pw_up (pw_up (pw_up (pw_up (pw_up (pw_up (pw_up (pw_up (pw_up (pw_up (pw_up (pw_up (pw_up mm 2 3 (nI (pw_tB A e))) 2 2 (pw_tT A e)) 2 4 (nI (pw_tE A e))) 1 4 (nI s20)) 1 5 (-1)) 1 6 (-1)) 2 3 (nI (pw_tB A (pw_tE A e)))) 2 2 (pw_tT A (pw_tE A e))) 2 4 (nI (pw_tE A (pw_tE A e)))) 1 5 (pw_tN A (pw_tE A e))) 2 3 (nI (pw_tB A (pw_tE A (pw_tE A e))))) 2 2 (pw_tT A (pw_tE A (pw_tE A e)))) 2 4 (nI (pw_tE A (pw_tE A (pw_tE A e))))) 1 6 (pw_tN A (pw_tE A (pw_tE A e))))
                        refine pw_cV (vs := []) (rest := []) k_X2_tally (c_tally (pw_up (pw_up (pw_up (pw_up (pw_up (pw_up (pw_up (pw_up (pw_up (pw_up (pw_up (pw_up (pw_up (pw_up mm 2 3 (nI (pw_tB A e))) 2 2 (pw_tT A e)) 2 4 (nI (pw_tE A e))) 1 4 (nI s20)) 1 5 (-1)) 1 6 (-1)) 2 3 (nI (pw_tB A (pw_tE A e)))) 2 2 (pw_tT A (pw_tE A e))) 2 4 (nI (pw_tE A (pw_tE A e)))) 1 5 (pw_tN A (pw_tE A e))) 2 3 (nI (pw_tB A (pw_tE A (pw_tE A e))))) 2 2 (pw_tT A (pw_tE A (pw_tE A e)))) 2 4 (nI (pw_tE A (pw_tE A (pw_tE A e))))) 1 6 (pw_tN A (pw_tE A (pw_tE A e))))) l_2_88 rfl rfl rfl rfl (by omega) (Nat.le_of_ble_eq_true rfl) (by decide +kernel) ?_
                        rintro _ m1 ⟨rfl, e1⟩
                        rw [e1]
                        clear e1 m1
                        show pw_V x m_X2_readClause 2 Z 187 [(1, .int (nI (pw_nb s20))), (0, .ref 1)] [] (G_tal (pw_up (pw_up (pw_up (pw_up (pw_up (pw_up (pw_up (pw_up (pw_up (pw_up (pw_up (pw_up (pw_up (pw_up mm 2 3 (nI (pw_tB A e))) 2 2 (pw_tT A e)) 2 4 (nI (pw_tE A e))) 1 4 (nI s20)) 1 5 (-1)) 1 6 (-1)) 2 3 (nI (pw_tB A (pw_tE A e)))) 2 2 (pw_tT A (pw_tE A e))) 2 4 (nI (pw_tE A (pw_tE A e)))) 1 5 (pw_tN A (pw_tE A e))) 2 3 (nI (pw_tB A (pw_tE A (pw_tE A e))))) 2 2 (pw_tT A (pw_tE A (pw_tE A e)))) 2 4 (nI (pw_tE A (pw_tE A (pw_tE A e))))) 1 6 (pw_tN A (pw_tE A (pw_tE A e)))))
                        refine pw_blk (pc' := 188) [.iconst 1] (by decide +kernel) ?_
                        show pw_V x m_X2_readClause 2 Z 188 [(1, .int (nI (pw_nb s20))), (0, .ref 1)] [.int (nI 1)] (G_tal (pw_up (pw_up (pw_up (pw_up (pw_up (pw_up (pw_up (pw_up (pw_up (pw_up (pw_up (pw_up (pw_up (pw_up mm 2 3 (nI (pw_tB A e))) 2 2 (pw_tT A e)) 2 4 (nI (pw_tE A e))) 1 4 (nI s20)) 1 5 (-1)) 1 6 (-1)) 2 3 (nI (pw_tB A (pw_tE A e)))) 2 2 (pw_tT A (pw_tE A e))) 2 4 (nI (pw_tE A (pw_tE A e)))) 1 5 (pw_tN A (pw_tE A e))) 2 3 (nI (pw_tB A (pw_tE A (pw_tE A e))))) 2 2 (pw_tT A (pw_tE A (pw_tE A e)))) 2 4 (nI (pw_tE A (pw_tE A (pw_tE A e))))) 1 6 (pw_tN A (pw_tE A (pw_tE A e)))))
                        rw [← hZ]
                        refine pw_rz (by decide +kernel) (Or.inr rfl) ?_
                        have b20 := pw_tW_b h20
                        have hcl : pw_cz A s k e = ((pw_tE A (pw_tE A e)), some (s20, pw_c (pw_tN A (pw_tE A e)), pw_c (pw_tN A (pw_tE A (pw_tE A e))))) := by
                          unfold pw_cz
                          rw [h20]
                          dsimp only
                          rw [if_neg (fun z => absurd z.2 (by omega)), if_neg (by omega), if_pos (show pw_rgb _ _ _ = true from decide_eq_true ⟨h96, h111⟩), if_neg (by omega), if_pos ⟨show pw_rgb _ _ _ = true from decide_eq_true ⟨h143, Int32.not_lt.mp h158⟩, fun z => absurd z.2 h178⟩]
                        exact (by have z := pw_rc_ok (mm := mm) (B := (pw_up (pw_up (pw_up (pw_up (pw_up (pw_up (pw_up (pw_up (pw_up (pw_up (pw_up (pw_up (pw_up (pw_up mm 2 3 (nI (pw_tB A e))) 2 2 (pw_tT A e)) 2 4 (nI (pw_tE A e))) 1 4 (nI s20)) 1 5 (-1)) 1 6 (-1)) 2 3 (nI (pw_tB A (pw_tE A e)))) 2 2 (pw_tT A (pw_tE A e))) 2 4 (nI (pw_tE A (pw_tE A e)))) 1 5 (pw_tN A (pw_tE A e))) 2 3 (nI (pw_tB A (pw_tE A (pw_tE A e))))) 2 2 (pw_tT A (pw_tE A (pw_tE A e)))) 2 4 (nI (pw_tE A (pw_tE A (pw_tE A e))))) 1 6 (pw_tN A (pw_tE A (pw_tE A e))))) hcl b20 (fun c q1 q2 => by simp only [pw_up, q1, q2, if_false]) rfl rfl rfl rfl rfl (by rw [if_neg (by omega)]; exact pw_rgc (show pw_rgb (pw_le_ s20) (pw_mf s k s20) _ = true from decide_eq_true ⟨h96, h111⟩) (pw_le_b s20) (pw_mf_b s20 hs8 hk6)) (by rw [if_neg (by omega)]; exact pw_rgc (show pw_rgb 0 (pw_ms k s20) _ = true from decide_eq_true ⟨h143, Int32.not_lt.mp h158⟩) (by omega) (pw_ms_b s20 hk6)) hs hk; exact ⟨by rw [z.1]; rfl, z.2⟩)
                      · refine pw_blk (pc' := 182) [.iconst 0] (by decide +kernel) ?_
                        show pw_V x m_X2_readClause 2 Z 182 [(1, .int (nI (pw_nb s20))), (0, .ref 1)] [.int (nI 0)] (pw_up (pw_up (pw_up (pw_up (pw_up (pw_up (pw_up (pw_up (pw_up (pw_up (pw_up (pw_up (pw_up (pw_up mm 2 3 (nI (pw_tB A e))) 2 2 (pw_tT A e)) 2 4 (nI (pw_tE A e))) 1 4 (nI s20)) 1 5 (-1)) 1 6 (-1)) 2 3 (nI (pw_tB A (pw_tE A e)))) 2 2 (pw_tT A (pw_tE A e))) 2 4 (nI (pw_tE A (pw_tE A e)))) 1 5 (pw_tN A (pw_tE A e))) 2 3 (nI (pw_tB A (pw_tE A (pw_tE A e))))) 2 2 (pw_tT A (pw_tE A (pw_tE A e)))) 2 4 (nI (pw_tE A (pw_tE A (pw_tE A e))))) 1 6 (pw_tN A (pw_tE A (pw_tE A e))))
                        rw [← hZ]
                        refine pw_rz (by decide +kernel) (Or.inl rfl) ?_
                        have b20 := pw_tW_b h20
                        have hcl : pw_cz A s k e = ((pw_tE A (pw_tE A e)), none) := by
                          unfold pw_cz
                          rw [h20]
                          dsimp only
                          rw [if_neg (fun z => absurd z.2 (by omega)), if_neg (by omega), if_pos (show pw_rgb _ _ _ = true from decide_eq_true ⟨h96, h111⟩), if_neg (by omega), if_neg (fun z => z.2 ⟨h167, h178⟩)]
                        exact (by have z := pw_rc_no (mm := mm) (B := (pw_up (pw_up (pw_up (pw_up (pw_up (pw_up (pw_up (pw_up (pw_up (pw_up (pw_up (pw_up (pw_up (pw_up mm 2 3 (nI (pw_tB A e))) 2 2 (pw_tT A e)) 2 4 (nI (pw_tE A e))) 1 4 (nI s20)) 1 5 (-1)) 1 6 (-1)) 2 3 (nI (pw_tB A (pw_tE A e)))) 2 2 (pw_tT A (pw_tE A e))) 2 4 (nI (pw_tE A (pw_tE A e)))) 1 5 (pw_tN A (pw_tE A e))) 2 3 (nI (pw_tB A (pw_tE A (pw_tE A e))))) 2 2 (pw_tT A (pw_tE A (pw_tE A e)))) 2 4 (nI (pw_tE A (pw_tE A (pw_tE A e))))) 1 6 (pw_tN A (pw_tE A (pw_tE A e))))) hcl (fun c q1 q2 => by simp only [pw_up, q1, q2, if_false]) rfl rfl rfl rfl; exact ⟨by rw [z.1]; rfl, z.2⟩)
            · refine pw_blk (pc' := 115) [.iconst 0] (by decide +kernel) ?_
              show pw_V x m_X2_readClause 2 Z 115 [(1, .int (nI (pw_nb s20))), (0, .ref 1)] [.int (nI 0)] (pw_up (pw_up (pw_up (pw_up (pw_up (pw_up (pw_up (pw_up (pw_up (pw_up mm 2 3 (nI (pw_tB A e))) 2 2 (pw_tT A e)) 2 4 (nI (pw_tE A e))) 1 4 (nI s20)) 1 5 (-1)) 1 6 (-1)) 2 3 (nI (pw_tB A (pw_tE A e)))) 2 2 (pw_tT A (pw_tE A e))) 2 4 (nI (pw_tE A (pw_tE A e)))) 1 5 (pw_tN A (pw_tE A e)))
              rw [← hZ]
              refine pw_rz (by decide +kernel) (Or.inl rfl) ?_
              have b20 := pw_tW_b h20
              have hcl : pw_cz A s k e = ((pw_tE A e), none) := by
                unfold pw_cz
                rw [h20]
                dsimp only
                rw [if_neg (fun z => absurd z.2 (by omega)), if_neg (by omega), if_neg (fun z => h111 (of_decide_eq_true z).2)]
              exact (by have z := pw_rc_no (mm := mm) (B := (pw_up (pw_up (pw_up (pw_up (pw_up (pw_up (pw_up (pw_up (pw_up (pw_up mm 2 3 (nI (pw_tB A e))) 2 2 (pw_tT A e)) 2 4 (nI (pw_tE A e))) 1 4 (nI s20)) 1 5 (-1)) 1 6 (-1)) 2 3 (nI (pw_tB A (pw_tE A e)))) 2 2 (pw_tT A (pw_tE A e))) 2 4 (nI (pw_tE A (pw_tE A e)))) 1 5 (pw_tN A (pw_tE A e)))) hcl (fun c q1 q2 => by simp only [pw_up, q1, q2, if_false]) rfl rfl rfl rfl; exact ⟨by rw [z.1]; rfl, z.2⟩)
      · refine pw_blk (pc' := 43) [.iconst 0] (by decide +kernel) ?_
        show pw_V x m_X2_readClause 2 Z 43 [(0, .ref 1)] [.int (nI 0)] (pw_up (pw_up (pw_up (pw_up mm 2 3 (nI (pw_tB A e))) 2 2 (pw_tT A e)) 2 4 (nI (pw_tE A e))) 1 4 (nI s20))
        rw [← hZ]
        refine pw_rz (by decide +kernel) (Or.inl rfl) ?_
        have b20 := pw_tW_b h20
        have hcl : pw_cz A s k e = (e, none) := by
          unfold pw_cz
          rw [h20]
          dsimp only
          rw [if_pos ⟨h30, h39⟩]
        exact (by have z := pw_rc_no (mm := mm) (B := (pw_up (pw_up (pw_up (pw_up mm 2 3 (nI (pw_tB A e))) 2 2 (pw_tT A e)) 2 4 (nI (pw_tE A e))) 1 4 (nI s20))) hcl (fun c q1 q2 => by simp only [pw_up, q1, q2, if_false]) rfl rfl rfl rfl; exact ⟨by rw [z.1]; rfl, z.2⟩)
