set_option maxHeartbeats 4000000 in
set_option maxRecDepth 100000 in
theorem c_mfeast {A : pw_m} (mm : pw_m) (hv : MV A mm) (hok : pw_ok A) : pw_Ct 4 yX8_feast m_X8_feast [.ref 26] mm (fun r m' => r = some (.int (F_feast A)) ∧ MV (G_feast A) m' ∧ pw_mf_ mm m') := by
  refine pw_ct (by decide +kernel) rfl (Nat.le_of_ble_eq_true rfl) (fun x => ?_)
  generalize hZ : pw_Z x _ = Z
  have bn := pw_bn hok
  have bk := pw_bk hok
  have bt := pw_b421' hok
  have bx := pw_b114 hok
  have hT : ∀ c, 4 ≤ c → c ≤ 10 → pw_rem A c = A c := fun c h1 h2 => pw_rem_o bx (by omega) (by omega)
  have b420 := pw_b420 hok
  show pw_V x m_X8_feast 4 Z 0 [(0, .ref 26)] [] mm
  refine pw_blk (pc' := 1) [.aload 0] (by decide +kernel) ?_
  show pw_V x m_X8_feast 4 Z 1 [(0, .ref 26)] [.ref 26] mm
  refine pw_cV (vs := []) (rest := []) k_X8_sitting (c_msitting mm hv hok) l_8_207 rfl rfl rfl rfl (by omega) (Nat.le_of_ble_eq_true rfl) (by decide +kernel) ?_
  rintro _ m1 ⟨rfl, e1⟩
  rw [e1]
  clear e1 m1
  show pw_V x m_X8_feast 4 Z 4 [(0, .ref 26)] [.int (nI (pw_sb A))] mm
  have bsb1 := pw_sb_lt (A := A)
  refine pw_iz_ne (tgt := 10) (off := 6) (by first | omega | exact pw_g_lt | (have := pw_b43 hok1 (show ix < 6 by omega); omega)) (by decide +kernel) (by decide) (fun h4 => ?_) (fun h4 => ?_)
  · refine pw_blk (pc' := 19) [.aload 0, .getfield 808, .iconst 0, .iaload, .iconst (999)] (by decide +kernel) ?_
    refine ⟨0, rfl, by first | omega | exact pw_g_lt | (have := pw_b43 hok1 (show ix < 6 by omega); omega), ?_⟩
    show pw_V x m_X8_feast 4 Z 19 [(0, .ref 26)] [.int (nI 999), .int (mm 30 0)] mm
    rw [show mm 30 0 = nI (pw_g A 42 0) from mv_d hv hok]
    refine pw_in_ne (tgt := 25) (off := 6) (by first | omega | exact pw_g_lt | (have := pw_b43 hok1 (show ix < 6 by omega); omega)) (by first | omega | exact pw_g_lt | (have := pw_b43 hok1 (show ix < 6 by omega); omega)) (by decide +kernel) (by decide) (fun h19 => ?_) (fun h19 => ?_)
    · refine pw_blk (pc' := 26) [.aload 0] (by decide +kernel) ?_
      show pw_V x m_X8_feast 4 Z 26 [(0, .ref 26)] [.ref 26] mm
      refine pw_cV (vs := []) (rest := []) k_X8_remembers (c_mrem mm hv hok) l_8_204 rfl rfl rfl rfl (by omega) (Nat.le_of_ble_eq_true rfl) (by decide +kernel) ?_
      rintro _ m1 ⟨rfl, hv1, hf1⟩
      show pw_V x m_X8_feast 4 Z 29 [(0, .ref 26)] [] m1
      have hok1 := pw_ok_rem hok
      refine pw_blk (pc' := 30) [.aload 0] (by decide +kernel) ?_
      show pw_V x m_X8_feast 4 Z 30 [(0, .ref 26)] [.ref 26] m1
      refine pw_cV (vs := []) (rest := []) k_X8_wrongs (c_mwrongs m1 hv1 hok1) l_8_219 rfl rfl rfl rfl (by omega) (Nat.le_of_ble_eq_true rfl) (by decide +kernel) ?_
      rintro _ m1 ⟨rfl, e1⟩
      rw [e1]
      clear e1 m1
      show pw_V x m_X8_feast 4 Z 33 [(0, .ref 26)] [.int (nI (pw_wrs (pw_rem A)))] m1
      have bwr30 := pw_wrs_lt hok1
      refine pw_blk (pc' := 34) [.istore 1] (by decide +kernel) ?_
      show pw_V x m_X8_feast 4 Z 34 [(1, .int (nI (pw_wrs (pw_rem A)))), (0, .ref 26)] [] m1
      have bk1 := pw_bk hok1
      refine pw_blk (pc' := 38) [.iconst 0, .istore 2, .iconst 0, .istore 3] (by decide +kernel) ?_
      show pw_V x m_X8_feast 4 Z 38 [(3, .int (nI 0)), (2, .int (nI 0)), (1, .int (nI (pw_wrs (pw_rem A)))), (0, .ref 26)] [] m1
      refine pw_lvp [3, 2, 1, 0] rfl ?_
      rw [← pw_heM_0 (B := m1) (A := (pw_rem A))]
      suffices lo : ∀ ix : Nat, ix ≤ (pw_k (pw_rem A)) → pw_V x m_X8_feast 4 Z 38 [(0, .ref 26), (1, .int (nI (pw_wrs (pw_rem A)))), (2, .int (nI (pw_ob (pw_fam (pw_rem A)) ix))), (3, .int (nI ix))] [] (pw_heM m1 (pw_rem A) ix) from lo 0 (by omega)
      refine pw_dn (pw_k (pw_rem A)) (fun ix hix ih => ?_)
      have hvh : MV (pw_rem A) (pw_heM m1 (pw_rem A) ix) := mv_heM hv1
      refine pw_blk (pc' := 43) [.iload 3, .aload 0, .getfield 802] (by decide +kernel) ?_
      show pw_V x m_X8_feast 4 Z 43 [(0, .ref 26), (1, .int (nI (pw_wrs (pw_rem A)))), (2, .int (nI (pw_ob (pw_fam (pw_rem A)) ix))), (3, .int (nI ix))] [.int ((pw_heM m1 (pw_rem A) ix) 26 2), .int (nI ix)] (pw_heM m1 (pw_rem A) ix)
      rw [show (pw_heM m1 (pw_rem A) ix) 26 2 = nI (pw_k (pw_rem A)) from mv_k hvh hok1]
      refine pw_in_ge (tgt := 167) (off := 124) (by first | omega | exact pw_g_lt | (have := pw_b43 hok1 (show ix < 6 by omega); omega)) (by first | omega | exact pw_g_lt | (have := pw_b43 hok1 (show ix < 6 by omega); omega)) (by decide +kernel) (by decide) (fun h43 => ?_) (fun h43 => ?_)
      · have ek : ix = (pw_k (pw_rem A)) := by omega
        rw [ek]
        refine pw_blk (pc' := 169) [.iconst 0, .istore 3] (by decide +kernel) ?_
        show pw_V x m_X8_feast 4 Z 169 [(3, .int (nI 0)), (0, .ref 26), (1, .int (nI (pw_wrs (pw_rem A)))), (2, .int (nI (pw_ob (pw_fam (pw_rem A)) (pw_k (pw_rem A)))))] [] (pw_heM m1 (pw_rem A) (pw_k (pw_rem A)))
        refine pw_lvp [1, 2, 3, 0] rfl ?_
        rw [← pw_feM_0 (B := pw_heM m1 (pw_rem A) (pw_k (pw_rem A))) (A := (pw_rem A)) (t := pw_wrs (pw_rem A))]
        clear ek hix ih hvh h43 ix
        suffices lo : ∀ ix : Nat, ix ≤ (pw_k (pw_rem A)) → pw_V x m_X8_feast 4 Z 169 [(0, .ref 26), (1, .int (nI (pw_wrs (pw_rem A)))), (2, .int (nI (pw_ob (pw_fam (pw_rem A)) (pw_k (pw_rem A))))), (3, .int (nI ix))] [] (pw_feM (pw_heM m1 (pw_rem A) (pw_k (pw_rem A))) (pw_rem A) (pw_wrs (pw_rem A)) ix) from lo 0 (by omega)
        refine pw_dn (pw_k (pw_rem A)) (fun ix hix ih => ?_)
        refine pw_blk (pc' := 174) [.iload 3, .aload 0, .getfield 802] (by decide +kernel) ?_
        show pw_V x m_X8_feast 4 Z 174 [(0, .ref 26), (1, .int (nI (pw_wrs (pw_rem A)))), (2, .int (nI (pw_ob (pw_fam (pw_rem A)) (pw_k (pw_rem A))))), (3, .int (nI ix))] [.int ((pw_feM (pw_heM m1 (pw_rem A) (pw_k (pw_rem A))) (pw_rem A) (pw_wrs (pw_rem A)) ix) 26 2), .int (nI ix)] (pw_feM (pw_heM m1 (pw_rem A) (pw_k (pw_rem A))) (pw_rem A) (pw_wrs (pw_rem A)) ix)
        rw [show (pw_feM (pw_heM m1 (pw_rem A) (pw_k (pw_rem A))) (pw_rem A) (pw_wrs (pw_rem A)) ix) 26 2 = nI (pw_k (pw_rem A)) from (mv_k hv1 hok1 : m1 26 2 = _)]
        refine pw_in_ge (tgt := 297) (off := 123) (by first | omega | exact pw_g_lt | (have := pw_b43 hok1 (show ix < 6 by omega); omega)) (by first | omega | exact pw_g_lt | (have := pw_b43 hok1 (show ix < 6 by omega); omega)) (by decide +kernel) (by decide) (fun h174 => ?_) (fun h174 => ?_)
        · have ek : ix = (pw_k (pw_rem A)) := by omega
          rw [ek]
          refine pw_blk (pc' := 308) [.aload 0, .getfield 808, .iconst 1, .dup2, .iaload, .iload 1, .iconst (-1), .ixor, .iand] (by decide +kernel) ?_
          refine ⟨1, rfl, by first | omega | exact pw_g_lt | (have := pw_b43 hok1 (show ix < 6 by omega); omega), ?_⟩
          show pw_V x m_X8_feast 4 Z 308 [(0, .ref 26), (1, .int (nI (pw_wrs (pw_rem A)))), (2, .int (nI (pw_ob (pw_fam (pw_rem A)) (pw_k (pw_rem A))))), (3, .int (nI (pw_k (pw_rem A))))] [.int (((pw_feM (pw_heM m1 (pw_rem A) (pw_k (pw_rem A))) (pw_rem A) (pw_wrs (pw_rem A)) (pw_k (pw_rem A))) 30 1) &&& ((nI (pw_wrs (pw_rem A))) ^^^ (-1))), .int (nI 1), .ref 30] (pw_feM (pw_heM m1 (pw_rem A) (pw_k (pw_rem A))) (pw_rem A) (pw_wrs (pw_rem A)) (pw_k (pw_rem A)))
          rw [show (pw_feM (pw_heM m1 (pw_rem A) (pw_k (pw_rem A))) (pw_rem A) (pw_wrs (pw_rem A)) (pw_k (pw_rem A))) 30 1 = nI (pw_g (pw_rem A) 42 1) from (by rw [pw_feM_n (by omega) (by omega), pw_heM_o (by omega)]; exact mv_t hv1 hok1)]
          rw [pw_anN _ (pw_b421' hok1) _ bwr30]
          show pw_V x m_X8_feast 4 Z 308 [(0, .ref 26), (1, .int (nI (pw_wrs (pw_rem A)))), (2, .int (nI (pw_ob (pw_fam (pw_rem A)) (pw_k (pw_rem A))))), (3, .int (nI (pw_k (pw_rem A))))] [.int (nI (pw_an (pw_g (pw_rem A) 42 1) (pw_wrs (pw_rem A)))), .int (nI 1), .ref 30] (pw_feM (pw_heM m1 (pw_rem A) (pw_k (pw_rem A))) (pw_rem A) (pw_wrs (pw_rem A)) (pw_k (pw_rem A)))
          refine pw_blk (pc' := 310) [.iastore, .aload 0] (by decide +kernel) ?_
          refine ⟨1, rfl, by first | omega | exact pw_g_lt | (have := pw_b43 hok1 (show ix < 6 by omega); omega), ?_⟩
          show pw_V x m_X8_feast 4 Z 310 [(0, .ref 26), (1, .int (nI (pw_wrs (pw_rem A)))), (2, .int (nI (pw_ob (pw_fam (pw_rem A)) (pw_k (pw_rem A))))), (3, .int (nI (pw_k (pw_rem A))))] [.ref 26] (pw_up (pw_feM (pw_heM m1 (pw_rem A) (pw_k (pw_rem A))) (pw_rem A) (pw_wrs (pw_rem A)) (pw_k (pw_rem A))) 30 1 (nI (pw_an (pw_g (pw_rem A) 42 1) (pw_wrs (pw_rem A)))))
          refine pw_cV (vs := []) (rest := []) k_X8_allRise (c_mrise (pw_up (pw_feM (pw_heM m1 (pw_rem A) (pw_k (pw_rem A))) (pw_rem A) (pw_wrs (pw_rem A)) (pw_k (pw_rem A))) 30 1 (nI (pw_an (pw_g (pw_rem A) 42 1) (pw_wrs (pw_rem A)))))) l_8_213 rfl rfl rfl rfl (by omega) (Nat.le_of_ble_eq_true rfl) (by decide +kernel) ?_
          rintro _ m1 ⟨rfl, e1⟩
          rw [e1]
          clear e1 m1
          show pw_V x m_X8_feast 4 Z 313 [(0, .ref 26), (1, .int (nI (pw_wrs (pw_rem A)))), (2, .int (nI (pw_ob (pw_fam (pw_rem A)) (pw_k (pw_rem A))))), (3, .int (nI (pw_k (pw_rem A))))] [] (pw_rsM (pw_up (pw_feM (pw_heM m1 (pw_rem A) (pw_k (pw_rem A))) (pw_rem A) (pw_wrs (pw_rem A)) (pw_k (pw_rem A))) 30 1 (nI (pw_an (pw_g (pw_rem A) 42 1) (pw_wrs (pw_rem A))))) 6)
          have d0 : (pw_rsM (pw_up (pw_feM (pw_heM m1 (pw_rem A) (pw_k (pw_rem A))) (pw_rem A) (pw_wrs (pw_rem A)) (pw_k (pw_rem A))) 30 1 (nI (pw_an (pw_g (pw_rem A) 42 1) (pw_wrs (pw_rem A))))) 6) 30 0 = nI (pw_g A 42 0) := by
            unfold pw_rsM
            rw [if_pos rfl, if_neg (by omega), pw_up_eq]
            unfold upd
            rw [if_neg (by omega), pw_feM_n (by omega) (by omega), pw_heM_o (by omega), mv_d hv1 hok1]
            unfold pw_g
            rw [pw_rem_o bx (by omega) (by omega)]
          refine pw_blk (pc' := 324) [.aload 0, .getfield 808, .iconst 0, .dup2, .iaload, .iconst 1, .iadd, .iastore, .iload 1] (by decide +kernel) ?_
          refine ⟨0, rfl, by first | omega | exact pw_g_lt | (have := pw_b43 hok1 (show ix < 6 by omega); omega), ?_⟩
          refine ⟨0, rfl, by first | omega | exact pw_g_lt | (have := pw_b43 hok1 (show ix < 6 by omega); omega), ?_⟩
          show pw_V x m_X8_feast 4 Z 324 [(0, .ref 26), (1, .int (nI (pw_wrs (pw_rem A)))), (2, .int (nI (pw_ob (pw_fam (pw_rem A)) (pw_k (pw_rem A))))), (3, .int (nI (pw_k (pw_rem A))))] [.int (nI (pw_wrs (pw_rem A)))] (pw_up (pw_rsM (pw_up (pw_feM (pw_heM m1 (pw_rem A) (pw_k (pw_rem A))) (pw_rem A) (pw_wrs (pw_rem A)) (pw_k (pw_rem A))) 30 1 (nI (pw_an (pw_g (pw_rem A) 42 1) (pw_wrs (pw_rem A))))) 6) 30 0 (((pw_rsM (pw_up (pw_feM (pw_heM m1 (pw_rem A) (pw_k (pw_rem A))) (pw_rem A) (pw_wrs (pw_rem A)) (pw_k (pw_rem A))) 30 1 (nI (pw_an (pw_g (pw_rem A) 42 1) (pw_wrs (pw_rem A))))) 6) 30 0) + (nI 1)))
          rw [show (pw_rsM (pw_up (pw_feM (pw_heM m1 (pw_rem A) (pw_k (pw_rem A))) (pw_rem A) (pw_wrs (pw_rem A)) (pw_k (pw_rem A))) 30 1 (nI (pw_an (pw_g (pw_rem A) 42 1) (pw_wrs (pw_rem A))))) 6) 30 0 = nI (pw_g A 42 0) from d0]
          rw [show (nI (pw_g A 42 0)) + (nI 1) = nI ((pw_g A 42 0) + 1) from nI_add _ _]
          rw [← hZ]
          refine pw_ri (by decide +kernel) ?_
          refine ⟨by unfold F_feast; rw [if_neg h4, if_pos (by omega)], ?_, fun c hc => ?_⟩
          · unfold G_feast; rw [if_neg h4, if_pos (by omega)]; exact mv_feast hok hv1
          · rw [pw_up_ne (by omega)]; unfold pw_rsM; rw [if_neg (by omega), pw_up_ne (by omega), pw_feM_o (by omega), pw_heM_o (by omega)]; exact hf1 c hc
        · refine pw_blk (pc' := 187) [.aload 0, .getfield 808, .iconst (14), .iload 3, .iadd, .iaload, .iconst (-1)] (by decide +kernel) ?_
          refine ⟨(14 + ix), (show (nI 14) + (nI ix) = nI (14 + ix) from by rw [show (nI 14) + (nI ix) = nI (14 + ix) from nI_add _ _]), by first | omega | exact pw_g_lt | (have := pw_b43 hok1 (show ix < 6 by omega); omega), ?_⟩
          show pw_V x m_X8_feast 4 Z 187 [(0, .ref 26), (1, .int (nI (pw_wrs (pw_rem A)))), (2, .int (nI (pw_ob (pw_fam (pw_rem A)) (pw_k (pw_rem A))))), (3, .int (nI ix))] [.int (-1), .int ((pw_feM (pw_heM m1 (pw_rem A) (pw_k (pw_rem A))) (pw_rem A) (pw_wrs (pw_rem A)) ix) 30 (14 + ix))] (pw_feM (pw_heM m1 (pw_rem A) (pw_k (pw_rem A))) (pw_rem A) (pw_wrs (pw_rem A)) ix)
          rw [show (pw_feM (pw_heM m1 (pw_rem A) (pw_k (pw_rem A))) (pw_rem A) (pw_wrs (pw_rem A)) ix) 30 (14 + ix) = pw_o (pw_pl (pw_rem A) ix) from (by rw [pw_feM_n (by omega) (by omega), pw_heM_o (by omega)]; exact mv_pl hv1 hok1 (i := ix) (by omega))]
          rcases h187 : pw_pl (pw_rem A) ix with _ | s187
          · show pw_V x m_X8_feast 4 Z 187 [(0, .ref 26), (1, .int (nI (pw_wrs (pw_rem A)))), (2, .int (nI (pw_ob (pw_fam (pw_rem A)) (pw_k (pw_rem A))))), (3, .int (nI ix))] [.int (-1), .int (-1)] (pw_feM (pw_heM m1 (pw_rem A) (pw_k (pw_rem A))) (pw_rem A) (pw_wrs (pw_rem A)) ix)
            refine pw_ic_eq (tgt := 202) (off := 15) (by decide +kernel) (by decide) (fun _ => ?_) (fun h => absurd rfl h)
            refine pw_blk (pc' := 215) [.iconst 0, .istore 4, .aload 0, .getfield 808, .iconst 2, .iload 3, .iadd, .iaload, .iload 2, .iload 3] (by decide +kernel) ?_
            refine ⟨(2 + ix), (show (nI 2) + (nI ix) = nI (2 + ix) from by rw [show (nI 2) + (nI ix) = nI (2 + ix) from nI_add _ _]), by first | omega | exact pw_g_lt | (have := pw_b43 hok1 (show ix < 6 by omega); omega), ?_⟩
            show pw_V x m_X8_feast 4 Z 215 [(4, .int (nI 0)), (0, .ref 26), (1, .int (nI (pw_wrs (pw_rem A)))), (2, .int (nI (pw_ob (pw_fam (pw_rem A)) (pw_k (pw_rem A))))), (3, .int (nI ix))] [.int (nI ix), .int (nI (pw_ob (pw_fam (pw_rem A)) (pw_k (pw_rem A)))), .int ((pw_feM (pw_heM m1 (pw_rem A) (pw_k (pw_rem A))) (pw_rem A) (pw_wrs (pw_rem A)) ix) 30 (2 + ix))] (pw_feM (pw_heM m1 (pw_rem A) (pw_k (pw_rem A))) (pw_rem A) (pw_wrs (pw_rem A)) ix)
            rw [show (pw_feM (pw_heM m1 (pw_rem A) (pw_k (pw_rem A))) (pw_rem A) (pw_wrs (pw_rem A)) ix) 30 (2 + ix) = nI (pw_g (pw_rem A) 43 ix) from (by rw [pw_feM_n (by omega) (by omega), pw_heM_o (by omega)]; exact mv_rn hv1 hok1 (i := ix) (by omega))]
            refine pw_cS (vs := [.int (nI (pw_ob (pw_fam (pw_rem A)) (pw_k (pw_rem A)))), .int (nI ix)]) (rest := [.int (nI (pw_g (pw_rem A) 43 ix))]) k_X8_has (c_mhasN (pw_ob (pw_fam (pw_rem A)) (pw_k (pw_rem A))) ix (pw_feM (pw_heM m1 (pw_rem A) (pw_k (pw_rem A))) (pw_rem A) (pw_wrs (pw_rem A)) ix) (by first | omega | exact pw_g_lt | exact pw_ob_lt31 (by omega)) (by first | omega | exact pw_g_lt | (have := pw_b43 hok1 (show ix < 6 by omega); omega))) l_8_86 rfl (by omega) (Nat.le_of_ble_eq_true rfl) (by decide +kernel) ?_
            rintro _ m1 ⟨rfl, e1⟩
            rw [e1]
            clear e1 m1
            show pw_V x m_X8_feast 4 Z 218 [(4, .int (nI 0)), (0, .ref 26), (1, .int (nI (pw_wrs (pw_rem A)))), (2, .int (nI (pw_ob (pw_fam (pw_rem A)) (pw_k (pw_rem A))))), (3, .int (nI ix))] [.int (pw_b (((pw_ob (pw_fam (pw_rem A)) (pw_k (pw_rem A)))).testBit ix)), .int (nI (pw_g (pw_rem A) 43 ix))] (pw_feM (pw_heM m1 (pw_rem A) (pw_k (pw_rem A))) (pw_rem A) (pw_wrs (pw_rem A)) ix)
            refine pw_ib_eq (tgt := 225) (off := 7) (by decide +kernel) (by decide) (fun h218 => ?_) (fun h218 => ?_)
            · refine pw_blk (pc' := 227) [.iconst (-1), .iadd] (by decide +kernel) ?_
              show pw_V x m_X8_feast 4 Z 227 [(4, .int (nI 0)), (0, .ref 26), (1, .int (nI (pw_wrs (pw_rem A)))), (2, .int (nI (pw_ob (pw_fam (pw_rem A)) (pw_k (pw_rem A))))), (3, .int (nI ix))] [.int ((nI (pw_g (pw_rem A) 43 ix)) + (-1))] (pw_feM (pw_heM m1 (pw_rem A) (pw_k (pw_rem A))) (pw_rem A) (pw_wrs (pw_rem A)) ix)
              rcases Nat.eq_zero_or_pos (pw_g (pw_rem A) 43 ix) with z43 | z43
              · rw [show (nI (pw_g (pw_rem A) 43 ix)) + (-1) = -1 from by rw [z43]; decide]
                refine pw_blk (pc' := 238) [.istore 5, .aload 0, .getfield 808, .iconst 2, .iload 3, .iadd, .iload 4] (by decide +kernel) ?_
                show pw_V x m_X8_feast 4 Z 238 [(5, .int (-1)), (4, .int (nI 0)), (0, .ref 26), (1, .int (nI (pw_wrs (pw_rem A)))), (2, .int (nI (pw_ob (pw_fam (pw_rem A)) (pw_k (pw_rem A))))), (3, .int (nI ix))] [.int (nI 0), .int ((nI 2) + (nI ix)), .ref 30] (pw_feM (pw_heM m1 (pw_rem A) (pw_k (pw_rem A))) (pw_rem A) (pw_wrs (pw_rem A)) ix)
                rw [show (nI 2) + (nI ix) = nI (2 + ix) from nI_add _ _]
                refine pw_iz_ne (tgt := 252) (off := 14) (by omega) (by decide +kernel) (by decide) (fun h => by omega) (fun _ => ?_)
                refine pw_blk (pc' := 249) [.aload 0, .getfield 808, .iconst 2, .iload 3, .iadd, .iaload] (by decide +kernel) ?_
                refine ⟨(2 + ix), (show (nI 2) + (nI ix) = nI (2 + ix) from by rw [show (nI 2) + (nI ix) = nI (2 + ix) from nI_add _ _]), by first | omega | exact pw_g_lt | (have := pw_b43 hok1 (show ix < 6 by omega); omega), ?_⟩
                show pw_V x m_X8_feast 4 Z 249 [(5, .int (-1)), (4, .int (nI 0)), (0, .ref 26), (1, .int (nI (pw_wrs (pw_rem A)))), (2, .int (nI (pw_ob (pw_fam (pw_rem A)) (pw_k (pw_rem A))))), (3, .int (nI ix))] [.int ((pw_feM (pw_heM m1 (pw_rem A) (pw_k (pw_rem A))) (pw_rem A) (pw_wrs (pw_rem A)) ix) 30 (2 + ix)), .int (nI (2 + ix)), .ref 30] (pw_feM (pw_heM m1 (pw_rem A) (pw_k (pw_rem A))) (pw_rem A) (pw_wrs (pw_rem A)) ix)
                rw [show (pw_feM (pw_heM m1 (pw_rem A) (pw_k (pw_rem A))) (pw_rem A) (pw_wrs (pw_rem A)) ix) 30 (2 + ix) = nI (pw_g (pw_rem A) 43 ix) from (by rw [pw_feM_n (by omega) (by omega), pw_heM_o (by omega)]; exact mv_rn hv1 hok1 (i := ix) (by omega))]
                refine pw_goto (tgt := 275) (off := 26) (by decide +kernel) (by decide) ?_
                refine pw_blk (pc' := 294) [.iastore, .aload 0, .getfield 808, .iconst (8), .iload 3, .iadd, .aload 0, .getfield 831, .iload 3, .iaload, .iastore, .iinc 3 1] (by decide +kernel) ?_
                refine ⟨(2 + ix), rfl, by first | omega | exact pw_g_lt | (have := pw_b43 hok1 (show ix < 6 by omega); omega), ?_⟩
                refine ⟨ix, rfl, by first | omega | exact pw_g_lt | (have := pw_b43 hok1 (show ix < 6 by omega); omega), ?_⟩
                refine ⟨(8 + ix), (show (nI 8) + (nI ix) = nI (8 + ix) from by rw [show (nI 8) + (nI ix) = nI (8 + ix) from nI_add _ _]), by first | omega | exact pw_g_lt | (have := pw_b43 hok1 (show ix < 6 by omega); omega), ?_⟩
                show pw_V x m_X8_feast 4 Z 294 [(3, .int ((nI ix) + (nI 1))), (5, .int (-1)), (4, .int (nI 0)), (0, .ref 26), (1, .int (nI (pw_wrs (pw_rem A)))), (2, .int (nI (pw_ob (pw_fam (pw_rem A)) (pw_k (pw_rem A)))))] [] (pw_up (pw_up (pw_feM (pw_heM m1 (pw_rem A) (pw_k (pw_rem A))) (pw_rem A) (pw_wrs (pw_rem A)) ix) 30 (2 + ix) (nI (pw_g (pw_rem A) 43 ix))) 30 (8 + ix) ((pw_feM (pw_heM m1 (pw_rem A) (pw_k (pw_rem A))) (pw_rem A) (pw_wrs (pw_rem A)) ix) 39 ix))
                rw [show (nI ix) + (nI 1) = nI (ix + 1) from nI_add _ _]
                rw [show (pw_feM (pw_heM m1 (pw_rem A) (pw_k (pw_rem A))) (pw_rem A) (pw_wrs (pw_rem A)) ix) 39 ix = pw_nwv (pw_rem A) ix from (by rw [pw_feM_o (by omega)]; unfold pw_heM pw_c6; rw [if_pos rfl, if_pos (by omega)])]
                refine pw_goto (tgt := 169) (off := -125) (by decide +kernel) (by decide) ?_
                rw [show nI (pw_g (pw_rem A) 43 ix) = pw_crv (pw_rem A) (pw_wrs (pw_rem A)) ix from by
                    unfold pw_crv
                    rw [h187]
                    exact (pw_q43 hok1 (show ix < 6 by omega)).symm]
                rw [pw_feM_s (by omega)]
                refine pw_lvp [3, 4, 5, 0] rfl ?_
                exact ih (by omega)
              · rw [show (nI (pw_g (pw_rem A) 43 ix)) + (-1) = nI (pw_g (pw_rem A) 43 ix - 1) from pw_nIm1 z43 pw_g_lt]
                refine pw_blk (pc' := 238) [.istore 5, .aload 0, .getfield 808, .iconst 2, .iload 3, .iadd, .iload 4] (by decide +kernel) ?_
                show pw_V x m_X8_feast 4 Z 238 [(5, .int (nI (pw_g (pw_rem A) 43 ix - 1))), (4, .int (nI 0)), (0, .ref 26), (1, .int (nI (pw_wrs (pw_rem A)))), (2, .int (nI (pw_ob (pw_fam (pw_rem A)) (pw_k (pw_rem A))))), (3, .int (nI ix))] [.int (nI 0), .int ((nI 2) + (nI ix)), .ref 30] (pw_feM (pw_heM m1 (pw_rem A) (pw_k (pw_rem A))) (pw_rem A) (pw_wrs (pw_rem A)) ix)
                rw [show (nI 2) + (nI ix) = nI (2 + ix) from nI_add _ _]
                refine pw_iz_ne (tgt := 252) (off := 14) (by omega) (by decide +kernel) (by decide) (fun h => by omega) (fun _ => ?_)
                refine pw_blk (pc' := 249) [.aload 0, .getfield 808, .iconst 2, .iload 3, .iadd, .iaload] (by decide +kernel) ?_
                refine ⟨(2 + ix), (show (nI 2) + (nI ix) = nI (2 + ix) from by rw [show (nI 2) + (nI ix) = nI (2 + ix) from nI_add _ _]), by first | omega | exact pw_g_lt | (have := pw_b43 hok1 (show ix < 6 by omega); omega), ?_⟩
                show pw_V x m_X8_feast 4 Z 249 [(5, .int (nI (pw_g (pw_rem A) 43 ix - 1))), (4, .int (nI 0)), (0, .ref 26), (1, .int (nI (pw_wrs (pw_rem A)))), (2, .int (nI (pw_ob (pw_fam (pw_rem A)) (pw_k (pw_rem A))))), (3, .int (nI ix))] [.int ((pw_feM (pw_heM m1 (pw_rem A) (pw_k (pw_rem A))) (pw_rem A) (pw_wrs (pw_rem A)) ix) 30 (2 + ix)), .int (nI (2 + ix)), .ref 30] (pw_feM (pw_heM m1 (pw_rem A) (pw_k (pw_rem A))) (pw_rem A) (pw_wrs (pw_rem A)) ix)
                rw [show (pw_feM (pw_heM m1 (pw_rem A) (pw_k (pw_rem A))) (pw_rem A) (pw_wrs (pw_rem A)) ix) 30 (2 + ix) = nI (pw_g (pw_rem A) 43 ix) from (by rw [pw_feM_n (by omega) (by omega), pw_heM_o (by omega)]; exact mv_rn hv1 hok1 (i := ix) (by omega))]
                refine pw_goto (tgt := 275) (off := 26) (by decide +kernel) (by decide) ?_
                refine pw_blk (pc' := 294) [.iastore, .aload 0, .getfield 808, .iconst (8), .iload 3, .iadd, .aload 0, .getfield 831, .iload 3, .iaload, .iastore, .iinc 3 1] (by decide +kernel) ?_
                refine ⟨(2 + ix), rfl, by first | omega | exact pw_g_lt | (have := pw_b43 hok1 (show ix < 6 by omega); omega), ?_⟩
                refine ⟨ix, rfl, by first | omega | exact pw_g_lt | (have := pw_b43 hok1 (show ix < 6 by omega); omega), ?_⟩
                refine ⟨(8 + ix), (show (nI 8) + (nI ix) = nI (8 + ix) from by rw [show (nI 8) + (nI ix) = nI (8 + ix) from nI_add _ _]), by first | omega | exact pw_g_lt | (have := pw_b43 hok1 (show ix < 6 by omega); omega), ?_⟩
                show pw_V x m_X8_feast 4 Z 294 [(3, .int ((nI ix) + (nI 1))), (5, .int (nI (pw_g (pw_rem A) 43 ix - 1))), (4, .int (nI 0)), (0, .ref 26), (1, .int (nI (pw_wrs (pw_rem A)))), (2, .int (nI (pw_ob (pw_fam (pw_rem A)) (pw_k (pw_rem A)))))] [] (pw_up (pw_up (pw_feM (pw_heM m1 (pw_rem A) (pw_k (pw_rem A))) (pw_rem A) (pw_wrs (pw_rem A)) ix) 30 (2 + ix) (nI (pw_g (pw_rem A) 43 ix))) 30 (8 + ix) ((pw_feM (pw_heM m1 (pw_rem A) (pw_k (pw_rem A))) (pw_rem A) (pw_wrs (pw_rem A)) ix) 39 ix))
                rw [show (nI ix) + (nI 1) = nI (ix + 1) from nI_add _ _]
                rw [show (pw_feM (pw_heM m1 (pw_rem A) (pw_k (pw_rem A))) (pw_rem A) (pw_wrs (pw_rem A)) ix) 39 ix = pw_nwv (pw_rem A) ix from (by rw [pw_feM_o (by omega)]; unfold pw_heM pw_c6; rw [if_pos rfl, if_pos (by omega)])]
                refine pw_goto (tgt := 169) (off := -125) (by decide +kernel) (by decide) ?_
                rw [show nI (pw_g (pw_rem A) 43 ix) = pw_crv (pw_rem A) (pw_wrs (pw_rem A)) ix from by
                    unfold pw_crv
                    rw [h187]
                    exact (pw_q43 hok1 (show ix < 6 by omega)).symm]
                rw [pw_feM_s (by omega)]
                refine pw_lvp [3, 4, 5, 0] rfl ?_
                exact ih (by omega)
            · refine pw_blk (pc' := 222) [.iconst 1] (by decide +kernel) ?_
              show pw_V x m_X8_feast 4 Z 222 [(4, .int (nI 0)), (0, .ref 26), (1, .int (nI (pw_wrs (pw_rem A)))), (2, .int (nI (pw_ob (pw_fam (pw_rem A)) (pw_k (pw_rem A))))), (3, .int (nI ix))] [.int (nI 1), .int (nI (pw_g (pw_rem A) 43 ix))] (pw_feM (pw_heM m1 (pw_rem A) (pw_k (pw_rem A))) (pw_rem A) (pw_wrs (pw_rem A)) ix)
              refine pw_goto (tgt := 226) (off := 4) (by decide +kernel) (by decide) ?_
              refine pw_blk (pc' := 227) [.iadd] (by decide +kernel) ?_
              show pw_V x m_X8_feast 4 Z 227 [(4, .int (nI 0)), (0, .ref 26), (1, .int (nI (pw_wrs (pw_rem A)))), (2, .int (nI (pw_ob (pw_fam (pw_rem A)) (pw_k (pw_rem A))))), (3, .int (nI ix))] [.int ((nI (pw_g (pw_rem A) 43 ix)) + (nI 1))] (pw_feM (pw_heM m1 (pw_rem A) (pw_k (pw_rem A))) (pw_rem A) (pw_wrs (pw_rem A)) ix)
              rw [show (nI (pw_g (pw_rem A) 43 ix)) + (nI 1) = nI ((pw_g (pw_rem A) 43 ix) + 1) from nI_add _ _]
              refine pw_blk (pc' := 238) [.istore 5, .aload 0, .getfield 808, .iconst 2, .iload 3, .iadd, .iload 4] (by decide +kernel) ?_
              show pw_V x m_X8_feast 4 Z 238 [(5, .int (nI ((pw_g (pw_rem A) 43 ix) + 1))), (4, .int (nI 0)), (0, .ref 26), (1, .int (nI (pw_wrs (pw_rem A)))), (2, .int (nI (pw_ob (pw_fam (pw_rem A)) (pw_k (pw_rem A))))), (3, .int (nI ix))] [.int (nI 0), .int ((nI 2) + (nI ix)), .ref 30] (pw_feM (pw_heM m1 (pw_rem A) (pw_k (pw_rem A))) (pw_rem A) (pw_wrs (pw_rem A)) ix)
              rw [show (nI 2) + (nI ix) = nI (2 + ix) from nI_add _ _]
              refine pw_iz_ne (tgt := 252) (off := 14) (by omega) (by decide +kernel) (by decide) (fun h => by omega) (fun _ => ?_)
              refine pw_blk (pc' := 249) [.aload 0, .getfield 808, .iconst 2, .iload 3, .iadd, .iaload] (by decide +kernel) ?_
              refine ⟨(2 + ix), (show (nI 2) + (nI ix) = nI (2 + ix) from by rw [show (nI 2) + (nI ix) = nI (2 + ix) from nI_add _ _]), by first | omega | exact pw_g_lt | (have := pw_b43 hok1 (show ix < 6 by omega); omega), ?_⟩
              show pw_V x m_X8_feast 4 Z 249 [(5, .int (nI ((pw_g (pw_rem A) 43 ix) + 1))), (4, .int (nI 0)), (0, .ref 26), (1, .int (nI (pw_wrs (pw_rem A)))), (2, .int (nI (pw_ob (pw_fam (pw_rem A)) (pw_k (pw_rem A))))), (3, .int (nI ix))] [.int ((pw_feM (pw_heM m1 (pw_rem A) (pw_k (pw_rem A))) (pw_rem A) (pw_wrs (pw_rem A)) ix) 30 (2 + ix)), .int (nI (2 + ix)), .ref 30] (pw_feM (pw_heM m1 (pw_rem A) (pw_k (pw_rem A))) (pw_rem A) (pw_wrs (pw_rem A)) ix)
              rw [show (pw_feM (pw_heM m1 (pw_rem A) (pw_k (pw_rem A))) (pw_rem A) (pw_wrs (pw_rem A)) ix) 30 (2 + ix) = nI (pw_g (pw_rem A) 43 ix) from (by rw [pw_feM_n (by omega) (by omega), pw_heM_o (by omega)]; exact mv_rn hv1 hok1 (i := ix) (by omega))]
              refine pw_goto (tgt := 275) (off := 26) (by decide +kernel) (by decide) ?_
              refine pw_blk (pc' := 294) [.iastore, .aload 0, .getfield 808, .iconst (8), .iload 3, .iadd, .aload 0, .getfield 831, .iload 3, .iaload, .iastore, .iinc 3 1] (by decide +kernel) ?_
              refine ⟨(2 + ix), rfl, by first | omega | exact pw_g_lt | (have := pw_b43 hok1 (show ix < 6 by omega); omega), ?_⟩
              refine ⟨ix, rfl, by first | omega | exact pw_g_lt | (have := pw_b43 hok1 (show ix < 6 by omega); omega), ?_⟩
              refine ⟨(8 + ix), (show (nI 8) + (nI ix) = nI (8 + ix) from by rw [show (nI 8) + (nI ix) = nI (8 + ix) from nI_add _ _]), by first | omega | exact pw_g_lt | (have := pw_b43 hok1 (show ix < 6 by omega); omega), ?_⟩
              show pw_V x m_X8_feast 4 Z 294 [(3, .int ((nI ix) + (nI 1))), (5, .int (nI ((pw_g (pw_rem A) 43 ix) + 1))), (4, .int (nI 0)), (0, .ref 26), (1, .int (nI (pw_wrs (pw_rem A)))), (2, .int (nI (pw_ob (pw_fam (pw_rem A)) (pw_k (pw_rem A)))))] [] (pw_up (pw_up (pw_feM (pw_heM m1 (pw_rem A) (pw_k (pw_rem A))) (pw_rem A) (pw_wrs (pw_rem A)) ix) 30 (2 + ix) (nI (pw_g (pw_rem A) 43 ix))) 30 (8 + ix) ((pw_feM (pw_heM m1 (pw_rem A) (pw_k (pw_rem A))) (pw_rem A) (pw_wrs (pw_rem A)) ix) 39 ix))
              rw [show (nI ix) + (nI 1) = nI (ix + 1) from nI_add _ _]
              rw [show (pw_feM (pw_heM m1 (pw_rem A) (pw_k (pw_rem A))) (pw_rem A) (pw_wrs (pw_rem A)) ix) 39 ix = pw_nwv (pw_rem A) ix from (by rw [pw_feM_o (by omega)]; unfold pw_heM pw_c6; rw [if_pos rfl, if_pos (by omega)])]
              refine pw_goto (tgt := 169) (off := -125) (by decide +kernel) (by decide) ?_
              rw [show nI (pw_g (pw_rem A) 43 ix) = pw_crv (pw_rem A) (pw_wrs (pw_rem A)) ix from by
                  unfold pw_crv
                  rw [h187]
                  exact (pw_q43 hok1 (show ix < 6 by omega)).symm]
              rw [pw_feM_s (by omega)]
              refine pw_lvp [3, 4, 5, 0] rfl ?_
              exact ih (by omega)
          · show pw_V x m_X8_feast 4 Z 187 [(0, .ref 26), (1, .int (nI (pw_wrs (pw_rem A)))), (2, .int (nI (pw_ob (pw_fam (pw_rem A)) (pw_k (pw_rem A))))), (3, .int (nI ix))] [.int (-1), .int (nI s187)] (pw_feM (pw_heM m1 (pw_rem A) (pw_k (pw_rem A))) (pw_rem A) (pw_wrs (pw_rem A)) ix)
            have b187 := pw_mplb hok1 (i := ix) (by omega) h187
            refine pw_ic_eq (tgt := 202) (off := 15) (by decide +kernel) (by decide) (fun h => absurd h (pw_n1 (by first | omega | exact pw_g_lt | (have := pw_b43 hok1 (show ix < 6 by omega); omega)))) (fun _ => ?_)
            refine pw_blk (pc' := 192) [.iload 1, .iload 3] (by decide +kernel) ?_
            show pw_V x m_X8_feast 4 Z 192 [(0, .ref 26), (1, .int (nI (pw_wrs (pw_rem A)))), (2, .int (nI (pw_ob (pw_fam (pw_rem A)) (pw_k (pw_rem A))))), (3, .int (nI ix))] [.int (nI ix), .int (nI (pw_wrs (pw_rem A)))] (pw_feM (pw_heM m1 (pw_rem A) (pw_k (pw_rem A))) (pw_rem A) (pw_wrs (pw_rem A)) ix)
            refine pw_cS (vs := [.int (nI (pw_wrs (pw_rem A))), .int (nI ix)]) (rest := []) k_X8_has (c_mhasN (pw_wrs (pw_rem A)) ix (pw_feM (pw_heM m1 (pw_rem A) (pw_k (pw_rem A))) (pw_rem A) (pw_wrs (pw_rem A)) ix) (by first | omega | exact pw_g_lt | exact pw_ob_lt31 (by omega)) (by first | omega | exact pw_g_lt | (have := pw_b43 hok1 (show ix < 6 by omega); omega))) l_8_86 rfl (by omega) (Nat.le_of_ble_eq_true rfl) (by decide +kernel) ?_
            rintro _ m1 ⟨rfl, e1⟩
            rw [e1]
            clear e1 m1
            show pw_V x m_X8_feast 4 Z 195 [(0, .ref 26), (1, .int (nI (pw_wrs (pw_rem A)))), (2, .int (nI (pw_ob (pw_fam (pw_rem A)) (pw_k (pw_rem A))))), (3, .int (nI ix))] [.int (pw_b (((pw_wrs (pw_rem A))).testBit ix))] (pw_feM (pw_heM m1 (pw_rem A) (pw_k (pw_rem A))) (pw_rem A) (pw_wrs (pw_rem A)) ix)
            refine pw_ib_ne (tgt := 202) (off := 7) (by decide +kernel) (by decide) (fun h195 => ?_) (fun h195 => ?_)
            · refine pw_blk (pc' := 215) [.iconst 0, .istore 4, .aload 0, .getfield 808, .iconst 2, .iload 3, .iadd, .iaload, .iload 2, .iload 3] (by decide +kernel) ?_
              refine ⟨(2 + ix), (show (nI 2) + (nI ix) = nI (2 + ix) from by rw [show (nI 2) + (nI ix) = nI (2 + ix) from nI_add _ _]), by first | omega | exact pw_g_lt | (have := pw_b43 hok1 (show ix < 6 by omega); omega), ?_⟩
              show pw_V x m_X8_feast 4 Z 215 [(4, .int (nI 0)), (0, .ref 26), (1, .int (nI (pw_wrs (pw_rem A)))), (2, .int (nI (pw_ob (pw_fam (pw_rem A)) (pw_k (pw_rem A))))), (3, .int (nI ix))] [.int (nI ix), .int (nI (pw_ob (pw_fam (pw_rem A)) (pw_k (pw_rem A)))), .int ((pw_feM (pw_heM m1 (pw_rem A) (pw_k (pw_rem A))) (pw_rem A) (pw_wrs (pw_rem A)) ix) 30 (2 + ix))] (pw_feM (pw_heM m1 (pw_rem A) (pw_k (pw_rem A))) (pw_rem A) (pw_wrs (pw_rem A)) ix)
              rw [show (pw_feM (pw_heM m1 (pw_rem A) (pw_k (pw_rem A))) (pw_rem A) (pw_wrs (pw_rem A)) ix) 30 (2 + ix) = nI (pw_g (pw_rem A) 43 ix) from (by rw [pw_feM_n (by omega) (by omega), pw_heM_o (by omega)]; exact mv_rn hv1 hok1 (i := ix) (by omega))]
              refine pw_cS (vs := [.int (nI (pw_ob (pw_fam (pw_rem A)) (pw_k (pw_rem A)))), .int (nI ix)]) (rest := [.int (nI (pw_g (pw_rem A) 43 ix))]) k_X8_has (c_mhasN (pw_ob (pw_fam (pw_rem A)) (pw_k (pw_rem A))) ix (pw_feM (pw_heM m1 (pw_rem A) (pw_k (pw_rem A))) (pw_rem A) (pw_wrs (pw_rem A)) ix) (by first | omega | exact pw_g_lt | exact pw_ob_lt31 (by omega)) (by first | omega | exact pw_g_lt | (have := pw_b43 hok1 (show ix < 6 by omega); omega))) l_8_86 rfl (by omega) (Nat.le_of_ble_eq_true rfl) (by decide +kernel) ?_
              rintro _ m1 ⟨rfl, e1⟩
              rw [e1]
              clear e1 m1
              show pw_V x m_X8_feast 4 Z 218 [(4, .int (nI 0)), (0, .ref 26), (1, .int (nI (pw_wrs (pw_rem A)))), (2, .int (nI (pw_ob (pw_fam (pw_rem A)) (pw_k (pw_rem A))))), (3, .int (nI ix))] [.int (pw_b (((pw_ob (pw_fam (pw_rem A)) (pw_k (pw_rem A)))).testBit ix)), .int (nI (pw_g (pw_rem A) 43 ix))] (pw_feM (pw_heM m1 (pw_rem A) (pw_k (pw_rem A))) (pw_rem A) (pw_wrs (pw_rem A)) ix)
              refine pw_ib_eq (tgt := 225) (off := 7) (by decide +kernel) (by decide) (fun h218 => ?_) (fun h218 => ?_)
              · refine pw_blk (pc' := 227) [.iconst (-1), .iadd] (by decide +kernel) ?_
                show pw_V x m_X8_feast 4 Z 227 [(4, .int (nI 0)), (0, .ref 26), (1, .int (nI (pw_wrs (pw_rem A)))), (2, .int (nI (pw_ob (pw_fam (pw_rem A)) (pw_k (pw_rem A))))), (3, .int (nI ix))] [.int ((nI (pw_g (pw_rem A) 43 ix)) + (-1))] (pw_feM (pw_heM m1 (pw_rem A) (pw_k (pw_rem A))) (pw_rem A) (pw_wrs (pw_rem A)) ix)
                rcases Nat.eq_zero_or_pos (pw_g (pw_rem A) 43 ix) with z43 | z43
                · rw [show (nI (pw_g (pw_rem A) 43 ix)) + (-1) = -1 from by rw [z43]; decide]
                  refine pw_blk (pc' := 238) [.istore 5, .aload 0, .getfield 808, .iconst 2, .iload 3, .iadd, .iload 4] (by decide +kernel) ?_
                  show pw_V x m_X8_feast 4 Z 238 [(5, .int (-1)), (4, .int (nI 0)), (0, .ref 26), (1, .int (nI (pw_wrs (pw_rem A)))), (2, .int (nI (pw_ob (pw_fam (pw_rem A)) (pw_k (pw_rem A))))), (3, .int (nI ix))] [.int (nI 0), .int ((nI 2) + (nI ix)), .ref 30] (pw_feM (pw_heM m1 (pw_rem A) (pw_k (pw_rem A))) (pw_rem A) (pw_wrs (pw_rem A)) ix)
                  rw [show (nI 2) + (nI ix) = nI (2 + ix) from nI_add _ _]
                  refine pw_iz_ne (tgt := 252) (off := 14) (by omega) (by decide +kernel) (by decide) (fun h => by omega) (fun _ => ?_)
                  refine pw_blk (pc' := 249) [.aload 0, .getfield 808, .iconst 2, .iload 3, .iadd, .iaload] (by decide +kernel) ?_
                  refine ⟨(2 + ix), (show (nI 2) + (nI ix) = nI (2 + ix) from by rw [show (nI 2) + (nI ix) = nI (2 + ix) from nI_add _ _]), by first | omega | exact pw_g_lt | (have := pw_b43 hok1 (show ix < 6 by omega); omega), ?_⟩
                  show pw_V x m_X8_feast 4 Z 249 [(5, .int (-1)), (4, .int (nI 0)), (0, .ref 26), (1, .int (nI (pw_wrs (pw_rem A)))), (2, .int (nI (pw_ob (pw_fam (pw_rem A)) (pw_k (pw_rem A))))), (3, .int (nI ix))] [.int ((pw_feM (pw_heM m1 (pw_rem A) (pw_k (pw_rem A))) (pw_rem A) (pw_wrs (pw_rem A)) ix) 30 (2 + ix)), .int (nI (2 + ix)), .ref 30] (pw_feM (pw_heM m1 (pw_rem A) (pw_k (pw_rem A))) (pw_rem A) (pw_wrs (pw_rem A)) ix)
                  rw [show (pw_feM (pw_heM m1 (pw_rem A) (pw_k (pw_rem A))) (pw_rem A) (pw_wrs (pw_rem A)) ix) 30 (2 + ix) = nI (pw_g (pw_rem A) 43 ix) from (by rw [pw_feM_n (by omega) (by omega), pw_heM_o (by omega)]; exact mv_rn hv1 hok1 (i := ix) (by omega))]
                  refine pw_goto (tgt := 275) (off := 26) (by decide +kernel) (by decide) ?_
                  refine pw_blk (pc' := 294) [.iastore, .aload 0, .getfield 808, .iconst (8), .iload 3, .iadd, .aload 0, .getfield 831, .iload 3, .iaload, .iastore, .iinc 3 1] (by decide +kernel) ?_
                  refine ⟨(2 + ix), rfl, by first | omega | exact pw_g_lt | (have := pw_b43 hok1 (show ix < 6 by omega); omega), ?_⟩
                  refine ⟨ix, rfl, by first | omega | exact pw_g_lt | (have := pw_b43 hok1 (show ix < 6 by omega); omega), ?_⟩
                  refine ⟨(8 + ix), (show (nI 8) + (nI ix) = nI (8 + ix) from by rw [show (nI 8) + (nI ix) = nI (8 + ix) from nI_add _ _]), by first | omega | exact pw_g_lt | (have := pw_b43 hok1 (show ix < 6 by omega); omega), ?_⟩
                  show pw_V x m_X8_feast 4 Z 294 [(3, .int ((nI ix) + (nI 1))), (5, .int (-1)), (4, .int (nI 0)), (0, .ref 26), (1, .int (nI (pw_wrs (pw_rem A)))), (2, .int (nI (pw_ob (pw_fam (pw_rem A)) (pw_k (pw_rem A)))))] [] (pw_up (pw_up (pw_feM (pw_heM m1 (pw_rem A) (pw_k (pw_rem A))) (pw_rem A) (pw_wrs (pw_rem A)) ix) 30 (2 + ix) (nI (pw_g (pw_rem A) 43 ix))) 30 (8 + ix) ((pw_feM (pw_heM m1 (pw_rem A) (pw_k (pw_rem A))) (pw_rem A) (pw_wrs (pw_rem A)) ix) 39 ix))
                  rw [show (nI ix) + (nI 1) = nI (ix + 1) from nI_add _ _]
                  rw [show (pw_feM (pw_heM m1 (pw_rem A) (pw_k (pw_rem A))) (pw_rem A) (pw_wrs (pw_rem A)) ix) 39 ix = pw_nwv (pw_rem A) ix from (by rw [pw_feM_o (by omega)]; unfold pw_heM pw_c6; rw [if_pos rfl, if_pos (by omega)])]
                  refine pw_goto (tgt := 169) (off := -125) (by decide +kernel) (by decide) ?_
                  rw [show nI (pw_g (pw_rem A) 43 ix) = pw_crv (pw_rem A) (pw_wrs (pw_rem A)) ix from by
                      unfold pw_crv
                      rw [h187]
                      dsimp only
                      rw [if_pos h195]
                      exact (pw_q43 hok1 (show ix < 6 by omega)).symm]
                  rw [pw_feM_s (by omega)]
                  refine pw_lvp [3, 4, 5, 0] rfl ?_
                  exact ih (by omega)
                · rw [show (nI (pw_g (pw_rem A) 43 ix)) + (-1) = nI (pw_g (pw_rem A) 43 ix - 1) from pw_nIm1 z43 pw_g_lt]
                  refine pw_blk (pc' := 238) [.istore 5, .aload 0, .getfield 808, .iconst 2, .iload 3, .iadd, .iload 4] (by decide +kernel) ?_
                  show pw_V x m_X8_feast 4 Z 238 [(5, .int (nI (pw_g (pw_rem A) 43 ix - 1))), (4, .int (nI 0)), (0, .ref 26), (1, .int (nI (pw_wrs (pw_rem A)))), (2, .int (nI (pw_ob (pw_fam (pw_rem A)) (pw_k (pw_rem A))))), (3, .int (nI ix))] [.int (nI 0), .int ((nI 2) + (nI ix)), .ref 30] (pw_feM (pw_heM m1 (pw_rem A) (pw_k (pw_rem A))) (pw_rem A) (pw_wrs (pw_rem A)) ix)
                  rw [show (nI 2) + (nI ix) = nI (2 + ix) from nI_add _ _]
                  refine pw_iz_ne (tgt := 252) (off := 14) (by omega) (by decide +kernel) (by decide) (fun h => by omega) (fun _ => ?_)
                  refine pw_blk (pc' := 249) [.aload 0, .getfield 808, .iconst 2, .iload 3, .iadd, .iaload] (by decide +kernel) ?_
                  refine ⟨(2 + ix), (show (nI 2) + (nI ix) = nI (2 + ix) from by rw [show (nI 2) + (nI ix) = nI (2 + ix) from nI_add _ _]), by first | omega | exact pw_g_lt | (have := pw_b43 hok1 (show ix < 6 by omega); omega), ?_⟩
                  show pw_V x m_X8_feast 4 Z 249 [(5, .int (nI (pw_g (pw_rem A) 43 ix - 1))), (4, .int (nI 0)), (0, .ref 26), (1, .int (nI (pw_wrs (pw_rem A)))), (2, .int (nI (pw_ob (pw_fam (pw_rem A)) (pw_k (pw_rem A))))), (3, .int (nI ix))] [.int ((pw_feM (pw_heM m1 (pw_rem A) (pw_k (pw_rem A))) (pw_rem A) (pw_wrs (pw_rem A)) ix) 30 (2 + ix)), .int (nI (2 + ix)), .ref 30] (pw_feM (pw_heM m1 (pw_rem A) (pw_k (pw_rem A))) (pw_rem A) (pw_wrs (pw_rem A)) ix)
                  rw [show (pw_feM (pw_heM m1 (pw_rem A) (pw_k (pw_rem A))) (pw_rem A) (pw_wrs (pw_rem A)) ix) 30 (2 + ix) = nI (pw_g (pw_rem A) 43 ix) from (by rw [pw_feM_n (by omega) (by omega), pw_heM_o (by omega)]; exact mv_rn hv1 hok1 (i := ix) (by omega))]
                  refine pw_goto (tgt := 275) (off := 26) (by decide +kernel) (by decide) ?_
                  refine pw_blk (pc' := 294) [.iastore, .aload 0, .getfield 808, .iconst (8), .iload 3, .iadd, .aload 0, .getfield 831, .iload 3, .iaload, .iastore, .iinc 3 1] (by decide +kernel) ?_
                  refine ⟨(2 + ix), rfl, by first | omega | exact pw_g_lt | (have := pw_b43 hok1 (show ix < 6 by omega); omega), ?_⟩
                  refine ⟨ix, rfl, by first | omega | exact pw_g_lt | (have := pw_b43 hok1 (show ix < 6 by omega); omega), ?_⟩
                  refine ⟨(8 + ix), (show (nI 8) + (nI ix) = nI (8 + ix) from by rw [show (nI 8) + (nI ix) = nI (8 + ix) from nI_add _ _]), by first | omega | exact pw_g_lt | (have := pw_b43 hok1 (show ix < 6 by omega); omega), ?_⟩
                  show pw_V x m_X8_feast 4 Z 294 [(3, .int ((nI ix) + (nI 1))), (5, .int (nI (pw_g (pw_rem A) 43 ix - 1))), (4, .int (nI 0)), (0, .ref 26), (1, .int (nI (pw_wrs (pw_rem A)))), (2, .int (nI (pw_ob (pw_fam (pw_rem A)) (pw_k (pw_rem A)))))] [] (pw_up (pw_up (pw_feM (pw_heM m1 (pw_rem A) (pw_k (pw_rem A))) (pw_rem A) (pw_wrs (pw_rem A)) ix) 30 (2 + ix) (nI (pw_g (pw_rem A) 43 ix))) 30 (8 + ix) ((pw_feM (pw_heM m1 (pw_rem A) (pw_k (pw_rem A))) (pw_rem A) (pw_wrs (pw_rem A)) ix) 39 ix))
                  rw [show (nI ix) + (nI 1) = nI (ix + 1) from nI_add _ _]
                  rw [show (pw_feM (pw_heM m1 (pw_rem A) (pw_k (pw_rem A))) (pw_rem A) (pw_wrs (pw_rem A)) ix) 39 ix = pw_nwv (pw_rem A) ix from (by rw [pw_feM_o (by omega)]; unfold pw_heM pw_c6; rw [if_pos rfl, if_pos (by omega)])]
                  refine pw_goto (tgt := 169) (off := -125) (by decide +kernel) (by decide) ?_
                  rw [show nI (pw_g (pw_rem A) 43 ix) = pw_crv (pw_rem A) (pw_wrs (pw_rem A)) ix from by
                      unfold pw_crv
                      rw [h187]
                      dsimp only
                      rw [if_pos h195]
                      exact (pw_q43 hok1 (show ix < 6 by omega)).symm]
                  rw [pw_feM_s (by omega)]
                  refine pw_lvp [3, 4, 5, 0] rfl ?_
                  exact ih (by omega)
              · refine pw_blk (pc' := 222) [.iconst 1] (by decide +kernel) ?_
                show pw_V x m_X8_feast 4 Z 222 [(4, .int (nI 0)), (0, .ref 26), (1, .int (nI (pw_wrs (pw_rem A)))), (2, .int (nI (pw_ob (pw_fam (pw_rem A)) (pw_k (pw_rem A))))), (3, .int (nI ix))] [.int (nI 1), .int (nI (pw_g (pw_rem A) 43 ix))] (pw_feM (pw_heM m1 (pw_rem A) (pw_k (pw_rem A))) (pw_rem A) (pw_wrs (pw_rem A)) ix)
                refine pw_goto (tgt := 226) (off := 4) (by decide +kernel) (by decide) ?_
                refine pw_blk (pc' := 227) [.iadd] (by decide +kernel) ?_
                show pw_V x m_X8_feast 4 Z 227 [(4, .int (nI 0)), (0, .ref 26), (1, .int (nI (pw_wrs (pw_rem A)))), (2, .int (nI (pw_ob (pw_fam (pw_rem A)) (pw_k (pw_rem A))))), (3, .int (nI ix))] [.int ((nI (pw_g (pw_rem A) 43 ix)) + (nI 1))] (pw_feM (pw_heM m1 (pw_rem A) (pw_k (pw_rem A))) (pw_rem A) (pw_wrs (pw_rem A)) ix)
                rw [show (nI (pw_g (pw_rem A) 43 ix)) + (nI 1) = nI ((pw_g (pw_rem A) 43 ix) + 1) from nI_add _ _]
                refine pw_blk (pc' := 238) [.istore 5, .aload 0, .getfield 808, .iconst 2, .iload 3, .iadd, .iload 4] (by decide +kernel) ?_
                show pw_V x m_X8_feast 4 Z 238 [(5, .int (nI ((pw_g (pw_rem A) 43 ix) + 1))), (4, .int (nI 0)), (0, .ref 26), (1, .int (nI (pw_wrs (pw_rem A)))), (2, .int (nI (pw_ob (pw_fam (pw_rem A)) (pw_k (pw_rem A))))), (3, .int (nI ix))] [.int (nI 0), .int ((nI 2) + (nI ix)), .ref 30] (pw_feM (pw_heM m1 (pw_rem A) (pw_k (pw_rem A))) (pw_rem A) (pw_wrs (pw_rem A)) ix)
                rw [show (nI 2) + (nI ix) = nI (2 + ix) from nI_add _ _]
                refine pw_iz_ne (tgt := 252) (off := 14) (by omega) (by decide +kernel) (by decide) (fun h => by omega) (fun _ => ?_)
                refine pw_blk (pc' := 249) [.aload 0, .getfield 808, .iconst 2, .iload 3, .iadd, .iaload] (by decide +kernel) ?_
                refine ⟨(2 + ix), (show (nI 2) + (nI ix) = nI (2 + ix) from by rw [show (nI 2) + (nI ix) = nI (2 + ix) from nI_add _ _]), by first | omega | exact pw_g_lt | (have := pw_b43 hok1 (show ix < 6 by omega); omega), ?_⟩
                show pw_V x m_X8_feast 4 Z 249 [(5, .int (nI ((pw_g (pw_rem A) 43 ix) + 1))), (4, .int (nI 0)), (0, .ref 26), (1, .int (nI (pw_wrs (pw_rem A)))), (2, .int (nI (pw_ob (pw_fam (pw_rem A)) (pw_k (pw_rem A))))), (3, .int (nI ix))] [.int ((pw_feM (pw_heM m1 (pw_rem A) (pw_k (pw_rem A))) (pw_rem A) (pw_wrs (pw_rem A)) ix) 30 (2 + ix)), .int (nI (2 + ix)), .ref 30] (pw_feM (pw_heM m1 (pw_rem A) (pw_k (pw_rem A))) (pw_rem A) (pw_wrs (pw_rem A)) ix)
                rw [show (pw_feM (pw_heM m1 (pw_rem A) (pw_k (pw_rem A))) (pw_rem A) (pw_wrs (pw_rem A)) ix) 30 (2 + ix) = nI (pw_g (pw_rem A) 43 ix) from (by rw [pw_feM_n (by omega) (by omega), pw_heM_o (by omega)]; exact mv_rn hv1 hok1 (i := ix) (by omega))]
                refine pw_goto (tgt := 275) (off := 26) (by decide +kernel) (by decide) ?_
                refine pw_blk (pc' := 294) [.iastore, .aload 0, .getfield 808, .iconst (8), .iload 3, .iadd, .aload 0, .getfield 831, .iload 3, .iaload, .iastore, .iinc 3 1] (by decide +kernel) ?_
                refine ⟨(2 + ix), rfl, by first | omega | exact pw_g_lt | (have := pw_b43 hok1 (show ix < 6 by omega); omega), ?_⟩
                refine ⟨ix, rfl, by first | omega | exact pw_g_lt | (have := pw_b43 hok1 (show ix < 6 by omega); omega), ?_⟩
                refine ⟨(8 + ix), (show (nI 8) + (nI ix) = nI (8 + ix) from by rw [show (nI 8) + (nI ix) = nI (8 + ix) from nI_add _ _]), by first | omega | exact pw_g_lt | (have := pw_b43 hok1 (show ix < 6 by omega); omega), ?_⟩
                show pw_V x m_X8_feast 4 Z 294 [(3, .int ((nI ix) + (nI 1))), (5, .int (nI ((pw_g (pw_rem A) 43 ix) + 1))), (4, .int (nI 0)), (0, .ref 26), (1, .int (nI (pw_wrs (pw_rem A)))), (2, .int (nI (pw_ob (pw_fam (pw_rem A)) (pw_k (pw_rem A)))))] [] (pw_up (pw_up (pw_feM (pw_heM m1 (pw_rem A) (pw_k (pw_rem A))) (pw_rem A) (pw_wrs (pw_rem A)) ix) 30 (2 + ix) (nI (pw_g (pw_rem A) 43 ix))) 30 (8 + ix) ((pw_feM (pw_heM m1 (pw_rem A) (pw_k (pw_rem A))) (pw_rem A) (pw_wrs (pw_rem A)) ix) 39 ix))
                rw [show (nI ix) + (nI 1) = nI (ix + 1) from nI_add _ _]
                rw [show (pw_feM (pw_heM m1 (pw_rem A) (pw_k (pw_rem A))) (pw_rem A) (pw_wrs (pw_rem A)) ix) 39 ix = pw_nwv (pw_rem A) ix from (by rw [pw_feM_o (by omega)]; unfold pw_heM pw_c6; rw [if_pos rfl, if_pos (by omega)])]
                refine pw_goto (tgt := 169) (off := -125) (by decide +kernel) (by decide) ?_
                rw [show nI (pw_g (pw_rem A) 43 ix) = pw_crv (pw_rem A) (pw_wrs (pw_rem A)) ix from by
                    unfold pw_crv
                    rw [h187]
                    dsimp only
                    rw [if_pos h195]
                    exact (pw_q43 hok1 (show ix < 6 by omega)).symm]
                rw [pw_feM_s (by omega)]
                refine pw_lvp [3, 4, 5, 0] rfl ?_
                exact ih (by omega)
            · refine pw_blk (pc' := 199) [.iconst 1] (by decide +kernel) ?_
              show pw_V x m_X8_feast 4 Z 199 [(0, .ref 26), (1, .int (nI (pw_wrs (pw_rem A)))), (2, .int (nI (pw_ob (pw_fam (pw_rem A)) (pw_k (pw_rem A))))), (3, .int (nI ix))] [.int (nI 1)] (pw_feM (pw_heM m1 (pw_rem A) (pw_k (pw_rem A))) (pw_rem A) (pw_wrs (pw_rem A)) ix)
              refine pw_goto (tgt := 203) (off := 4) (by decide +kernel) (by decide) ?_
              refine pw_blk (pc' := 215) [.istore 4, .aload 0, .getfield 808, .iconst 2, .iload 3, .iadd, .iaload, .iload 2, .iload 3] (by decide +kernel) ?_
              refine ⟨(2 + ix), (show (nI 2) + (nI ix) = nI (2 + ix) from by rw [show (nI 2) + (nI ix) = nI (2 + ix) from nI_add _ _]), by first | omega | exact pw_g_lt | (have := pw_b43 hok1 (show ix < 6 by omega); omega), ?_⟩
              show pw_V x m_X8_feast 4 Z 215 [(4, .int (nI 1)), (0, .ref 26), (1, .int (nI (pw_wrs (pw_rem A)))), (2, .int (nI (pw_ob (pw_fam (pw_rem A)) (pw_k (pw_rem A))))), (3, .int (nI ix))] [.int (nI ix), .int (nI (pw_ob (pw_fam (pw_rem A)) (pw_k (pw_rem A)))), .int ((pw_feM (pw_heM m1 (pw_rem A) (pw_k (pw_rem A))) (pw_rem A) (pw_wrs (pw_rem A)) ix) 30 (2 + ix))] (pw_feM (pw_heM m1 (pw_rem A) (pw_k (pw_rem A))) (pw_rem A) (pw_wrs (pw_rem A)) ix)
              rw [show (pw_feM (pw_heM m1 (pw_rem A) (pw_k (pw_rem A))) (pw_rem A) (pw_wrs (pw_rem A)) ix) 30 (2 + ix) = nI (pw_g (pw_rem A) 43 ix) from (by rw [pw_feM_n (by omega) (by omega), pw_heM_o (by omega)]; exact mv_rn hv1 hok1 (i := ix) (by omega))]
              refine pw_cS (vs := [.int (nI (pw_ob (pw_fam (pw_rem A)) (pw_k (pw_rem A)))), .int (nI ix)]) (rest := [.int (nI (pw_g (pw_rem A) 43 ix))]) k_X8_has (c_mhasN (pw_ob (pw_fam (pw_rem A)) (pw_k (pw_rem A))) ix (pw_feM (pw_heM m1 (pw_rem A) (pw_k (pw_rem A))) (pw_rem A) (pw_wrs (pw_rem A)) ix) (by first | omega | exact pw_g_lt | exact pw_ob_lt31 (by omega)) (by first | omega | exact pw_g_lt | (have := pw_b43 hok1 (show ix < 6 by omega); omega))) l_8_86 rfl (by omega) (Nat.le_of_ble_eq_true rfl) (by decide +kernel) ?_
              rintro _ m1 ⟨rfl, e1⟩
              rw [e1]
              clear e1 m1
              show pw_V x m_X8_feast 4 Z 218 [(4, .int (nI 1)), (0, .ref 26), (1, .int (nI (pw_wrs (pw_rem A)))), (2, .int (nI (pw_ob (pw_fam (pw_rem A)) (pw_k (pw_rem A))))), (3, .int (nI ix))] [.int (pw_b (((pw_ob (pw_fam (pw_rem A)) (pw_k (pw_rem A)))).testBit ix)), .int (nI (pw_g (pw_rem A) 43 ix))] (pw_feM (pw_heM m1 (pw_rem A) (pw_k (pw_rem A))) (pw_rem A) (pw_wrs (pw_rem A)) ix)
              refine pw_ib_eq (tgt := 225) (off := 7) (by decide +kernel) (by decide) (fun h218 => ?_) (fun h218 => ?_)
              · refine pw_blk (pc' := 227) [.iconst (-1), .iadd] (by decide +kernel) ?_
                show pw_V x m_X8_feast 4 Z 227 [(4, .int (nI 1)), (0, .ref 26), (1, .int (nI (pw_wrs (pw_rem A)))), (2, .int (nI (pw_ob (pw_fam (pw_rem A)) (pw_k (pw_rem A))))), (3, .int (nI ix))] [.int ((nI (pw_g (pw_rem A) 43 ix)) + (-1))] (pw_feM (pw_heM m1 (pw_rem A) (pw_k (pw_rem A))) (pw_rem A) (pw_wrs (pw_rem A)) ix)
                rcases Nat.eq_zero_or_pos (pw_g (pw_rem A) 43 ix) with z43 | z43
                · rw [show (nI (pw_g (pw_rem A) 43 ix)) + (-1) = -1 from by rw [z43]; decide]
                  refine pw_blk (pc' := 238) [.istore 5, .aload 0, .getfield 808, .iconst 2, .iload 3, .iadd, .iload 4] (by decide +kernel) ?_
                  show pw_V x m_X8_feast 4 Z 238 [(5, .int (-1)), (4, .int (nI 1)), (0, .ref 26), (1, .int (nI (pw_wrs (pw_rem A)))), (2, .int (nI (pw_ob (pw_fam (pw_rem A)) (pw_k (pw_rem A))))), (3, .int (nI ix))] [.int (nI 1), .int ((nI 2) + (nI ix)), .ref 30] (pw_feM (pw_heM m1 (pw_rem A) (pw_k (pw_rem A))) (pw_rem A) (pw_wrs (pw_rem A)) ix)
                  rw [show (nI 2) + (nI ix) = nI (2 + ix) from nI_add _ _]
                  refine pw_iz_ne (tgt := 252) (off := 14) (by omega) (by decide +kernel) (by decide) (fun _ => ?_) (fun h => by omega)
                  refine pw_blk (pc' := 254) [.iload 5] (by decide +kernel) ?_
                  show pw_V x m_X8_feast 4 Z 254 [(5, .int (-1)), (4, .int (nI 1)), (0, .ref 26), (1, .int (nI (pw_wrs (pw_rem A)))), (2, .int (nI (pw_ob (pw_fam (pw_rem A)) (pw_k (pw_rem A))))), (3, .int (nI ix))] [.int (-1), .int (nI (2 + ix)), .ref 30] (pw_feM (pw_heM m1 (pw_rem A) (pw_k (pw_rem A))) (pw_rem A) (pw_wrs (pw_rem A)) ix)
                  refine pw_if_ge (tgt := 261) (off := 7) (by decide +kernel) (by decide) (fun h254 => ?_) (fun h254 => ?_)
                  · exact absurd h254 (by decide)
                  · refine pw_blk (pc' := 258) [.iconst 0] (by decide +kernel) ?_
                    show pw_V x m_X8_feast 4 Z 258 [(5, .int (-1)), (4, .int (nI 1)), (0, .ref 26), (1, .int (nI (pw_wrs (pw_rem A)))), (2, .int (nI (pw_ob (pw_fam (pw_rem A)) (pw_k (pw_rem A))))), (3, .int (nI ix))] [.int (nI 0), .int (nI (2 + ix)), .ref 30] (pw_feM (pw_heM m1 (pw_rem A) (pw_k (pw_rem A))) (pw_rem A) (pw_wrs (pw_rem A)) ix)
                    refine pw_goto (tgt := 275) (off := 17) (by decide +kernel) (by decide) ?_
                    refine pw_blk (pc' := 294) [.iastore, .aload 0, .getfield 808, .iconst (8), .iload 3, .iadd, .aload 0, .getfield 831, .iload 3, .iaload, .iastore, .iinc 3 1] (by decide +kernel) ?_
                    refine ⟨(2 + ix), rfl, by first | omega | exact pw_g_lt | (have := pw_b43 hok1 (show ix < 6 by omega); omega), ?_⟩
                    refine ⟨ix, rfl, by first | omega | exact pw_g_lt | (have := pw_b43 hok1 (show ix < 6 by omega); omega), ?_⟩
                    refine ⟨(8 + ix), (show (nI 8) + (nI ix) = nI (8 + ix) from by rw [show (nI 8) + (nI ix) = nI (8 + ix) from nI_add _ _]), by first | omega | exact pw_g_lt | (have := pw_b43 hok1 (show ix < 6 by omega); omega), ?_⟩
                    show pw_V x m_X8_feast 4 Z 294 [(3, .int ((nI ix) + (nI 1))), (5, .int (-1)), (4, .int (nI 1)), (0, .ref 26), (1, .int (nI (pw_wrs (pw_rem A)))), (2, .int (nI (pw_ob (pw_fam (pw_rem A)) (pw_k (pw_rem A)))))] [] (pw_up (pw_up (pw_feM (pw_heM m1 (pw_rem A) (pw_k (pw_rem A))) (pw_rem A) (pw_wrs (pw_rem A)) ix) 30 (2 + ix) (nI 0)) 30 (8 + ix) ((pw_feM (pw_heM m1 (pw_rem A) (pw_k (pw_rem A))) (pw_rem A) (pw_wrs (pw_rem A)) ix) 39 ix))
                    rw [show (nI ix) + (nI 1) = nI (ix + 1) from nI_add _ _]
                    rw [show (pw_feM (pw_heM m1 (pw_rem A) (pw_k (pw_rem A))) (pw_rem A) (pw_wrs (pw_rem A)) ix) 39 ix = pw_nwv (pw_rem A) ix from (by rw [pw_feM_o (by omega)]; unfold pw_heM pw_c6; rw [if_pos rfl, if_pos (by omega)])]
                    refine pw_goto (tgt := 169) (off := -125) (by decide +kernel) (by decide) ?_
                    rw [show nI 0 = pw_crv (pw_rem A) (pw_wrs (pw_rem A)) ix from by
                        unfold pw_crv
                        rw [h187]
                        dsimp only
                        rw [if_neg (by rw [h195]; decide)]
                        have z := h218
                        rw [pw_ob_bit, decide_eq_true (by omega : ix < (pw_k (pw_rem A)))] at z
                        unfold pw_fam at z
                        rw [h187] at z
                        have hq : pw_qr (pw_rem A) ix s187 = true := by simpa using z
                        rw [if_pos hq]
                        rw [z43]]
                    rw [pw_feM_s (by omega)]
                    refine pw_lvp [3, 4, 5, 0] rfl ?_
                    exact ih (by omega)
                · rw [show (nI (pw_g (pw_rem A) 43 ix)) + (-1) = nI (pw_g (pw_rem A) 43 ix - 1) from pw_nIm1 z43 pw_g_lt]
                  refine pw_blk (pc' := 238) [.istore 5, .aload 0, .getfield 808, .iconst 2, .iload 3, .iadd, .iload 4] (by decide +kernel) ?_
                  show pw_V x m_X8_feast 4 Z 238 [(5, .int (nI (pw_g (pw_rem A) 43 ix - 1))), (4, .int (nI 1)), (0, .ref 26), (1, .int (nI (pw_wrs (pw_rem A)))), (2, .int (nI (pw_ob (pw_fam (pw_rem A)) (pw_k (pw_rem A))))), (3, .int (nI ix))] [.int (nI 1), .int ((nI 2) + (nI ix)), .ref 30] (pw_feM (pw_heM m1 (pw_rem A) (pw_k (pw_rem A))) (pw_rem A) (pw_wrs (pw_rem A)) ix)
                  rw [show (nI 2) + (nI ix) = nI (2 + ix) from nI_add _ _]
                  refine pw_iz_ne (tgt := 252) (off := 14) (by omega) (by decide +kernel) (by decide) (fun _ => ?_) (fun h => by omega)
                  refine pw_blk (pc' := 254) [.iload 5] (by decide +kernel) ?_
                  show pw_V x m_X8_feast 4 Z 254 [(5, .int (nI (pw_g (pw_rem A) 43 ix - 1))), (4, .int (nI 1)), (0, .ref 26), (1, .int (nI (pw_wrs (pw_rem A)))), (2, .int (nI (pw_ob (pw_fam (pw_rem A)) (pw_k (pw_rem A))))), (3, .int (nI ix))] [.int (nI (pw_g (pw_rem A) 43 ix - 1)), .int (nI (2 + ix)), .ref 30] (pw_feM (pw_heM m1 (pw_rem A) (pw_k (pw_rem A))) (pw_rem A) (pw_wrs (pw_rem A)) ix)
                  refine pw_iz_ge (tgt := 261) (off := 7) (by first | omega | exact pw_g_lt | (have := pw_b43 hok1 (show ix < 6 by omega); omega)) (by decide +kernel) (by decide) ?_
                  refine pw_blk (pc' := 265) [.iload 5, .iconst (9)] (by decide +kernel) ?_
                  show pw_V x m_X8_feast 4 Z 265 [(5, .int (nI (pw_g (pw_rem A) 43 ix - 1))), (4, .int (nI 1)), (0, .ref 26), (1, .int (nI (pw_wrs (pw_rem A)))), (2, .int (nI (pw_ob (pw_fam (pw_rem A)) (pw_k (pw_rem A))))), (3, .int (nI ix))] [.int (nI 9), .int (nI (pw_g (pw_rem A) 43 ix - 1)), .int (nI (2 + ix)), .ref 30] (pw_feM (pw_heM m1 (pw_rem A) (pw_k (pw_rem A))) (pw_rem A) (pw_wrs (pw_rem A)) ix)
                  refine pw_in_le (tgt := 273) (off := 8) (by first | omega | exact pw_g_lt | (have := pw_b43 hok1 (show ix < 6 by omega); omega)) (by first | omega | exact pw_g_lt | (have := pw_b43 hok1 (show ix < 6 by omega); omega)) (by decide +kernel) (by decide) (fun h265 => ?_) (fun h265 => ?_)
                  · refine pw_blk (pc' := 294) [.iload 5, .iastore, .aload 0, .getfield 808, .iconst (8), .iload 3, .iadd, .aload 0, .getfield 831, .iload 3, .iaload, .iastore, .iinc 3 1] (by decide +kernel) ?_
                    refine ⟨(2 + ix), rfl, by first | omega | exact pw_g_lt | (have := pw_b43 hok1 (show ix < 6 by omega); omega), ?_⟩
                    refine ⟨ix, rfl, by first | omega | exact pw_g_lt | (have := pw_b43 hok1 (show ix < 6 by omega); omega), ?_⟩
                    refine ⟨(8 + ix), (show (nI 8) + (nI ix) = nI (8 + ix) from by rw [show (nI 8) + (nI ix) = nI (8 + ix) from nI_add _ _]), by first | omega | exact pw_g_lt | (have := pw_b43 hok1 (show ix < 6 by omega); omega), ?_⟩
                    show pw_V x m_X8_feast 4 Z 294 [(3, .int ((nI ix) + (nI 1))), (5, .int (nI (pw_g (pw_rem A) 43 ix - 1))), (4, .int (nI 1)), (0, .ref 26), (1, .int (nI (pw_wrs (pw_rem A)))), (2, .int (nI (pw_ob (pw_fam (pw_rem A)) (pw_k (pw_rem A)))))] [] (pw_up (pw_up (pw_feM (pw_heM m1 (pw_rem A) (pw_k (pw_rem A))) (pw_rem A) (pw_wrs (pw_rem A)) ix) 30 (2 + ix) (nI (pw_g (pw_rem A) 43 ix - 1))) 30 (8 + ix) ((pw_feM (pw_heM m1 (pw_rem A) (pw_k (pw_rem A))) (pw_rem A) (pw_wrs (pw_rem A)) ix) 39 ix))
                    rw [show (nI ix) + (nI 1) = nI (ix + 1) from nI_add _ _]
                    rw [show (pw_feM (pw_heM m1 (pw_rem A) (pw_k (pw_rem A))) (pw_rem A) (pw_wrs (pw_rem A)) ix) 39 ix = pw_nwv (pw_rem A) ix from (by rw [pw_feM_o (by omega)]; unfold pw_heM pw_c6; rw [if_pos rfl, if_pos (by omega)])]
                    refine pw_goto (tgt := 169) (off := -125) (by decide +kernel) (by decide) ?_
                    rw [show nI (pw_g (pw_rem A) 43 ix - 1) = pw_crv (pw_rem A) (pw_wrs (pw_rem A)) ix from by
                        unfold pw_crv
                        rw [h187]
                        dsimp only
                        rw [if_neg (by rw [h195]; decide)]
                        have z := h218
                        rw [pw_ob_bit, decide_eq_true (by omega : ix < (pw_k (pw_rem A)))] at z
                        unfold pw_fam at z
                        rw [h187] at z
                        have hq : pw_qr (pw_rem A) ix s187 = true := by simpa using z
                        rw [if_pos hq]]
                    rw [pw_feM_s (by omega)]
                    refine pw_lvp [3, 4, 5, 0] rfl ?_
                    exact ih (by omega)
                  · refine pw_blk (pc' := 270) [.iconst (9)] (by decide +kernel) ?_
                    show pw_V x m_X8_feast 4 Z 270 [(5, .int (nI (pw_g (pw_rem A) 43 ix - 1))), (4, .int (nI 1)), (0, .ref 26), (1, .int (nI (pw_wrs (pw_rem A)))), (2, .int (nI (pw_ob (pw_fam (pw_rem A)) (pw_k (pw_rem A))))), (3, .int (nI ix))] [.int (nI 9), .int (nI (2 + ix)), .ref 30] (pw_feM (pw_heM m1 (pw_rem A) (pw_k (pw_rem A))) (pw_rem A) (pw_wrs (pw_rem A)) ix)
                    refine pw_goto (tgt := 275) (off := 5) (by decide +kernel) (by decide) ?_
                    refine pw_blk (pc' := 294) [.iastore, .aload 0, .getfield 808, .iconst (8), .iload 3, .iadd, .aload 0, .getfield 831, .iload 3, .iaload, .iastore, .iinc 3 1] (by decide +kernel) ?_
                    refine ⟨(2 + ix), rfl, by first | omega | exact pw_g_lt | (have := pw_b43 hok1 (show ix < 6 by omega); omega), ?_⟩
                    refine ⟨ix, rfl, by first | omega | exact pw_g_lt | (have := pw_b43 hok1 (show ix < 6 by omega); omega), ?_⟩
                    refine ⟨(8 + ix), (show (nI 8) + (nI ix) = nI (8 + ix) from by rw [show (nI 8) + (nI ix) = nI (8 + ix) from nI_add _ _]), by first | omega | exact pw_g_lt | (have := pw_b43 hok1 (show ix < 6 by omega); omega), ?_⟩
                    show pw_V x m_X8_feast 4 Z 294 [(3, .int ((nI ix) + (nI 1))), (5, .int (nI (pw_g (pw_rem A) 43 ix - 1))), (4, .int (nI 1)), (0, .ref 26), (1, .int (nI (pw_wrs (pw_rem A)))), (2, .int (nI (pw_ob (pw_fam (pw_rem A)) (pw_k (pw_rem A)))))] [] (pw_up (pw_up (pw_feM (pw_heM m1 (pw_rem A) (pw_k (pw_rem A))) (pw_rem A) (pw_wrs (pw_rem A)) ix) 30 (2 + ix) (nI 9)) 30 (8 + ix) ((pw_feM (pw_heM m1 (pw_rem A) (pw_k (pw_rem A))) (pw_rem A) (pw_wrs (pw_rem A)) ix) 39 ix))
                    rw [show (nI ix) + (nI 1) = nI (ix + 1) from nI_add _ _]
                    rw [show (pw_feM (pw_heM m1 (pw_rem A) (pw_k (pw_rem A))) (pw_rem A) (pw_wrs (pw_rem A)) ix) 39 ix = pw_nwv (pw_rem A) ix from (by rw [pw_feM_o (by omega)]; unfold pw_heM pw_c6; rw [if_pos rfl, if_pos (by omega)])]
                    refine pw_goto (tgt := 169) (off := -125) (by decide +kernel) (by decide) ?_
                    rw [show nI 9 = pw_crv (pw_rem A) (pw_wrs (pw_rem A)) ix from by
                        exfalso
                        have b43 := pw_b43 hok1 (show ix < 6 by omega)
                        omega]
                    rw [pw_feM_s (by omega)]
                    refine pw_lvp [3, 4, 5, 0] rfl ?_
                    exact ih (by omega)
              · refine pw_blk (pc' := 222) [.iconst 1] (by decide +kernel) ?_
                show pw_V x m_X8_feast 4 Z 222 [(4, .int (nI 1)), (0, .ref 26), (1, .int (nI (pw_wrs (pw_rem A)))), (2, .int (nI (pw_ob (pw_fam (pw_rem A)) (pw_k (pw_rem A))))), (3, .int (nI ix))] [.int (nI 1), .int (nI (pw_g (pw_rem A) 43 ix))] (pw_feM (pw_heM m1 (pw_rem A) (pw_k (pw_rem A))) (pw_rem A) (pw_wrs (pw_rem A)) ix)
                refine pw_goto (tgt := 226) (off := 4) (by decide +kernel) (by decide) ?_
                refine pw_blk (pc' := 227) [.iadd] (by decide +kernel) ?_
                show pw_V x m_X8_feast 4 Z 227 [(4, .int (nI 1)), (0, .ref 26), (1, .int (nI (pw_wrs (pw_rem A)))), (2, .int (nI (pw_ob (pw_fam (pw_rem A)) (pw_k (pw_rem A))))), (3, .int (nI ix))] [.int ((nI (pw_g (pw_rem A) 43 ix)) + (nI 1))] (pw_feM (pw_heM m1 (pw_rem A) (pw_k (pw_rem A))) (pw_rem A) (pw_wrs (pw_rem A)) ix)
                rw [show (nI (pw_g (pw_rem A) 43 ix)) + (nI 1) = nI ((pw_g (pw_rem A) 43 ix) + 1) from nI_add _ _]
                refine pw_blk (pc' := 238) [.istore 5, .aload 0, .getfield 808, .iconst 2, .iload 3, .iadd, .iload 4] (by decide +kernel) ?_
                show pw_V x m_X8_feast 4 Z 238 [(5, .int (nI ((pw_g (pw_rem A) 43 ix) + 1))), (4, .int (nI 1)), (0, .ref 26), (1, .int (nI (pw_wrs (pw_rem A)))), (2, .int (nI (pw_ob (pw_fam (pw_rem A)) (pw_k (pw_rem A))))), (3, .int (nI ix))] [.int (nI 1), .int ((nI 2) + (nI ix)), .ref 30] (pw_feM (pw_heM m1 (pw_rem A) (pw_k (pw_rem A))) (pw_rem A) (pw_wrs (pw_rem A)) ix)
                rw [show (nI 2) + (nI ix) = nI (2 + ix) from nI_add _ _]
                refine pw_iz_ne (tgt := 252) (off := 14) (by omega) (by decide +kernel) (by decide) (fun _ => ?_) (fun h => by omega)
                refine pw_blk (pc' := 254) [.iload 5] (by decide +kernel) ?_
                show pw_V x m_X8_feast 4 Z 254 [(5, .int (nI ((pw_g (pw_rem A) 43 ix) + 1))), (4, .int (nI 1)), (0, .ref 26), (1, .int (nI (pw_wrs (pw_rem A)))), (2, .int (nI (pw_ob (pw_fam (pw_rem A)) (pw_k (pw_rem A))))), (3, .int (nI ix))] [.int (nI ((pw_g (pw_rem A) 43 ix) + 1)), .int (nI (2 + ix)), .ref 30] (pw_feM (pw_heM m1 (pw_rem A) (pw_k (pw_rem A))) (pw_rem A) (pw_wrs (pw_rem A)) ix)
                refine pw_iz_ge (tgt := 261) (off := 7) (by first | omega | exact pw_g_lt | (have := pw_b43 hok1 (show ix < 6 by omega); omega)) (by decide +kernel) (by decide) ?_
                refine pw_blk (pc' := 265) [.iload 5, .iconst (9)] (by decide +kernel) ?_
                show pw_V x m_X8_feast 4 Z 265 [(5, .int (nI ((pw_g (pw_rem A) 43 ix) + 1))), (4, .int (nI 1)), (0, .ref 26), (1, .int (nI (pw_wrs (pw_rem A)))), (2, .int (nI (pw_ob (pw_fam (pw_rem A)) (pw_k (pw_rem A))))), (3, .int (nI ix))] [.int (nI 9), .int (nI ((pw_g (pw_rem A) 43 ix) + 1)), .int (nI (2 + ix)), .ref 30] (pw_feM (pw_heM m1 (pw_rem A) (pw_k (pw_rem A))) (pw_rem A) (pw_wrs (pw_rem A)) ix)
                refine pw_in_le (tgt := 273) (off := 8) (by first | omega | exact pw_g_lt | (have := pw_b43 hok1 (show ix < 6 by omega); omega)) (by first | omega | exact pw_g_lt | (have := pw_b43 hok1 (show ix < 6 by omega); omega)) (by decide +kernel) (by decide) (fun h265 => ?_) (fun h265 => ?_)
                · refine pw_blk (pc' := 294) [.iload 5, .iastore, .aload 0, .getfield 808, .iconst (8), .iload 3, .iadd, .aload 0, .getfield 831, .iload 3, .iaload, .iastore, .iinc 3 1] (by decide +kernel) ?_
                  refine ⟨(2 + ix), rfl, by first | omega | exact pw_g_lt | (have := pw_b43 hok1 (show ix < 6 by omega); omega), ?_⟩
                  refine ⟨ix, rfl, by first | omega | exact pw_g_lt | (have := pw_b43 hok1 (show ix < 6 by omega); omega), ?_⟩
                  refine ⟨(8 + ix), (show (nI 8) + (nI ix) = nI (8 + ix) from by rw [show (nI 8) + (nI ix) = nI (8 + ix) from nI_add _ _]), by first | omega | exact pw_g_lt | (have := pw_b43 hok1 (show ix < 6 by omega); omega), ?_⟩
                  show pw_V x m_X8_feast 4 Z 294 [(3, .int ((nI ix) + (nI 1))), (5, .int (nI ((pw_g (pw_rem A) 43 ix) + 1))), (4, .int (nI 1)), (0, .ref 26), (1, .int (nI (pw_wrs (pw_rem A)))), (2, .int (nI (pw_ob (pw_fam (pw_rem A)) (pw_k (pw_rem A)))))] [] (pw_up (pw_up (pw_feM (pw_heM m1 (pw_rem A) (pw_k (pw_rem A))) (pw_rem A) (pw_wrs (pw_rem A)) ix) 30 (2 + ix) (nI ((pw_g (pw_rem A) 43 ix) + 1))) 30 (8 + ix) ((pw_feM (pw_heM m1 (pw_rem A) (pw_k (pw_rem A))) (pw_rem A) (pw_wrs (pw_rem A)) ix) 39 ix))
                  rw [show (nI ix) + (nI 1) = nI (ix + 1) from nI_add _ _]
                  rw [show (pw_feM (pw_heM m1 (pw_rem A) (pw_k (pw_rem A))) (pw_rem A) (pw_wrs (pw_rem A)) ix) 39 ix = pw_nwv (pw_rem A) ix from (by rw [pw_feM_o (by omega)]; unfold pw_heM pw_c6; rw [if_pos rfl, if_pos (by omega)])]
                  refine pw_goto (tgt := 169) (off := -125) (by decide +kernel) (by decide) ?_
                  rw [show nI ((pw_g (pw_rem A) 43 ix) + 1) = pw_crv (pw_rem A) (pw_wrs (pw_rem A)) ix from by
                      unfold pw_crv
                      rw [h187]
                      dsimp only
                      rw [if_neg (by rw [h195]; decide)]
                      have z := h218
                      rw [pw_ob_bit, decide_eq_true (by omega : ix < (pw_k (pw_rem A)))] at z
                      unfold pw_fam at z
                      rw [h187] at z
                      have hq : pw_qr (pw_rem A) ix s187 = false := by simpa using z
                      rw [if_neg (by rw [hq]; decide), show min 9 (pw_g (pw_rem A) 43 ix + 1) = ((pw_g (pw_rem A) 43 ix) + 1) by omega]]
                  rw [pw_feM_s (by omega)]
                  refine pw_lvp [3, 4, 5, 0] rfl ?_
                  exact ih (by omega)
                · refine pw_blk (pc' := 270) [.iconst (9)] (by decide +kernel) ?_
                  show pw_V x m_X8_feast 4 Z 270 [(5, .int (nI ((pw_g (pw_rem A) 43 ix) + 1))), (4, .int (nI 1)), (0, .ref 26), (1, .int (nI (pw_wrs (pw_rem A)))), (2, .int (nI (pw_ob (pw_fam (pw_rem A)) (pw_k (pw_rem A))))), (3, .int (nI ix))] [.int (nI 9), .int (nI (2 + ix)), .ref 30] (pw_feM (pw_heM m1 (pw_rem A) (pw_k (pw_rem A))) (pw_rem A) (pw_wrs (pw_rem A)) ix)
                  refine pw_goto (tgt := 275) (off := 5) (by decide +kernel) (by decide) ?_
                  refine pw_blk (pc' := 294) [.iastore, .aload 0, .getfield 808, .iconst (8), .iload 3, .iadd, .aload 0, .getfield 831, .iload 3, .iaload, .iastore, .iinc 3 1] (by decide +kernel) ?_
                  refine ⟨(2 + ix), rfl, by first | omega | exact pw_g_lt | (have := pw_b43 hok1 (show ix < 6 by omega); omega), ?_⟩
                  refine ⟨ix, rfl, by first | omega | exact pw_g_lt | (have := pw_b43 hok1 (show ix < 6 by omega); omega), ?_⟩
                  refine ⟨(8 + ix), (show (nI 8) + (nI ix) = nI (8 + ix) from by rw [show (nI 8) + (nI ix) = nI (8 + ix) from nI_add _ _]), by first | omega | exact pw_g_lt | (have := pw_b43 hok1 (show ix < 6 by omega); omega), ?_⟩
                  show pw_V x m_X8_feast 4 Z 294 [(3, .int ((nI ix) + (nI 1))), (5, .int (nI ((pw_g (pw_rem A) 43 ix) + 1))), (4, .int (nI 1)), (0, .ref 26), (1, .int (nI (pw_wrs (pw_rem A)))), (2, .int (nI (pw_ob (pw_fam (pw_rem A)) (pw_k (pw_rem A)))))] [] (pw_up (pw_up (pw_feM (pw_heM m1 (pw_rem A) (pw_k (pw_rem A))) (pw_rem A) (pw_wrs (pw_rem A)) ix) 30 (2 + ix) (nI 9)) 30 (8 + ix) ((pw_feM (pw_heM m1 (pw_rem A) (pw_k (pw_rem A))) (pw_rem A) (pw_wrs (pw_rem A)) ix) 39 ix))
                  rw [show (nI ix) + (nI 1) = nI (ix + 1) from nI_add _ _]
                  rw [show (pw_feM (pw_heM m1 (pw_rem A) (pw_k (pw_rem A))) (pw_rem A) (pw_wrs (pw_rem A)) ix) 39 ix = pw_nwv (pw_rem A) ix from (by rw [pw_feM_o (by omega)]; unfold pw_heM pw_c6; rw [if_pos rfl, if_pos (by omega)])]
                  refine pw_goto (tgt := 169) (off := -125) (by decide +kernel) (by decide) ?_
                  rw [show nI 9 = pw_crv (pw_rem A) (pw_wrs (pw_rem A)) ix from by
                      unfold pw_crv
                      rw [h187]
                      dsimp only
                      rw [if_neg (by rw [h195]; decide)]
                      have z := h218
                      rw [pw_ob_bit, decide_eq_true (by omega : ix < (pw_k (pw_rem A)))] at z
                      unfold pw_fam at z
                      rw [h187] at z
                      have hq : pw_qr (pw_rem A) ix s187 = false := by simpa using z
                      rw [if_neg (by rw [hq]; decide), show min 9 (pw_g (pw_rem A) 43 ix + 1) = 9 by omega]]
                  rw [pw_feM_s (by omega)]
                  refine pw_lvp [3, 4, 5, 0] rfl ?_
                  exact ih (by omega)
      · refine pw_blk (pc' := 60) [.aload 0, .getfield 808, .iconst (14), .iload 3, .iadd, .iaload, .istore 4, .iload 4, .iconst (-1)] (by decide +kernel) ?_
        refine ⟨(14 + ix), (show (nI 14) + (nI ix) = nI (14 + ix) from by rw [show (nI 14) + (nI ix) = nI (14 + ix) from nI_add _ _]), by first | omega | exact pw_g_lt | (have := pw_b43 hok1 (show ix < 6 by omega); omega), ?_⟩
        show pw_V x m_X8_feast 4 Z 60 [(4, .int ((pw_heM m1 (pw_rem A) ix) 30 (14 + ix))), (0, .ref 26), (1, .int (nI (pw_wrs (pw_rem A)))), (2, .int (nI (pw_ob (pw_fam (pw_rem A)) ix))), (3, .int (nI ix))] [.int (-1), .int ((pw_heM m1 (pw_rem A) ix) 30 (14 + ix))] (pw_heM m1 (pw_rem A) ix)
        rw [show (pw_heM m1 (pw_rem A) ix) 30 (14 + ix) = pw_o (pw_pl (pw_rem A) ix) from mv_pl hvh hok1 (i := ix) (by omega)]
        rcases h60 : pw_pl (pw_rem A) ix with _ | s60
        · show pw_V x m_X8_feast 4 Z 60 [(4, .int (-1)), (0, .ref 26), (1, .int (nI (pw_wrs (pw_rem A)))), (2, .int (nI (pw_ob (pw_fam (pw_rem A)) ix))), (3, .int (nI ix))] [.int (-1), .int (-1)] (pw_heM m1 (pw_rem A) ix)
          refine pw_ic_ne (tgt := 67) (off := 7) (by decide +kernel) (by decide) (fun h => absurd rfl h) (fun _ => ?_)
          refine pw_blk (pc' := 64) [.iconst (-1)] (by decide +kernel) ?_
          show pw_V x m_X8_feast 4 Z 64 [(4, .int (-1)), (0, .ref 26), (1, .int (nI (pw_wrs (pw_rem A)))), (2, .int (nI (pw_ob (pw_fam (pw_rem A)) ix))), (3, .int (nI ix))] [.int (-1)] (pw_heM m1 (pw_rem A) ix)
          refine pw_goto (tgt := 78) (off := 14) (by decide +kernel) (by decide) ?_
          refine pw_blk (pc' := 97) [.istore 5, .aload 0, .getfield 831, .iload 3, .aload 0, .getfield 808, .iconst (8), .iload 3, .iadd, .iaload, .iload 5, .iconst (-1)] (by decide +kernel) ?_
          refine ⟨(8 + ix), (show (nI 8) + (nI ix) = nI (8 + ix) from by rw [show (nI 8) + (nI ix) = nI (8 + ix) from nI_add _ _]), by first | omega | exact pw_g_lt | (have := pw_b43 hok1 (show ix < 6 by omega); omega), ?_⟩
          show pw_V x m_X8_feast 4 Z 97 [(5, .int (-1)), (4, .int (-1)), (0, .ref 26), (1, .int (nI (pw_wrs (pw_rem A)))), (2, .int (nI (pw_ob (pw_fam (pw_rem A)) ix))), (3, .int (nI ix))] [.int (-1), .int (-1), .int ((pw_heM m1 (pw_rem A) ix) 30 (8 + ix)), .int (nI ix), .ref 39] (pw_heM m1 (pw_rem A) ix)
          rw [show (pw_heM m1 (pw_rem A) ix) 30 (8 + ix) = nI (pw_g (pw_rem A) 44 ix) from mv_nw hvh hok1 (i := ix) (by omega)]
          refine pw_ic_ne (tgt := 104) (off := 7) (by decide +kernel) (by decide) (fun h => absurd rfl h) (fun _ => ?_)
          refine pw_blk (pc' := 101) [.iconst 0] (by decide +kernel) ?_
          show pw_V x m_X8_feast 4 Z 101 [(5, .int (-1)), (4, .int (-1)), (0, .ref 26), (1, .int (nI (pw_wrs (pw_rem A)))), (2, .int (nI (pw_ob (pw_fam (pw_rem A)) ix))), (3, .int (nI ix))] [.int (nI 0), .int (nI (pw_g (pw_rem A) 44 ix)), .int (nI ix), .ref 39] (pw_heM m1 (pw_rem A) ix)
          refine pw_goto (tgt := 114) (off := 13) (by decide +kernel) (by decide) ?_
          refine pw_blk (pc' := 120) [.ior, .iastore, .iload 2, .iload 4, .iconst (-1)] (by decide +kernel) ?_
          refine ⟨ix, rfl, by first | omega | exact pw_g_lt | (have := pw_b43 hok1 (show ix < 6 by omega); omega), ?_⟩
          show pw_V x m_X8_feast 4 Z 120 [(5, .int (-1)), (4, .int (-1)), (0, .ref 26), (1, .int (nI (pw_wrs (pw_rem A)))), (2, .int (nI (pw_ob (pw_fam (pw_rem A)) ix))), (3, .int (nI ix))] [.int (-1), .int (-1), .int (nI (pw_ob (pw_fam (pw_rem A)) ix))] (pw_up (pw_heM m1 (pw_rem A) ix) 39 ix ((nI (pw_g (pw_rem A) 44 ix)) ||| (nI 0)))
          rw [show (nI (pw_g (pw_rem A) 44 ix)) ||| (nI 0) = nI ((pw_g (pw_rem A) 44 ix) ||| 0) from fa_or _ _]
          refine pw_ic_eq (tgt := 158) (off := 38) (by decide +kernel) (by decide) (fun _ => ?_) (fun h => absurd rfl h)
          refine pw_blk (pc' := 164) [.iconst 0, .ior, .istore 2, .iinc 3 1] (by decide +kernel) ?_
          show pw_V x m_X8_feast 4 Z 164 [(3, .int ((nI ix) + (nI 1))), (2, .int ((nI (pw_ob (pw_fam (pw_rem A)) ix)) ||| (nI 0))), (5, .int (-1)), (4, .int (-1)), (0, .ref 26), (1, .int (nI (pw_wrs (pw_rem A))))] [] (pw_up (pw_heM m1 (pw_rem A) ix) 39 ix (nI ((pw_g (pw_rem A) 44 ix) ||| 0)))
          rw [show (nI ix) + (nI 1) = nI (ix + 1) from nI_add _ _]
          rw [show (nI (pw_ob (pw_fam (pw_rem A)) ix)) ||| (nI 0) = nI ((pw_ob (pw_fam (pw_rem A)) ix) ||| 0) from fa_or _ _]
          refine pw_goto (tgt := 38) (off := -126) (by decide +kernel) (by decide) ?_
          rw [show nI ((pw_g (pw_rem A) 44 ix) ||| 0) = pw_nwv (pw_rem A) ix from by unfold pw_nwv; simp [pw_hn, h60]]
          rw [pw_heM_s]
          rw [show nI ((pw_ob (pw_fam (pw_rem A)) ix) ||| 0) = nI (pw_ob (pw_fam (pw_rem A)) (ix + 1)) from by simp [pw_ob, pw_fam, pw_qr, pw_en2, h60]]
          refine pw_lvp [4, 5, 1, 0] rfl ?_
          exact ih (by omega)
        · show pw_V x m_X8_feast 4 Z 60 [(4, .int (nI s60)), (0, .ref 26), (1, .int (nI (pw_wrs (pw_rem A)))), (2, .int (nI (pw_ob (pw_fam (pw_rem A)) ix))), (3, .int (nI ix))] [.int (-1), .int (nI s60)] (pw_heM m1 (pw_rem A) ix)
          have b60 := pw_mplb hok1 (i := ix) (by omega) h60
          refine pw_ic_ne (tgt := 67) (off := 7) (by decide +kernel) (by decide) (fun _ => ?_) (fun h => absurd h (pw_n1 (by first | omega | exact pw_g_lt | (have := pw_b43 hok1 (show ix < 6 by omega); omega))))
          refine pw_blk (pc' := 72) [.aload 0, .aload 0, .iload 4, .iconst 1] (by decide +kernel) ?_
          show pw_V x m_X8_feast 4 Z 72 [(4, .int (nI s60)), (0, .ref 26), (1, .int (nI (pw_wrs (pw_rem A)))), (2, .int (nI (pw_ob (pw_fam (pw_rem A)) ix))), (3, .int (nI ix))] [.int (nI 1), .int (nI s60), .ref 26, .ref 26] (pw_heM m1 (pw_rem A) ix)
          refine pw_cV (vs := [.int (nI s60), .int (nI 1)]) (rest := [.ref 26]) k_X8_beside (c_mbes1 (pw_heM m1 (pw_rem A) ix) hvh hok1 s60 (pw_b45 hok1 (by omega) h60)) l_8_222 rfl rfl rfl rfl (by omega) (Nat.le_of_ble_eq_true rfl) (by decide +kernel) ?_
          rintro _ m1 ⟨rfl, e1⟩
          rw [e1]
          clear e1 m1
          show pw_V x m_X8_feast 4 Z 75 [(4, .int (nI s60)), (0, .ref 26), (1, .int (nI (pw_wrs (pw_rem A)))), (2, .int (nI (pw_ob (pw_fam (pw_rem A)) ix))), (3, .int (nI ix))] [.int (nI (pw_bh (pw_n (pw_rem A)) s60)), .ref 26] (pw_heM m1 (pw_rem A) ix)
          refine pw_cV (vs := [.int (nI (pw_bh (pw_n (pw_rem A)) s60))]) (rest := []) k_X8_sitter (c_msitter (pw_heM m1 (pw_rem A) ix) hvh hok1 (pw_bh (pw_n (pw_rem A)) s60) (by have q1 := pw_bh_lt (pw_b45 hok1 (by omega : ix < 6) h60); have q2 := pw_ah_lt (pw_b45 hok1 (by omega : ix < 6) h60); have q3 := pw_bn hok1; omega)) l_8_198 rfl rfl rfl rfl (by omega) (Nat.le_of_ble_eq_true rfl) (by decide +kernel) ?_
          rintro _ m1 ⟨rfl, e1⟩
          rw [e1]
          clear e1 m1
          show pw_V x m_X8_feast 4 Z 78 [(4, .int (nI s60)), (0, .ref 26), (1, .int (nI (pw_wrs (pw_rem A)))), (2, .int (nI (pw_ob (pw_fam (pw_rem A)) ix))), (3, .int (nI ix))] [.int (pw_o (pw_si (pw_rem A) (pw_bh (pw_n (pw_rem A)) s60)))] (pw_heM m1 (pw_rem A) ix)
          refine pw_blk (pc' := 97) [.istore 5, .aload 0, .getfield 831, .iload 3, .aload 0, .getfield 808, .iconst (8), .iload 3, .iadd, .iaload, .iload 5, .iconst (-1)] (by decide +kernel) ?_
          refine ⟨(8 + ix), (show (nI 8) + (nI ix) = nI (8 + ix) from by rw [show (nI 8) + (nI ix) = nI (8 + ix) from nI_add _ _]), by first | omega | exact pw_g_lt | (have := pw_b43 hok1 (show ix < 6 by omega); omega), ?_⟩
          show pw_V x m_X8_feast 4 Z 97 [(5, .int (pw_o (pw_si (pw_rem A) (pw_bh (pw_n (pw_rem A)) s60)))), (4, .int (nI s60)), (0, .ref 26), (1, .int (nI (pw_wrs (pw_rem A)))), (2, .int (nI (pw_ob (pw_fam (pw_rem A)) ix))), (3, .int (nI ix))] [.int (-1), .int (pw_o (pw_si (pw_rem A) (pw_bh (pw_n (pw_rem A)) s60))), .int ((pw_heM m1 (pw_rem A) ix) 30 (8 + ix)), .int (nI ix), .ref 39] (pw_heM m1 (pw_rem A) ix)
          rw [show (pw_heM m1 (pw_rem A) ix) 30 (8 + ix) = nI (pw_g (pw_rem A) 44 ix) from mv_nw hvh hok1 (i := ix) (by omega)]
          rcases h97 : pw_si (pw_rem A) (pw_bh (pw_n (pw_rem A)) s60) with _ | s97
          · show pw_V x m_X8_feast 4 Z 97 [(5, .int (-1)), (4, .int (nI s60)), (0, .ref 26), (1, .int (nI (pw_wrs (pw_rem A)))), (2, .int (nI (pw_ob (pw_fam (pw_rem A)) ix))), (3, .int (nI ix))] [.int (-1), .int (-1), .int (nI (pw_g (pw_rem A) 44 ix)), .int (nI ix), .ref 39] (pw_heM m1 (pw_rem A) ix)
            refine pw_ic_ne (tgt := 104) (off := 7) (by decide +kernel) (by decide) (fun h => absurd rfl h) (fun _ => ?_)
            refine pw_blk (pc' := 101) [.iconst 0] (by decide +kernel) ?_
            show pw_V x m_X8_feast 4 Z 101 [(5, .int (-1)), (4, .int (nI s60)), (0, .ref 26), (1, .int (nI (pw_wrs (pw_rem A)))), (2, .int (nI (pw_ob (pw_fam (pw_rem A)) ix))), (3, .int (nI ix))] [.int (nI 0), .int (nI (pw_g (pw_rem A) 44 ix)), .int (nI ix), .ref 39] (pw_heM m1 (pw_rem A) ix)
            refine pw_goto (tgt := 114) (off := 13) (by decide +kernel) (by decide) ?_
            refine pw_blk (pc' := 120) [.ior, .iastore, .iload 2, .iload 4, .iconst (-1)] (by decide +kernel) ?_
            refine ⟨ix, rfl, by first | omega | exact pw_g_lt | (have := pw_b43 hok1 (show ix < 6 by omega); omega), ?_⟩
            show pw_V x m_X8_feast 4 Z 120 [(5, .int (-1)), (4, .int (nI s60)), (0, .ref 26), (1, .int (nI (pw_wrs (pw_rem A)))), (2, .int (nI (pw_ob (pw_fam (pw_rem A)) ix))), (3, .int (nI ix))] [.int (-1), .int (nI s60), .int (nI (pw_ob (pw_fam (pw_rem A)) ix))] (pw_up (pw_heM m1 (pw_rem A) ix) 39 ix ((nI (pw_g (pw_rem A) 44 ix)) ||| (nI 0)))
            rw [show (nI (pw_g (pw_rem A) 44 ix)) ||| (nI 0) = nI ((pw_g (pw_rem A) 44 ix) ||| 0) from fa_or _ _]
            refine pw_ic_eq (tgt := 158) (off := 38) (by decide +kernel) (by decide) (fun h => absurd h (pw_n1 (by first | omega | exact pw_g_lt | (have := pw_b43 hok1 (show ix < 6 by omega); omega)))) (fun _ => ?_)
            refine pw_blk (pc' := 127) [.aload 0, .iload 3, .iload 5] (by decide +kernel) ?_
            show pw_V x m_X8_feast 4 Z 127 [(5, .int (-1)), (4, .int (nI s60)), (0, .ref 26), (1, .int (nI (pw_wrs (pw_rem A)))), (2, .int (nI (pw_ob (pw_fam (pw_rem A)) ix))), (3, .int (nI ix))] [.int (-1), .int (nI ix), .ref 26, .int (nI (pw_ob (pw_fam (pw_rem A)) ix))] (pw_up (pw_heM m1 (pw_rem A) ix) 39 ix (nI ((pw_g (pw_rem A) 44 ix) ||| 0)))
            refine pw_cV (vs := [.int (nI ix), .int (-1)]) (rest := [.int (nI (pw_ob (pw_fam (pw_rem A)) ix))]) k_X8_areEnemies (c_mare (pw_up (pw_heM m1 (pw_rem A) ix) 39 ix (nI ((pw_g (pw_rem A) 44 ix) ||| 0))) (mv_39 hvh) hok1 ix none (by omega) (fun _ hc => by cases hc)) l_8_225 rfl rfl rfl rfl (by omega) (Nat.le_of_ble_eq_true rfl) (by decide +kernel) ?_
            rintro _ m1 ⟨rfl, e1⟩
            rw [e1]
            clear e1 m1
            show pw_V x m_X8_feast 4 Z 130 [(5, .int (-1)), (4, .int (nI s60)), (0, .ref 26), (1, .int (nI (pw_wrs (pw_rem A)))), (2, .int (nI (pw_ob (pw_fam (pw_rem A)) ix))), (3, .int (nI ix))] [.int (pw_b (pw_en (pw_rem A) ix none)), .int (nI (pw_ob (pw_fam (pw_rem A)) ix))] (pw_up (pw_heM m1 (pw_rem A) ix) 39 ix (nI ((pw_g (pw_rem A) 44 ix) ||| 0)))
            refine pw_ib_ne (tgt := 158) (off := 28) (by decide +kernel) (by decide) (fun h130 => ?_) (fun h130 => ?_)
            · refine pw_blk (pc' := 164) [.iconst 0, .ior, .istore 2, .iinc 3 1] (by decide +kernel) ?_
              show pw_V x m_X8_feast 4 Z 164 [(3, .int ((nI ix) + (nI 1))), (2, .int ((nI (pw_ob (pw_fam (pw_rem A)) ix)) ||| (nI 0))), (5, .int (-1)), (4, .int (nI s60)), (0, .ref 26), (1, .int (nI (pw_wrs (pw_rem A))))] [] (pw_up (pw_heM m1 (pw_rem A) ix) 39 ix (nI ((pw_g (pw_rem A) 44 ix) ||| 0)))
              rw [show (nI ix) + (nI 1) = nI (ix + 1) from nI_add _ _]
              rw [show (nI (pw_ob (pw_fam (pw_rem A)) ix)) ||| (nI 0) = nI ((pw_ob (pw_fam (pw_rem A)) ix) ||| 0) from fa_or _ _]
              refine pw_goto (tgt := 38) (off := -126) (by decide +kernel) (by decide) ?_
              rw [show nI ((pw_g (pw_rem A) 44 ix) ||| 0) = pw_nwv (pw_rem A) ix from by unfold pw_nwv; simp [pw_hn, h60, h97]]
              rw [pw_heM_s]
              rw [show nI ((pw_ob (pw_fam (pw_rem A)) ix) ||| 0) = nI (pw_ob (pw_fam (pw_rem A)) (ix + 1)) from by simp [pw_ob, pw_fam, pw_qr, pw_en2, h60, h97, h130]]
              refine pw_lvp [4, 5, 1, 0] rfl ?_
              exact ih (by omega)
            · refine pw_blk (pc' := 140) [.aload 0, .iload 3, .aload 0, .aload 0, .iload 4, .iconst (-1)] (by decide +kernel) ?_
              show pw_V x m_X8_feast 4 Z 140 [(5, .int (-1)), (4, .int (nI s60)), (0, .ref 26), (1, .int (nI (pw_wrs (pw_rem A)))), (2, .int (nI (pw_ob (pw_fam (pw_rem A)) ix))), (3, .int (nI ix))] [.int (-1), .int (nI s60), .ref 26, .ref 26, .int (nI ix), .ref 26, .int (nI (pw_ob (pw_fam (pw_rem A)) ix))] (pw_up (pw_heM m1 (pw_rem A) ix) 39 ix (nI ((pw_g (pw_rem A) 44 ix) ||| 0)))
              refine pw_cV (vs := [.int (nI s60), .int (-1)]) (rest := [.ref 26, .int (nI ix), .ref 26, .int (nI (pw_ob (pw_fam (pw_rem A)) ix))]) k_X8_beside (c_mbesm (pw_up (pw_heM m1 (pw_rem A) ix) 39 ix (nI ((pw_g (pw_rem A) 44 ix) ||| 0))) (mv_39 hvh) hok1 s60 (pw_b45 hok1 (by omega) h60)) l_8_222 rfl rfl rfl rfl (by omega) (Nat.le_of_ble_eq_true rfl) (by decide +kernel) ?_
              rintro _ m1 ⟨rfl, e1⟩
              rw [e1]
              clear e1 m1
              show pw_V x m_X8_feast 4 Z 143 [(5, .int (-1)), (4, .int (nI s60)), (0, .ref 26), (1, .int (nI (pw_wrs (pw_rem A)))), (2, .int (nI (pw_ob (pw_fam (pw_rem A)) ix))), (3, .int (nI ix))] [.int (nI (pw_ah (pw_n (pw_rem A)) s60)), .ref 26, .int (nI ix), .ref 26, .int (nI (pw_ob (pw_fam (pw_rem A)) ix))] (pw_up (pw_heM m1 (pw_rem A) ix) 39 ix (nI ((pw_g (pw_rem A) 44 ix) ||| 0)))
              refine pw_cV (vs := [.int (nI (pw_ah (pw_n (pw_rem A)) s60))]) (rest := [.int (nI ix), .ref 26, .int (nI (pw_ob (pw_fam (pw_rem A)) ix))]) k_X8_sitter (c_msitter (pw_up (pw_heM m1 (pw_rem A) ix) 39 ix (nI ((pw_g (pw_rem A) 44 ix) ||| 0))) (mv_39 hvh) hok1 (pw_ah (pw_n (pw_rem A)) s60) (by have q1 := pw_bh_lt (pw_b45 hok1 (by omega : ix < 6) h60); have q2 := pw_ah_lt (pw_b45 hok1 (by omega : ix < 6) h60); have q3 := pw_bn hok1; omega)) l_8_198 rfl rfl rfl rfl (by omega) (Nat.le_of_ble_eq_true rfl) (by decide +kernel) ?_
              rintro _ m1 ⟨rfl, e1⟩
              rw [e1]
              clear e1 m1
              show pw_V x m_X8_feast 4 Z 146 [(5, .int (-1)), (4, .int (nI s60)), (0, .ref 26), (1, .int (nI (pw_wrs (pw_rem A)))), (2, .int (nI (pw_ob (pw_fam (pw_rem A)) ix))), (3, .int (nI ix))] [.int (pw_o (pw_si (pw_rem A) (pw_ah (pw_n (pw_rem A)) s60))), .int (nI ix), .ref 26, .int (nI (pw_ob (pw_fam (pw_rem A)) ix))] (pw_up (pw_heM m1 (pw_rem A) ix) 39 ix (nI ((pw_g (pw_rem A) 44 ix) ||| 0)))
              refine pw_cV (vs := [.int (nI ix), .int (pw_o (pw_si (pw_rem A) (pw_ah (pw_n (pw_rem A)) s60)))]) (rest := [.int (nI (pw_ob (pw_fam (pw_rem A)) ix))]) k_X8_areEnemies (c_mare (pw_up (pw_heM m1 (pw_rem A) ix) 39 ix (nI ((pw_g (pw_rem A) 44 ix) ||| 0))) (mv_39 hvh) hok1 ix (pw_si (pw_rem A) (pw_ah (pw_n (pw_rem A)) s60)) (by omega) (fun c hc => pw_si_lt hc)) l_8_225 rfl rfl rfl rfl (by omega) (Nat.le_of_ble_eq_true rfl) (by decide +kernel) ?_
              rintro _ m1 ⟨rfl, e1⟩
              rw [e1]
              clear e1 m1
              show pw_V x m_X8_feast 4 Z 149 [(5, .int (-1)), (4, .int (nI s60)), (0, .ref 26), (1, .int (nI (pw_wrs (pw_rem A)))), (2, .int (nI (pw_ob (pw_fam (pw_rem A)) ix))), (3, .int (nI ix))] [.int (pw_b (pw_en (pw_rem A) ix (pw_si (pw_rem A) (pw_ah (pw_n (pw_rem A)) s60)))), .int (nI (pw_ob (pw_fam (pw_rem A)) ix))] (pw_up (pw_heM m1 (pw_rem A) ix) 39 ix (nI ((pw_g (pw_rem A) 44 ix) ||| 0)))
              refine pw_ib_ne (tgt := 158) (off := 9) (by decide +kernel) (by decide) (fun h149 => ?_) (fun h149 => ?_)
              · refine pw_blk (pc' := 164) [.iconst 0, .ior, .istore 2, .iinc 3 1] (by decide +kernel) ?_
                show pw_V x m_X8_feast 4 Z 164 [(3, .int ((nI ix) + (nI 1))), (2, .int ((nI (pw_ob (pw_fam (pw_rem A)) ix)) ||| (nI 0))), (5, .int (-1)), (4, .int (nI s60)), (0, .ref 26), (1, .int (nI (pw_wrs (pw_rem A))))] [] (pw_up (pw_heM m1 (pw_rem A) ix) 39 ix (nI ((pw_g (pw_rem A) 44 ix) ||| 0)))
                rw [show (nI ix) + (nI 1) = nI (ix + 1) from nI_add _ _]
                rw [show (nI (pw_ob (pw_fam (pw_rem A)) ix)) ||| (nI 0) = nI ((pw_ob (pw_fam (pw_rem A)) ix) ||| 0) from fa_or _ _]
                refine pw_goto (tgt := 38) (off := -126) (by decide +kernel) (by decide) ?_
                rw [show nI ((pw_g (pw_rem A) 44 ix) ||| 0) = pw_nwv (pw_rem A) ix from by unfold pw_nwv; simp [pw_hn, h60, h97]]
                rw [pw_heM_s]
                rw [show nI ((pw_ob (pw_fam (pw_rem A)) ix) ||| 0) = nI (pw_ob (pw_fam (pw_rem A)) (ix + 1)) from by simp [pw_ob, pw_fam, pw_qr, pw_en2, h60, h97, h130, h149]]
                refine pw_lvp [4, 5, 1, 0] rfl ?_
                exact ih (by omega)
              · refine pw_blk (pc' := 155) [.iconst 1, .iload 3, .ishl] (by decide +kernel) ?_
                show pw_V x m_X8_feast 4 Z 155 [(5, .int (-1)), (4, .int (nI s60)), (0, .ref 26), (1, .int (nI (pw_wrs (pw_rem A)))), (2, .int (nI (pw_ob (pw_fam (pw_rem A)) ix))), (3, .int (nI ix))] [.int ((nI 1) <<< ((nI ix) &&& 31)), .int (nI (pw_ob (pw_fam (pw_rem A)) ix))] (pw_up (pw_heM m1 (pw_rem A) ix) 39 ix (nI ((pw_g (pw_rem A) 44 ix) ||| 0)))
                rw [show (nI 1) <<< ((nI ix) &&& 31) = nI (2 ^ ix) from pw_shl1 (by first | omega | exact pw_g_lt | (have := pw_b43 hok1 (show ix < 6 by omega); omega))]
                refine pw_goto (tgt := 159) (off := 4) (by decide +kernel) (by decide) ?_
                refine pw_blk (pc' := 164) [.ior, .istore 2, .iinc 3 1] (by decide +kernel) ?_
                show pw_V x m_X8_feast 4 Z 164 [(3, .int ((nI ix) + (nI 1))), (2, .int ((nI (pw_ob (pw_fam (pw_rem A)) ix)) ||| (nI (2 ^ ix)))), (5, .int (-1)), (4, .int (nI s60)), (0, .ref 26), (1, .int (nI (pw_wrs (pw_rem A))))] [] (pw_up (pw_heM m1 (pw_rem A) ix) 39 ix (nI ((pw_g (pw_rem A) 44 ix) ||| 0)))
                rw [show (nI ix) + (nI 1) = nI (ix + 1) from nI_add _ _]
                rw [show (nI (pw_ob (pw_fam (pw_rem A)) ix)) ||| (nI (2 ^ ix)) = nI ((pw_ob (pw_fam (pw_rem A)) ix) ||| (2 ^ ix)) from fa_or _ _]
                refine pw_goto (tgt := 38) (off := -126) (by decide +kernel) (by decide) ?_
                rw [show nI ((pw_g (pw_rem A) 44 ix) ||| 0) = pw_nwv (pw_rem A) ix from by unfold pw_nwv; simp [pw_hn, h60, h97]]
                rw [pw_heM_s]
                rw [show nI ((pw_ob (pw_fam (pw_rem A)) ix) ||| (2 ^ ix)) = nI (pw_ob (pw_fam (pw_rem A)) (ix + 1)) from by simp [pw_ob, pw_fam, pw_qr, pw_en2, h60, h97, h130, h149]]
                refine pw_lvp [4, 5, 1, 0] rfl ?_
                exact ih (by omega)
          · show pw_V x m_X8_feast 4 Z 97 [(5, .int (nI s97)), (4, .int (nI s60)), (0, .ref 26), (1, .int (nI (pw_wrs (pw_rem A)))), (2, .int (nI (pw_ob (pw_fam (pw_rem A)) ix))), (3, .int (nI ix))] [.int (-1), .int (nI s97), .int (nI (pw_g (pw_rem A) 44 ix)), .int (nI ix), .ref 39] (pw_heM m1 (pw_rem A) ix)
            have b97 := pw_si_lt h97
            refine pw_ic_ne (tgt := 104) (off := 7) (by decide +kernel) (by decide) (fun _ => ?_) (fun h => absurd h (pw_n1 (by first | omega | exact pw_g_lt | (have := pw_b43 hok1 (show ix < 6 by omega); omega))))
            refine pw_blk (pc' := 120) [.aload 0, .getfield 808, .iconst (8), .iload 5, .iadd, .iaload, .ior, .iastore, .iload 2, .iload 4, .iconst (-1)] (by decide +kernel) ?_
            refine ⟨(8 + s97), (show (nI 8) + (nI s97) = nI (8 + s97) from by rw [show (nI 8) + (nI s97) = nI (8 + s97) from nI_add _ _]), by first | omega | exact pw_g_lt | (have := pw_b43 hok1 (show ix < 6 by omega); omega), ?_⟩
            refine ⟨ix, rfl, by first | omega | exact pw_g_lt | (have := pw_b43 hok1 (show ix < 6 by omega); omega), ?_⟩
            show pw_V x m_X8_feast 4 Z 120 [(5, .int (nI s97)), (4, .int (nI s60)), (0, .ref 26), (1, .int (nI (pw_wrs (pw_rem A)))), (2, .int (nI (pw_ob (pw_fam (pw_rem A)) ix))), (3, .int (nI ix))] [.int (-1), .int (nI s60), .int (nI (pw_ob (pw_fam (pw_rem A)) ix))] (pw_up (pw_heM m1 (pw_rem A) ix) 39 ix ((nI (pw_g (pw_rem A) 44 ix)) ||| ((pw_heM m1 (pw_rem A) ix) 30 (8 + s97))))
            rw [show (pw_heM m1 (pw_rem A) ix) 30 (8 + s97) = nI (pw_g (pw_rem A) 44 s97) from mv_nw hvh hok1 (i := s97) (by omega)]
            rw [show (nI (pw_g (pw_rem A) 44 ix)) ||| (nI (pw_g (pw_rem A) 44 s97)) = nI ((pw_g (pw_rem A) 44 ix) ||| (pw_g (pw_rem A) 44 s97)) from fa_or _ _]
            refine pw_ic_eq (tgt := 158) (off := 38) (by decide +kernel) (by decide) (fun h => absurd h (pw_n1 (by first | omega | exact pw_g_lt | (have := pw_b43 hok1 (show ix < 6 by omega); omega)))) (fun _ => ?_)
            refine pw_blk (pc' := 127) [.aload 0, .iload 3, .iload 5] (by decide +kernel) ?_
            show pw_V x m_X8_feast 4 Z 127 [(5, .int (nI s97)), (4, .int (nI s60)), (0, .ref 26), (1, .int (nI (pw_wrs (pw_rem A)))), (2, .int (nI (pw_ob (pw_fam (pw_rem A)) ix))), (3, .int (nI ix))] [.int (nI s97), .int (nI ix), .ref 26, .int (nI (pw_ob (pw_fam (pw_rem A)) ix))] (pw_up (pw_heM m1 (pw_rem A) ix) 39 ix (nI ((pw_g (pw_rem A) 44 ix) ||| (pw_g (pw_rem A) 44 s97))))
            refine pw_cV (vs := [.int (nI ix), .int (nI s97)]) (rest := [.int (nI (pw_ob (pw_fam (pw_rem A)) ix))]) k_X8_areEnemies (c_mare (pw_up (pw_heM m1 (pw_rem A) ix) 39 ix (nI ((pw_g (pw_rem A) 44 ix) ||| (pw_g (pw_rem A) 44 s97)))) (mv_39 hvh) hok1 ix (some s97) (by omega) (fun c hc => by cases hc; omega)) l_8_225 rfl rfl rfl rfl (by omega) (Nat.le_of_ble_eq_true rfl) (by decide +kernel) ?_
            rintro _ m1 ⟨rfl, e1⟩
            rw [e1]
            clear e1 m1
            show pw_V x m_X8_feast 4 Z 130 [(5, .int (nI s97)), (4, .int (nI s60)), (0, .ref 26), (1, .int (nI (pw_wrs (pw_rem A)))), (2, .int (nI (pw_ob (pw_fam (pw_rem A)) ix))), (3, .int (nI ix))] [.int (pw_b (pw_en (pw_rem A) ix (some s97))), .int (nI (pw_ob (pw_fam (pw_rem A)) ix))] (pw_up (pw_heM m1 (pw_rem A) ix) 39 ix (nI ((pw_g (pw_rem A) 44 ix) ||| (pw_g (pw_rem A) 44 s97))))
            refine pw_ib_ne (tgt := 158) (off := 28) (by decide +kernel) (by decide) (fun h130 => ?_) (fun h130 => ?_)
            · refine pw_blk (pc' := 164) [.iconst 0, .ior, .istore 2, .iinc 3 1] (by decide +kernel) ?_
              show pw_V x m_X8_feast 4 Z 164 [(3, .int ((nI ix) + (nI 1))), (2, .int ((nI (pw_ob (pw_fam (pw_rem A)) ix)) ||| (nI 0))), (5, .int (nI s97)), (4, .int (nI s60)), (0, .ref 26), (1, .int (nI (pw_wrs (pw_rem A))))] [] (pw_up (pw_heM m1 (pw_rem A) ix) 39 ix (nI ((pw_g (pw_rem A) 44 ix) ||| (pw_g (pw_rem A) 44 s97))))
              rw [show (nI ix) + (nI 1) = nI (ix + 1) from nI_add _ _]
              rw [show (nI (pw_ob (pw_fam (pw_rem A)) ix)) ||| (nI 0) = nI ((pw_ob (pw_fam (pw_rem A)) ix) ||| 0) from fa_or _ _]
              refine pw_goto (tgt := 38) (off := -126) (by decide +kernel) (by decide) ?_
              rw [show nI ((pw_g (pw_rem A) 44 ix) ||| (pw_g (pw_rem A) 44 s97)) = pw_nwv (pw_rem A) ix from by unfold pw_nwv; simp [pw_hn, h60, h97]]
              rw [pw_heM_s]
              rw [show nI ((pw_ob (pw_fam (pw_rem A)) ix) ||| 0) = nI (pw_ob (pw_fam (pw_rem A)) (ix + 1)) from by simp [pw_ob, pw_fam, pw_qr, pw_en2, h60, h97, h130]]
              refine pw_lvp [4, 5, 1, 0] rfl ?_
              exact ih (by omega)
            · refine pw_blk (pc' := 140) [.aload 0, .iload 3, .aload 0, .aload 0, .iload 4, .iconst (-1)] (by decide +kernel) ?_
              show pw_V x m_X8_feast 4 Z 140 [(5, .int (nI s97)), (4, .int (nI s60)), (0, .ref 26), (1, .int (nI (pw_wrs (pw_rem A)))), (2, .int (nI (pw_ob (pw_fam (pw_rem A)) ix))), (3, .int (nI ix))] [.int (-1), .int (nI s60), .ref 26, .ref 26, .int (nI ix), .ref 26, .int (nI (pw_ob (pw_fam (pw_rem A)) ix))] (pw_up (pw_heM m1 (pw_rem A) ix) 39 ix (nI ((pw_g (pw_rem A) 44 ix) ||| (pw_g (pw_rem A) 44 s97))))
              refine pw_cV (vs := [.int (nI s60), .int (-1)]) (rest := [.ref 26, .int (nI ix), .ref 26, .int (nI (pw_ob (pw_fam (pw_rem A)) ix))]) k_X8_beside (c_mbesm (pw_up (pw_heM m1 (pw_rem A) ix) 39 ix (nI ((pw_g (pw_rem A) 44 ix) ||| (pw_g (pw_rem A) 44 s97)))) (mv_39 hvh) hok1 s60 (pw_b45 hok1 (by omega) h60)) l_8_222 rfl rfl rfl rfl (by omega) (Nat.le_of_ble_eq_true rfl) (by decide +kernel) ?_
              rintro _ m1 ⟨rfl, e1⟩
              rw [e1]
              clear e1 m1
              show pw_V x m_X8_feast 4 Z 143 [(5, .int (nI s97)), (4, .int (nI s60)), (0, .ref 26), (1, .int (nI (pw_wrs (pw_rem A)))), (2, .int (nI (pw_ob (pw_fam (pw_rem A)) ix))), (3, .int (nI ix))] [.int (nI (pw_ah (pw_n (pw_rem A)) s60)), .ref 26, .int (nI ix), .ref 26, .int (nI (pw_ob (pw_fam (pw_rem A)) ix))] (pw_up (pw_heM m1 (pw_rem A) ix) 39 ix (nI ((pw_g (pw_rem A) 44 ix) ||| (pw_g (pw_rem A) 44 s97))))
              refine pw_cV (vs := [.int (nI (pw_ah (pw_n (pw_rem A)) s60))]) (rest := [.int (nI ix), .ref 26, .int (nI (pw_ob (pw_fam (pw_rem A)) ix))]) k_X8_sitter (c_msitter (pw_up (pw_heM m1 (pw_rem A) ix) 39 ix (nI ((pw_g (pw_rem A) 44 ix) ||| (pw_g (pw_rem A) 44 s97)))) (mv_39 hvh) hok1 (pw_ah (pw_n (pw_rem A)) s60) (by have q1 := pw_bh_lt (pw_b45 hok1 (by omega : ix < 6) h60); have q2 := pw_ah_lt (pw_b45 hok1 (by omega : ix < 6) h60); have q3 := pw_bn hok1; omega)) l_8_198 rfl rfl rfl rfl (by omega) (Nat.le_of_ble_eq_true rfl) (by decide +kernel) ?_
              rintro _ m1 ⟨rfl, e1⟩
              rw [e1]
              clear e1 m1
              show pw_V x m_X8_feast 4 Z 146 [(5, .int (nI s97)), (4, .int (nI s60)), (0, .ref 26), (1, .int (nI (pw_wrs (pw_rem A)))), (2, .int (nI (pw_ob (pw_fam (pw_rem A)) ix))), (3, .int (nI ix))] [.int (pw_o (pw_si (pw_rem A) (pw_ah (pw_n (pw_rem A)) s60))), .int (nI ix), .ref 26, .int (nI (pw_ob (pw_fam (pw_rem A)) ix))] (pw_up (pw_heM m1 (pw_rem A) ix) 39 ix (nI ((pw_g (pw_rem A) 44 ix) ||| (pw_g (pw_rem A) 44 s97))))
              refine pw_cV (vs := [.int (nI ix), .int (pw_o (pw_si (pw_rem A) (pw_ah (pw_n (pw_rem A)) s60)))]) (rest := [.int (nI (pw_ob (pw_fam (pw_rem A)) ix))]) k_X8_areEnemies (c_mare (pw_up (pw_heM m1 (pw_rem A) ix) 39 ix (nI ((pw_g (pw_rem A) 44 ix) ||| (pw_g (pw_rem A) 44 s97)))) (mv_39 hvh) hok1 ix (pw_si (pw_rem A) (pw_ah (pw_n (pw_rem A)) s60)) (by omega) (fun c hc => pw_si_lt hc)) l_8_225 rfl rfl rfl rfl (by omega) (Nat.le_of_ble_eq_true rfl) (by decide +kernel) ?_
              rintro _ m1 ⟨rfl, e1⟩
              rw [e1]
              clear e1 m1
              show pw_V x m_X8_feast 4 Z 149 [(5, .int (nI s97)), (4, .int (nI s60)), (0, .ref 26), (1, .int (nI (pw_wrs (pw_rem A)))), (2, .int (nI (pw_ob (pw_fam (pw_rem A)) ix))), (3, .int (nI ix))] [.int (pw_b (pw_en (pw_rem A) ix (pw_si (pw_rem A) (pw_ah (pw_n (pw_rem A)) s60)))), .int (nI (pw_ob (pw_fam (pw_rem A)) ix))] (pw_up (pw_heM m1 (pw_rem A) ix) 39 ix (nI ((pw_g (pw_rem A) 44 ix) ||| (pw_g (pw_rem A) 44 s97))))
              refine pw_ib_ne (tgt := 158) (off := 9) (by decide +kernel) (by decide) (fun h149 => ?_) (fun h149 => ?_)
              · refine pw_blk (pc' := 164) [.iconst 0, .ior, .istore 2, .iinc 3 1] (by decide +kernel) ?_
                show pw_V x m_X8_feast 4 Z 164 [(3, .int ((nI ix) + (nI 1))), (2, .int ((nI (pw_ob (pw_fam (pw_rem A)) ix)) ||| (nI 0))), (5, .int (nI s97)), (4, .int (nI s60)), (0, .ref 26), (1, .int (nI (pw_wrs (pw_rem A))))] [] (pw_up (pw_heM m1 (pw_rem A) ix) 39 ix (nI ((pw_g (pw_rem A) 44 ix) ||| (pw_g (pw_rem A) 44 s97))))
                rw [show (nI ix) + (nI 1) = nI (ix + 1) from nI_add _ _]
                rw [show (nI (pw_ob (pw_fam (pw_rem A)) ix)) ||| (nI 0) = nI ((pw_ob (pw_fam (pw_rem A)) ix) ||| 0) from fa_or _ _]
                refine pw_goto (tgt := 38) (off := -126) (by decide +kernel) (by decide) ?_
                rw [show nI ((pw_g (pw_rem A) 44 ix) ||| (pw_g (pw_rem A) 44 s97)) = pw_nwv (pw_rem A) ix from by unfold pw_nwv; simp [pw_hn, h60, h97]]
                rw [pw_heM_s]
                rw [show nI ((pw_ob (pw_fam (pw_rem A)) ix) ||| 0) = nI (pw_ob (pw_fam (pw_rem A)) (ix + 1)) from by simp [pw_ob, pw_fam, pw_qr, pw_en2, h60, h97, h130, h149]]
                refine pw_lvp [4, 5, 1, 0] rfl ?_
                exact ih (by omega)
              · refine pw_blk (pc' := 155) [.iconst 1, .iload 3, .ishl] (by decide +kernel) ?_
                show pw_V x m_X8_feast 4 Z 155 [(5, .int (nI s97)), (4, .int (nI s60)), (0, .ref 26), (1, .int (nI (pw_wrs (pw_rem A)))), (2, .int (nI (pw_ob (pw_fam (pw_rem A)) ix))), (3, .int (nI ix))] [.int ((nI 1) <<< ((nI ix) &&& 31)), .int (nI (pw_ob (pw_fam (pw_rem A)) ix))] (pw_up (pw_heM m1 (pw_rem A) ix) 39 ix (nI ((pw_g (pw_rem A) 44 ix) ||| (pw_g (pw_rem A) 44 s97))))
                rw [show (nI 1) <<< ((nI ix) &&& 31) = nI (2 ^ ix) from pw_shl1 (by first | omega | exact pw_g_lt | (have := pw_b43 hok1 (show ix < 6 by omega); omega))]
                refine pw_goto (tgt := 159) (off := 4) (by decide +kernel) (by decide) ?_
                refine pw_blk (pc' := 164) [.ior, .istore 2, .iinc 3 1] (by decide +kernel) ?_
                show pw_V x m_X8_feast 4 Z 164 [(3, .int ((nI ix) + (nI 1))), (2, .int ((nI (pw_ob (pw_fam (pw_rem A)) ix)) ||| (nI (2 ^ ix)))), (5, .int (nI s97)), (4, .int (nI s60)), (0, .ref 26), (1, .int (nI (pw_wrs (pw_rem A))))] [] (pw_up (pw_heM m1 (pw_rem A) ix) 39 ix (nI ((pw_g (pw_rem A) 44 ix) ||| (pw_g (pw_rem A) 44 s97))))
                rw [show (nI ix) + (nI 1) = nI (ix + 1) from nI_add _ _]
                rw [show (nI (pw_ob (pw_fam (pw_rem A)) ix)) ||| (nI (2 ^ ix)) = nI ((pw_ob (pw_fam (pw_rem A)) ix) ||| (2 ^ ix)) from fa_or _ _]
                refine pw_goto (tgt := 38) (off := -126) (by decide +kernel) (by decide) ?_
                rw [show nI ((pw_g (pw_rem A) 44 ix) ||| (pw_g (pw_rem A) 44 s97)) = pw_nwv (pw_rem A) ix from by unfold pw_nwv; simp [pw_hn, h60, h97]]
                rw [pw_heM_s]
                rw [show nI ((pw_ob (pw_fam (pw_rem A)) ix) ||| (2 ^ ix)) = nI (pw_ob (pw_fam (pw_rem A)) (ix + 1)) from by simp [pw_ob, pw_fam, pw_qr, pw_en2, h60, h97, h130, h149]]
                refine pw_lvp [4, 5, 1, 0] rfl ?_
                exact ih (by omega)
    · refine pw_blk (pc' := 24) [.iconst (-5)] (by decide +kernel) ?_
      show pw_V x m_X8_feast 4 Z 24 [(0, .ref 26)] [.int (-5)] mm
      rw [← hZ]
      refine pw_ri (by decide +kernel) ?_
      exact ⟨by simp [F_feast, h4, h19], by unfold G_feast; rw [if_neg h4, if_neg (by omega)]; exact hv, pw_mf_r⟩
  · refine pw_blk (pc' := 9) [.iconst (-4)] (by decide +kernel) ?_
    show pw_V x m_X8_feast 4 Z 9 [(0, .ref 26)] [.int (-4)] mm
    rw [← hZ]
    refine pw_ri (by decide +kernel) ?_
    exact ⟨by simp [F_feast, h4], by unfold G_feast; rw [if_pos h4]; exact hv, pw_mf_r⟩
