set_option maxHeartbeats 4000000 in
set_option maxRecDepth 100000 in
theorem c_mquests {A : pw_m} (mm : pw_m) (hv : MV A mm) (hok : pw_ok A) (k s n p q : Int32) : pw_Ct 2 yX8_quests m_X8_quests [.ref 26, .int k, .int s, .int n, .int p, .int q] mm (fun r m' => r = some (.long (F_quests A k s n p q)) ∧ m' = mm) := by
  refine pw_ct (by decide +kernel) rfl (Nat.le_of_ble_eq_true rfl) (fun x => ?_)
  generalize hZ : pw_Z x _ = Z
  have bn := pw_bn hok
  have bk := pw_bk hok
  show pw_V x m_X8_quests 2 Z 0 [(0, .ref 26), (1, .int k), (2, .int s), (3, .int n), (4, .int p), (5, .int q)] [] mm
  refine pw_blk (pc' := 2) [.aload 0, .iload 1] (by decide +kernel) ?_
  show pw_V x m_X8_quests 2 Z 2 [(0, .ref 26), (1, .int k), (2, .int s), (3, .int n), (4, .int p), (5, .int q)] [.int k, .ref 26] mm
  refine pw_cV (vs := [.int k]) (rest := []) k_X8_isKnight (c_misKnight mm hv hok k) l_8_82 rfl rfl rfl rfl (by omega) (Nat.le_of_ble_eq_true rfl) (by decide +kernel) ?_
  rintro _ m1 ⟨rfl, e1⟩
  rw [e1]
  clear e1 m1
  show pw_V x m_X8_quests 2 Z 5 [(0, .ref 26), (1, .int k), (2, .int s), (3, .int n), (4, .int p), (5, .int q)] [.int (pw_b (pw_inr k (pw_k A)))] mm
  refine pw_ib_eq (tgt := 16) (off := 11) (by decide +kernel) (by decide) (fun h5 => ?_) (fun h5 => ?_)
  · refine pw_blk (pc' := 19) [.jsr (-2)] (by decide +kernel) ?_
    show pw_V x m_X8_quests 2 Z 19 [(0, .ref 26), (1, .int k), (2, .int s), (3, .int n), (4, .int p), (5, .int q)] [.long (-2 : Int64)] mm
    rw [← hZ]
    refine pw_rl (by decide +kernel) ?_
    exact ⟨by simp [F_quests, h5], rfl⟩
  · obtain ⟨j5, b5, e5⟩ := pw_inr_t (by omega) h5
    subst e5
    refine pw_blk (pc' := 10) [.aload 0, .iload 2] (by decide +kernel) ?_
    show pw_V x m_X8_quests 2 Z 10 [(0, .ref 26), (1, .int (nI j5)), (2, .int s), (3, .int n), (4, .int p), (5, .int q)] [.int s, .ref 26] mm
    refine pw_cV (vs := [.int s]) (rest := []) k_X8_isSeat (c_misSeat mm hv hok s) l_8_195 rfl rfl rfl rfl (by omega) (Nat.le_of_ble_eq_true rfl) (by decide +kernel) ?_
    rintro _ m1 ⟨rfl, e1⟩
    rw [e1]
    clear e1 m1
    show pw_V x m_X8_quests 2 Z 13 [(0, .ref 26), (1, .int (nI j5)), (2, .int s), (3, .int n), (4, .int p), (5, .int q)] [.int (pw_b (pw_inr s (pw_n A)))] mm
    refine pw_ib_ne (tgt := 20) (off := 7) (by decide +kernel) (by decide) (fun h13 => ?_) (fun h13 => ?_)
    · obtain ⟨j13, b13, e13⟩ := pw_inr_t (by omega) h13
      subst e13
      refine pw_blk (pc' := 24) [.iload 3, .iconst 0, .iconst (8)] (by decide +kernel) ?_
      show pw_V x m_X8_quests 2 Z 24 [(0, .ref 26), (1, .int (nI j5)), (2, .int (nI j13)), (3, .int n), (4, .int p), (5, .int q)] [.int (nI 8), .int (nI 0), .int n] mm
      refine pw_cS (vs := [.int n, .int (nI 0), .int (nI 8)]) (rest := []) k_X8_in (c_in0 n 8 mm (by first | omega | exact pw_g_lt)) l_8_78 rfl (by omega) (Nat.le_of_ble_eq_true rfl) (by decide +kernel) ?_
      rintro _ m1 ⟨rfl, e1⟩
      rw [e1]
      clear e1 m1
      show pw_V x m_X8_quests 2 Z 27 [(0, .ref 26), (1, .int (nI j5)), (2, .int (nI j13)), (3, .int n), (4, .int p), (5, .int q)] [.int (pw_b (pw_inr n 9))] mm
      refine pw_ib_eq (tgt := 51) (off := 24) (by decide +kernel) (by decide) (fun h27 => ?_) (fun h27 => ?_)
      · refine pw_blk (pc' := 54) [.jsr (-3)] (by decide +kernel) ?_
        show pw_V x m_X8_quests 2 Z 54 [(0, .ref 26), (1, .int (nI j5)), (2, .int (nI j13)), (3, .int n), (4, .int p), (5, .int q)] [.long (-3 : Int64)] mm
        rw [← hZ]
        refine pw_rl (by decide +kernel) ?_
        refine ⟨?_, rfl⟩
        unfold F_quests
        rw [if_pos ⟨h5, h13⟩, if_neg (by rw [h27]; simp)]
      · obtain ⟨j27, b27, e27⟩ := pw_inr_t (by omega) h27
        subst e27
        refine pw_blk (pc' := 35) [.iload 4, .iconst 0, .iconst (10)] (by decide +kernel) ?_
        show pw_V x m_X8_quests 2 Z 35 [(0, .ref 26), (1, .int (nI j5)), (2, .int (nI j13)), (3, .int (nI j27)), (4, .int p), (5, .int q)] [.int (nI 10), .int (nI 0), .int p] mm
        refine pw_cS (vs := [.int p, .int (nI 0), .int (nI 10)]) (rest := []) k_X8_in (c_in0 p 10 mm (by first | omega | exact pw_g_lt)) l_8_78 rfl (by omega) (Nat.le_of_ble_eq_true rfl) (by decide +kernel) ?_
        rintro _ m1 ⟨rfl, e1⟩
        rw [e1]
        clear e1 m1
        show pw_V x m_X8_quests 2 Z 38 [(0, .ref 26), (1, .int (nI j5)), (2, .int (nI j13)), (3, .int (nI j27)), (4, .int p), (5, .int q)] [.int (pw_b (pw_inr p 11))] mm
        refine pw_ib_eq (tgt := 51) (off := 13) (by decide +kernel) (by decide) (fun h38 => ?_) (fun h38 => ?_)
        · refine pw_blk (pc' := 54) [.jsr (-3)] (by decide +kernel) ?_
          show pw_V x m_X8_quests 2 Z 54 [(0, .ref 26), (1, .int (nI j5)), (2, .int (nI j13)), (3, .int (nI j27)), (4, .int p), (5, .int q)] [.long (-3 : Int64)] mm
          rw [← hZ]
          refine pw_rl (by decide +kernel) ?_
          refine ⟨?_, rfl⟩
          unfold F_quests
          rw [if_pos ⟨h5, h13⟩, if_neg (by rw [h38]; simp)]
        · obtain ⟨j38, b38, e38⟩ := pw_inr_t (by omega) h38
          subst e38
          refine pw_blk (pc' := 45) [.iload 5, .iconst 0, .iconst 1] (by decide +kernel) ?_
          show pw_V x m_X8_quests 2 Z 45 [(0, .ref 26), (1, .int (nI j5)), (2, .int (nI j13)), (3, .int (nI j27)), (4, .int (nI j38)), (5, .int q)] [.int (nI 1), .int (nI 0), .int q] mm
          refine pw_cS (vs := [.int q, .int (nI 0), .int (nI 1)]) (rest := []) k_X8_in (c_in0 q 1 mm (by first | omega | exact pw_g_lt)) l_8_78 rfl (by omega) (Nat.le_of_ble_eq_true rfl) (by decide +kernel) ?_
          rintro _ m1 ⟨rfl, e1⟩
          rw [e1]
          clear e1 m1
          show pw_V x m_X8_quests 2 Z 48 [(0, .ref 26), (1, .int (nI j5)), (2, .int (nI j13)), (3, .int (nI j27)), (4, .int (nI j38)), (5, .int q)] [.int (pw_b (pw_inr q 2))] mm
          refine pw_ib_ne (tgt := 55) (off := 7) (by decide +kernel) (by decide) (fun h48 => ?_) (fun h48 => ?_)
          · obtain ⟨j48, b48, e48⟩ := pw_inr_t (by omega) h48
            subst e48
            refine pw_blk (pc' := 64) [.jsr 0, .lstore 6, .jsr 1, .lstore 8, .iconst 0, .istore 10] (by decide +kernel) ?_
            show pw_V x m_X8_quests 2 Z 64 [(10, .int (nI 0)), (8, .long (1 : Int64)), (6, .long (0 : Int64)), (0, .ref 26), (1, .int (nI j5)), (2, .int (nI j13)), (3, .int (nI j27)), (4, .int (nI j38)), (5, .int (nI j48))] [] mm
            have p8 : 2 ^ j27 ≤ 2 ^ 8 := Nat.pow_le_pow_right (by omega) (by omega)
            have b43 := pw_b43 hok (show j5 < 6 by omega)
            refine pw_lvp [3, 4, 5, 6, 7, 8, 2, 1, 0] rfl ?_
            suffices lo : ∀ ix : Nat, ix ≤ 2 ^ j27 → pw_V x m_X8_quests 2 Z 64 [(0, .ref 26), (1, .int (nI j5)), (2, .int (nI j13)), (3, .int (nI j27)), (4, .int (nI j38)), (5, .int (nI j48)), (6, .long (lN (pw_sm (fun x => pw_gq A j5 j13 j27 j38 (pw_pc x)) ix))), (8, .long (1 : Int64)), (10, .int (nI ix))] [] mm from lo 0 (Nat.zero_le _)
            refine pw_dn (2 ^ j27) (fun ix hix ih => ?_)
            refine pw_blk (pc' := 69) [.iload 10, .iconst 1, .iload 3, .ishl] (by decide +kernel) ?_
            show pw_V x m_X8_quests 2 Z 69 [(0, .ref 26), (1, .int (nI j5)), (2, .int (nI j13)), (3, .int (nI j27)), (4, .int (nI j38)), (5, .int (nI j48)), (6, .long (lN (pw_sm (fun x => pw_gq A j5 j13 j27 j38 (pw_pc x)) ix))), (8, .long (1 : Int64)), (10, .int (nI ix))] [.int ((nI 1) <<< ((nI j27) &&& 31)), .int (nI ix)] mm
            rw [show (nI 1) <<< ((nI j27) &&& 31) = nI (2 ^ j27) from pw_shl1 (by first | omega | exact pw_g_lt)]
            refine pw_in_ge (tgt := 186) (off := 117) (by first | omega | exact pw_g_lt) (by first | omega | exact pw_g_lt) (by decide +kernel) (by decide) (fun h69 => ?_) (fun h69 => ?_)
            · have ei : ix = 2 ^ j27 := by omega
              obtain ⟨ab, hab⟩ : ∃ ab, ab = pw_ab A j5 j13 j27 j38 (j27 + 1) := ⟨_, rfl⟩
              have habl : ab ≤ 10 ^ j27 := by rw [hab, ← pw_wt_sum j27 b27 j38 b38]; exact pw_ab_le _
              obtain ⟨t1, t2⟩ := pw_10n j27 b27
              rw [show lN (pw_sm (fun x => pw_gq A j5 j13 j27 j38 (pw_pc x)) ix) = lN ab from by rw [ei, pw_ab_m b27, hab]]
              refine pw_blk (pc' := 189) [.iconst 0, .istore 10] (by decide +kernel) ?_
              show pw_V x m_X8_quests 2 Z 189 [(10, .int (nI 0)), (0, .ref 26), (1, .int (nI j5)), (2, .int (nI j13)), (3, .int (nI j27)), (4, .int (nI j38)), (5, .int (nI j48)), (6, .long (lN ab)), (8, .long (1 : Int64))] [] mm
              refine pw_lvp [1, 2, 3, 4, 5, 6, 7, 8, 0] rfl ?_
              suffices lz : ∀ iz : Nat, iz ≤ j27 → pw_V x m_X8_quests 2 Z 189 [(0, .ref 26), (1, .int (nI j5)), (2, .int (nI j13)), (3, .int (nI j27)), (4, .int (nI j38)), (5, .int (nI j48)), (6, .long (lN ab)), (8, .long (lN (10 ^ iz))), (10, .int (nI iz))] [] mm from lz 0 (by omega)
              refine pw_dn j27 (fun iz hiz kh => ?_)
              refine pw_blk (pc' := 192) [.iload 10, .iload 3] (by decide +kernel) ?_
              show pw_V x m_X8_quests 2 Z 192 [(0, .ref 26), (1, .int (nI j5)), (2, .int (nI j13)), (3, .int (nI j27)), (4, .int (nI j38)), (5, .int (nI j48)), (6, .long (lN ab)), (8, .long (lN (10 ^ iz))), (10, .int (nI iz))] [.int (nI j27), .int (nI iz)] mm
              refine pw_in_ge (tgt := 209) (off := 17) (by first | omega | exact pw_g_lt) (by first | omega | exact pw_g_lt) (by decide +kernel) (by decide) (fun h192 => ?_) (fun h192 => ?_)
              · have ez : iz = j27 := by omega
                rw [ez]
                refine pw_blk (pc' := 217) [.lload 6, .lstore 10, .lload 8, .lstore 12] (by decide +kernel) ?_
                show pw_V x m_X8_quests 2 Z 217 [(12, .long (lN (10 ^ j27))), (10, .long (lN ab)), (0, .ref 26), (1, .int (nI j5)), (2, .int (nI j13)), (3, .int (nI j27)), (4, .int (nI j38)), (5, .int (nI j48)), (6, .long (lN ab)), (8, .long (lN (10 ^ j27)))] [] mm
                refine pw_lvp [2, 3, 4, 5, 6, 7, 8, 9, 1, 0] rfl ?_
                suffices lg : ∀ fx ax bx : Nat, bx ≤ fx → ax < 2 ^ 60 → bx < 2 ^ 60 → Nat.gcd ax bx = Nat.gcd (10 ^ j27) ab → pw_V x m_X8_quests 2 Z 217 [(0, .ref 26), (1, .int (nI j5)), (2, .int (nI j13)), (3, .int (nI j27)), (4, .int (nI j38)), (5, .int (nI j48)), (6, .long (lN ab)), (8, .long (lN (10 ^ j27))), (10, .long (lN ax)), (12, .long (lN bx))] [] mm from lg (10 ^ j27) ab (10 ^ j27) (Nat.le_refl _) (by omega) (by omega) (Nat.gcd_comm _ _)
                intro fx
                induction fx with
                | zero =>
                  intro ax bx h1 h2 h3 hg
                  refine pw_blk (pc' := 221) [.lload 12, .jsr 0, .lcmp] (by decide +kernel) ?_
                  show pw_V x m_X8_quests 2 Z 221 [(0, .ref 26), (1, .int (nI j5)), (2, .int (nI j13)), (3, .int (nI j27)), (4, .int (nI j38)), (5, .int (nI j48)), (6, .long (lN ab)), (8, .long (lN (10 ^ j27))), (10, .long (lN ax)), (12, .long (lN bx))] [.int (lg_cmp (lN bx) (0 : Int64))] mm
                  refine pw_if_le (tgt := 242) (off := 21) (by decide +kernel) (by decide) (fun h221 => ?_) (fun h221 => ?_)
                  · have z : bx = 0 := (pw_lcle (by omega)).mp h221
                    rw [z, Nat.gcd_zero_right] at hg
                    have hg0 : 0 < ax := by rw [hg]; exact Nat.gcd_pos_of_pos_left _ t2
                    have hgn : ¬ lN ax = 0 := fun z => Nat.ne_of_gt hg0 ((pk_lEQ (a := ax) (b := 0) (by omega) (by omega)).mp z)
                    refine pw_blk (pc' := 244) [.iload 5] (by decide +kernel) ?_
                    show pw_V x m_X8_quests 2 Z 244 [(0, .ref 26), (1, .int (nI j5)), (2, .int (nI j13)), (3, .int (nI j27)), (4, .int (nI j38)), (5, .int (nI j48)), (6, .long (lN ab)), (8, .long (lN (10 ^ j27))), (10, .long (lN ax)), (12, .long (lN bx))] [.int (nI j48)] mm
                    refine pw_iz_ne (tgt := 252) (off := 8) (by first | omega | exact pw_g_lt) (by decide +kernel) (by decide) (fun h244 => ?_) (fun h244 => ?_)
                    · refine pw_blk (pc' := 257) [.lload 8, .lload 10, .ldiv] (by decide +kernel) ?_
                      refine ⟨by exact hgn, ?_⟩
                      show pw_V x m_X8_quests 2 Z 257 [(0, .ref 26), (1, .int (nI j5)), (2, .int (nI j13)), (3, .int (nI j27)), (4, .int (nI j38)), (5, .int (nI j48)), (6, .long (lN ab)), (8, .long (lN (10 ^ j27))), (10, .long (lN ax)), (12, .long (lN bx))] [.long ((lN (10 ^ j27)) / (lN ax))] mm
                      rw [← hZ]
                      refine pw_rl (by decide +kernel) ?_
                      refine ⟨?_, rfl⟩
                      unfold F_quests
                      rw [if_pos ⟨h5, h13⟩, if_pos ⟨h27, h38, h48⟩, pw_c_nI (show j5 < 2 ^ 31 by omega), pw_c_nI (show j13 < 2 ^ 31 by omega), pw_c_nI (show j27 < 2 ^ 31 by omega), pw_c_nI (show j38 < 2 ^ 31 by omega), pw_c_nI (show j48 < 2 ^ 31 by omega)]
                      rw [pk_lDiv (by omega) hg0 (by omega)]
                      unfold F_qn
                      rw [← hab, ← hg]
                      rw [if_neg h244]
                    · refine pw_blk (pc' := 249) [.lload 6] (by decide +kernel) ?_
                      show pw_V x m_X8_quests 2 Z 249 [(0, .ref 26), (1, .int (nI j5)), (2, .int (nI j13)), (3, .int (nI j27)), (4, .int (nI j38)), (5, .int (nI j48)), (6, .long (lN ab)), (8, .long (lN (10 ^ j27))), (10, .long (lN ax)), (12, .long (lN bx))] [.long (lN ab)] mm
                      refine pw_goto (tgt := 254) (off := 5) (by decide +kernel) (by decide) ?_
                      refine pw_blk (pc' := 257) [.lload 10, .ldiv] (by decide +kernel) ?_
                      refine ⟨by exact hgn, ?_⟩
                      show pw_V x m_X8_quests 2 Z 257 [(0, .ref 26), (1, .int (nI j5)), (2, .int (nI j13)), (3, .int (nI j27)), (4, .int (nI j38)), (5, .int (nI j48)), (6, .long (lN ab)), (8, .long (lN (10 ^ j27))), (10, .long (lN ax)), (12, .long (lN bx))] [.long ((lN ab) / (lN ax))] mm
                      rw [← hZ]
                      refine pw_rl (by decide +kernel) ?_
                      refine ⟨?_, rfl⟩
                      unfold F_quests
                      rw [if_pos ⟨h5, h13⟩, if_pos ⟨h27, h38, h48⟩, pw_c_nI (show j5 < 2 ^ 31 by omega), pw_c_nI (show j13 < 2 ^ 31 by omega), pw_c_nI (show j27 < 2 ^ 31 by omega), pw_c_nI (show j38 < 2 ^ 31 by omega), pw_c_nI (show j48 < 2 ^ 31 by omega)]
                      rw [pk_lDiv (by omega) hg0 (by omega)]
                      unfold F_qn
                      rw [← hab, ← hg]
                      rw [if_pos h244]
                  · exact absurd ((pw_lcle (by omega)).mpr (by omega)) h221
                | succ fx ih4 =>
                  intro ax bx h1 h2 h3 hg
                  refine pw_blk (pc' := 221) [.lload 12, .jsr 0, .lcmp] (by decide +kernel) ?_
                  show pw_V x m_X8_quests 2 Z 221 [(0, .ref 26), (1, .int (nI j5)), (2, .int (nI j13)), (3, .int (nI j27)), (4, .int (nI j38)), (5, .int (nI j48)), (6, .long (lN ab)), (8, .long (lN (10 ^ j27))), (10, .long (lN ax)), (12, .long (lN bx))] [.int (lg_cmp (lN bx) (0 : Int64))] mm
                  refine pw_if_le (tgt := 242) (off := 21) (by decide +kernel) (by decide) (fun h221 => ?_) (fun h221 => ?_)
                  · have z : bx = 0 := (pw_lcle (by omega)).mp h221
                    rw [z, Nat.gcd_zero_right] at hg
                    have hg0 : 0 < ax := by rw [hg]; exact Nat.gcd_pos_of_pos_left _ t2
                    have hgn : ¬ lN ax = 0 := fun z => Nat.ne_of_gt hg0 ((pk_lEQ (a := ax) (b := 0) (by omega) (by omega)).mp z)
                    refine pw_blk (pc' := 244) [.iload 5] (by decide +kernel) ?_
                    show pw_V x m_X8_quests 2 Z 244 [(0, .ref 26), (1, .int (nI j5)), (2, .int (nI j13)), (3, .int (nI j27)), (4, .int (nI j38)), (5, .int (nI j48)), (6, .long (lN ab)), (8, .long (lN (10 ^ j27))), (10, .long (lN ax)), (12, .long (lN bx))] [.int (nI j48)] mm
                    refine pw_iz_ne (tgt := 252) (off := 8) (by first | omega | exact pw_g_lt) (by decide +kernel) (by decide) (fun h244 => ?_) (fun h244 => ?_)
                    · refine pw_blk (pc' := 257) [.lload 8, .lload 10, .ldiv] (by decide +kernel) ?_
                      refine ⟨by exact hgn, ?_⟩
                      show pw_V x m_X8_quests 2 Z 257 [(0, .ref 26), (1, .int (nI j5)), (2, .int (nI j13)), (3, .int (nI j27)), (4, .int (nI j38)), (5, .int (nI j48)), (6, .long (lN ab)), (8, .long (lN (10 ^ j27))), (10, .long (lN ax)), (12, .long (lN bx))] [.long ((lN (10 ^ j27)) / (lN ax))] mm
                      rw [← hZ]
                      refine pw_rl (by decide +kernel) ?_
                      refine ⟨?_, rfl⟩
                      unfold F_quests
                      rw [if_pos ⟨h5, h13⟩, if_pos ⟨h27, h38, h48⟩, pw_c_nI (show j5 < 2 ^ 31 by omega), pw_c_nI (show j13 < 2 ^ 31 by omega), pw_c_nI (show j27 < 2 ^ 31 by omega), pw_c_nI (show j38 < 2 ^ 31 by omega), pw_c_nI (show j48 < 2 ^ 31 by omega)]
                      rw [pk_lDiv (by omega) hg0 (by omega)]
                      unfold F_qn
                      rw [← hab, ← hg]
                      rw [if_neg h244]
                    · refine pw_blk (pc' := 249) [.lload 6] (by decide +kernel) ?_
                      show pw_V x m_X8_quests 2 Z 249 [(0, .ref 26), (1, .int (nI j5)), (2, .int (nI j13)), (3, .int (nI j27)), (4, .int (nI j38)), (5, .int (nI j48)), (6, .long (lN ab)), (8, .long (lN (10 ^ j27))), (10, .long (lN ax)), (12, .long (lN bx))] [.long (lN ab)] mm
                      refine pw_goto (tgt := 254) (off := 5) (by decide +kernel) (by decide) ?_
                      refine pw_blk (pc' := 257) [.lload 10, .ldiv] (by decide +kernel) ?_
                      refine ⟨by exact hgn, ?_⟩
                      show pw_V x m_X8_quests 2 Z 257 [(0, .ref 26), (1, .int (nI j5)), (2, .int (nI j13)), (3, .int (nI j27)), (4, .int (nI j38)), (5, .int (nI j48)), (6, .long (lN ab)), (8, .long (lN (10 ^ j27))), (10, .long (lN ax)), (12, .long (lN bx))] [.long ((lN ab) / (lN ax))] mm
                      rw [← hZ]
                      refine pw_rl (by decide +kernel) ?_
                      refine ⟨?_, rfl⟩
                      unfold F_quests
                      rw [if_pos ⟨h5, h13⟩, if_pos ⟨h27, h38, h48⟩, pw_c_nI (show j5 < 2 ^ 31 by omega), pw_c_nI (show j13 < 2 ^ 31 by omega), pw_c_nI (show j27 < 2 ^ 31 by omega), pw_c_nI (show j38 < 2 ^ 31 by omega), pw_c_nI (show j48 < 2 ^ 31 by omega)]
                      rw [pk_lDiv (by omega) hg0 (by omega)]
                      unfold F_qn
                      rw [← hab, ← hg]
                      rw [if_pos h244]
                  · have hb0 : 0 < bx := Nat.pos_of_ne_zero (fun z => h221 ((pw_lcle (by omega)).mpr z))
                    have hgn : ¬ lN bx = 0 := fun z => Nat.ne_of_gt hb0 ((pk_lEQ (a := bx) (b := 0) (by omega) (by omega)).mp z)
                    refine pw_blk (pc' := 229) [.lload 10, .lload 12, .lrem] (by decide +kernel) ?_
                    refine ⟨by exact hgn, ?_⟩
                    show pw_V x m_X8_quests 2 Z 229 [(0, .ref 26), (1, .int (nI j5)), (2, .int (nI j13)), (3, .int (nI j27)), (4, .int (nI j38)), (5, .int (nI j48)), (6, .long (lN ab)), (8, .long (lN (10 ^ j27))), (10, .long (lN ax)), (12, .long (lN bx))] [.long ((lN ax) - (lN ax) / (lN bx) * (lN bx))] mm
                    rw [pk_lRem (a := ax) (b := bx) (by omega) hb0 (by omega)]
                    show pw_V x m_X8_quests 2 Z 229 [(0, .ref 26), (1, .int (nI j5)), (2, .int (nI j13)), (3, .int (nI j27)), (4, .int (nI j38)), (5, .int (nI j48)), (6, .long (lN ab)), (8, .long (lN (10 ^ j27))), (10, .long (lN ax)), (12, .long (lN bx))] [.long (lN (ax % bx))] mm
                    refine pw_blk (pc' := 239) [.lstore 14, .lload 12, .lstore 10, .lload 14, .lstore 12] (by decide +kernel) ?_
                    show pw_V x m_X8_quests 2 Z 239 [(12, .long (lN (ax % bx))), (10, .long (lN bx)), (14, .long (lN (ax % bx))), (0, .ref 26), (1, .int (nI j5)), (2, .int (nI j13)), (3, .int (nI j27)), (4, .int (nI j38)), (5, .int (nI j48)), (6, .long (lN ab)), (8, .long (lN (10 ^ j27)))] [] mm
                    refine pw_goto (tgt := 217) (off := -22) (by decide +kernel) (by decide) ?_
                    have hm := Nat.mod_lt ax hb0
                    refine pw_lvp [3, 4, 5, 6, 7, 8, 9, 10, 1, 0] rfl ?_
                    exact ih4 bx (ax % bx) (by omega) (by omega) (by omega) (by rw [← hg, Nat.gcd_comm ax bx, Nat.gcd_rec bx ax, Nat.gcd_comm])
              · refine pw_blk (pc' := 206) [.lload 8, .jsr (10), .lmul, .lstore 8, .iinc 10 1] (by decide +kernel) ?_
                show pw_V x m_X8_quests 2 Z 206 [(10, .int ((nI iz) + (nI 1))), (8, .long ((lN (10 ^ iz)) * (10 : Int64))), (0, .ref 26), (1, .int (nI j5)), (2, .int (nI j13)), (3, .int (nI j27)), (4, .int (nI j38)), (5, .int (nI j48)), (6, .long (lN ab))] [] mm
                rw [show (nI iz) + (nI 1) = nI (iz + 1) from nI_add _ _]
                refine pw_goto (tgt := 189) (off := -17) (by decide +kernel) (by decide) ?_
                rw [show (lN (10 ^ iz)) * (10 : Int64) = lN (10 ^ (iz + 1)) from by rw [show (10 : Int64) = lN 10 from rfl, lN_mul, Nat.pow_succ]]
                refine pw_lvp [2, 3, 4, 5, 6, 7, 8, 1, 0] rfl ?_
                exact kh (by omega)
            · refine pw_blk (pc' := 74) [.iload 10] (by decide +kernel) ?_
              show pw_V x m_X8_quests 2 Z 74 [(0, .ref 26), (1, .int (nI j5)), (2, .int (nI j13)), (3, .int (nI j27)), (4, .int (nI j38)), (5, .int (nI j48)), (6, .long (lN (pw_sm (fun x => pw_gq A j5 j13 j27 j38 (pw_pc x)) ix))), (8, .long (1 : Int64)), (10, .int (nI ix))] [.int (nI ix)] mm
              refine pw_cS (vs := [.int (nI ix)]) (rest := []) k_X8_bits (c_bits ix mm (by omega)) l_8_210 rfl (by omega) (Nat.le_of_ble_eq_true rfl) (by decide +kernel) ?_
              rintro _ m1 ⟨rfl, e1⟩
              rw [e1]
              clear e1 m1
              show pw_V x m_X8_quests 2 Z 77 [(0, .ref 26), (1, .int (nI j5)), (2, .int (nI j13)), (3, .int (nI j27)), (4, .int (nI j38)), (5, .int (nI j48)), (6, .long (lN (pw_sm (fun x => pw_gq A j5 j13 j27 j38 (pw_pc x)) ix))), (8, .long (1 : Int64)), (10, .int (nI ix))] [.int (nI (pw_pc ix))] mm
              refine pw_blk (pc' := 85) [.istore 11, .jsr 1, .lstore 12, .iconst 0, .istore 14] (by decide +kernel) ?_
              show pw_V x m_X8_quests 2 Z 85 [(14, .int (nI 0)), (12, .long (1 : Int64)), (11, .int (nI (pw_pc ix))), (0, .ref 26), (1, .int (nI j5)), (2, .int (nI j13)), (3, .int (nI j27)), (4, .int (nI j38)), (5, .int (nI j48)), (6, .long (lN (pw_sm (fun x => pw_gq A j5 j13 j27 j38 (pw_pc x)) ix))), (8, .long (1 : Int64)), (10, .int (nI ix))] [] mm
              have bpc := pw_pc_le ix
              refine pw_lvp [3, 4, 5, 6, 7, 8, 9, 10, 11, 2, 1, 0] rfl ?_
              suffices ly : ∀ iy : Nat, iy ≤ j27 → pw_V x m_X8_quests 2 Z 85 [(0, .ref 26), (1, .int (nI j5)), (2, .int (nI j13)), (3, .int (nI j27)), (4, .int (nI j38)), (5, .int (nI j48)), (6, .long (lN (pw_sm (fun x => pw_gq A j5 j13 j27 j38 (pw_pc x)) ix))), (8, .long (1 : Int64)), (10, .int (nI ix)), (11, .int (nI (pw_pc ix))), (12, .long (lN (pw_pv j38 ix iy))), (14, .int (nI iy))] [] mm from ly 0 (by omega)
              refine pw_dn j27 (fun iy hiy jh => ?_)
              refine pw_blk (pc' := 88) [.iload 14, .iload 3] (by decide +kernel) ?_
              show pw_V x m_X8_quests 2 Z 88 [(0, .ref 26), (1, .int (nI j5)), (2, .int (nI j13)), (3, .int (nI j27)), (4, .int (nI j38)), (5, .int (nI j48)), (6, .long (lN (pw_sm (fun x => pw_gq A j5 j13 j27 j38 (pw_pc x)) ix))), (8, .long (1 : Int64)), (10, .int (nI ix)), (11, .int (nI (pw_pc ix))), (12, .long (lN (pw_pv j38 ix iy))), (14, .int (nI iy))] [.int (nI j27), .int (nI iy)] mm
              refine pw_in_ge (tgt := 124) (off := 36) (by first | omega | exact pw_g_lt) (by first | omega | exact pw_g_lt) (by decide +kernel) (by decide) (fun h88 => ?_) (fun h88 => ?_)
              · refine pw_blk (pc' := 137) [.aload 0, .getfield 808, .iconst 2, .iload 1, .iadd, .iaload, .iload 11, .iadd, .iconst (9)] (by decide +kernel) ?_
                refine ⟨(2 + j5), (show (nI 2) + (nI j5) = nI (2 + j5) from by rw [show (nI 2) + (nI j5) = nI (2 + j5) from nI_add _ _]), by first | omega | exact pw_g_lt, ?_⟩
                show pw_V x m_X8_quests 2 Z 137 [(0, .ref 26), (1, .int (nI j5)), (2, .int (nI j13)), (3, .int (nI j27)), (4, .int (nI j38)), (5, .int (nI j48)), (6, .long (lN (pw_sm (fun x => pw_gq A j5 j13 j27 j38 (pw_pc x)) ix))), (8, .long (1 : Int64)), (10, .int (nI ix)), (11, .int (nI (pw_pc ix))), (12, .long (lN (pw_pv j38 ix iy))), (14, .int (nI iy))] [.int (nI 9), .int ((mm 30 (2 + j5)) + (nI (pw_pc ix)))] mm
                rw [show mm 30 (2 + j5) = nI (pw_g A 43 j5) from mv_rn hv hok (i := j5) (by omega)]
                rw [show (nI (pw_g A 43 j5)) + (nI (pw_pc ix)) = nI ((pw_g A 43 j5) + (pw_pc ix)) from nI_add _ _]
                refine pw_in_le (tgt := 145) (off := 8) (by first | omega | exact pw_g_lt) (by first | omega | exact pw_g_lt) (by decide +kernel) (by decide) (fun h137 => ?_) (fun h137 => ?_)
                · refine pw_blk (pc' := 165) [.aload 0, .getfield 808, .iconst 2, .iload 1, .iadd, .iaload, .iload 11, .iadd, .istore 14, .lload 6, .aload 0, .iload 1, .iload 2, .iload 14] (by decide +kernel) ?_
                  refine ⟨(2 + j5), (show (nI 2) + (nI j5) = nI (2 + j5) from by rw [show (nI 2) + (nI j5) = nI (2 + j5) from nI_add _ _]), by first | omega | exact pw_g_lt, ?_⟩
                  show pw_V x m_X8_quests 2 Z 165 [(14, .int ((mm 30 (2 + j5)) + (nI (pw_pc ix)))), (0, .ref 26), (1, .int (nI j5)), (2, .int (nI j13)), (3, .int (nI j27)), (4, .int (nI j38)), (5, .int (nI j48)), (6, .long (lN (pw_sm (fun x => pw_gq A j5 j13 j27 j38 (pw_pc x)) ix))), (8, .long (1 : Int64)), (10, .int (nI ix)), (11, .int (nI (pw_pc ix))), (12, .long (lN (pw_pv j38 ix iy)))] [.int ((mm 30 (2 + j5)) + (nI (pw_pc ix))), .int (nI j13), .int (nI j5), .ref 26, .long (lN (pw_sm (fun x => pw_gq A j5 j13 j27 j38 (pw_pc x)) ix))] mm
                  rw [show mm 30 (2 + j5) = nI (pw_g A 43 j5) from mv_rn hv hok (i := j5) (by omega)]
                  rw [show (nI (pw_g A 43 j5)) + (nI (pw_pc ix)) = nI ((pw_g A 43 j5) + (pw_pc ix)) from nI_add _ _]
                  refine pw_cV (vs := [.int (nI j5), .int (nI j13), .int (nI ((pw_g A 43 j5) + (pw_pc ix)))]) (rest := [.long (lN (pw_sm (fun x => pw_gq A j5 j13 j27 j38 (pw_pc x)) ix))]) k_X8_fitsBy (c_mfitsBy mm hv hok j5 ((pw_g A 43 j5) + (pw_pc ix)) j13 (by omega) (by omega) (by first | omega | exact pw_g_lt)) l_8_186 rfl rfl rfl rfl (by omega) (Nat.le_of_ble_eq_true rfl) (by decide +kernel) ?_
                  rintro _ m1 ⟨rfl, e1⟩
                  rw [e1]
                  clear e1 m1
                  show pw_V x m_X8_quests 2 Z 168 [(14, .int (nI ((pw_g A 43 j5) + (pw_pc ix)))), (0, .ref 26), (1, .int (nI j5)), (2, .int (nI j13)), (3, .int (nI j27)), (4, .int (nI j38)), (5, .int (nI j48)), (6, .long (lN (pw_sm (fun x => pw_gq A j5 j13 j27 j38 (pw_pc x)) ix))), (8, .long (1 : Int64)), (10, .int (nI ix)), (11, .int (nI (pw_pc ix))), (12, .long (lN (pw_pv j38 ix iy)))] [.int (pw_b (pw_fit A j5 ((pw_g A 43 j5) + (pw_pc ix)) j13)), .long (lN (pw_sm (fun x => pw_gq A j5 j13 j27 j38 (pw_pc x)) ix))] mm
                  refine pw_ib_eq (tgt := 176) (off := 8) (by decide +kernel) (by decide) (fun h168 => ?_) (fun h168 => ?_)
                  · refine pw_blk (pc' := 183) [.jsr 0, .ladd, .lstore 6, .iinc 10 1] (by decide +kernel) ?_
                    show pw_V x m_X8_quests 2 Z 183 [(10, .int ((nI ix) + (nI 1))), (6, .long ((lN (pw_sm (fun x => pw_gq A j5 j13 j27 j38 (pw_pc x)) ix)) + (0 : Int64))), (14, .int (nI ((pw_g A 43 j5) + (pw_pc ix)))), (0, .ref 26), (1, .int (nI j5)), (2, .int (nI j13)), (3, .int (nI j27)), (4, .int (nI j38)), (5, .int (nI j48)), (8, .long (1 : Int64)), (11, .int (nI (pw_pc ix))), (12, .long (lN (pw_pv j38 ix iy)))] [] mm
                    rw [show (nI ix) + (nI 1) = nI (ix + 1) from nI_add _ _]
                    refine pw_goto (tgt := 64) (off := -119) (by decide +kernel) (by decide) ?_
                    rw [show (lN (pw_sm (fun x => pw_gq A j5 j13 j27 j38 (pw_pc x)) ix)) + (0 : Int64) = lN (pw_sm (fun x => pw_gq A j5 j13 j27 j38 (pw_pc x)) (ix + 1)) from by rw [show (0 : Int64) = lN 0 from rfl, lN_add]; show _ = lN (pw_sm (fun x => pw_gq A j5 j13 j27 j38 (pw_pc x)) ix + pw_gq A j5 j13 j27 j38 (pw_pc ix)); rw [show pw_gq A j5 j13 j27 j38 (pw_pc ix) = 0 from by unfold pw_gq; rw [show min 9 (pw_g A 43 j5 + pw_pc ix) = pw_g A 43 j5 + pw_pc ix by omega, if_neg (by rw [h168]; decide)]]]
                    refine pw_lvp [3, 4, 5, 6, 7, 8, 1, 9, 0] rfl ?_
                    exact ih h69
                  · refine pw_blk (pc' := 173) [.lload 12] (by decide +kernel) ?_
                    show pw_V x m_X8_quests 2 Z 173 [(14, .int (nI ((pw_g A 43 j5) + (pw_pc ix)))), (0, .ref 26), (1, .int (nI j5)), (2, .int (nI j13)), (3, .int (nI j27)), (4, .int (nI j38)), (5, .int (nI j48)), (6, .long (lN (pw_sm (fun x => pw_gq A j5 j13 j27 j38 (pw_pc x)) ix))), (8, .long (1 : Int64)), (10, .int (nI ix)), (11, .int (nI (pw_pc ix))), (12, .long (lN (pw_pv j38 ix iy)))] [.long (lN (pw_pv j38 ix iy)), .long (lN (pw_sm (fun x => pw_gq A j5 j13 j27 j38 (pw_pc x)) ix))] mm
                    refine pw_goto (tgt := 177) (off := 4) (by decide +kernel) (by decide) ?_
                    refine pw_blk (pc' := 183) [.ladd, .lstore 6, .iinc 10 1] (by decide +kernel) ?_
                    show pw_V x m_X8_quests 2 Z 183 [(10, .int ((nI ix) + (nI 1))), (6, .long ((lN (pw_sm (fun x => pw_gq A j5 j13 j27 j38 (pw_pc x)) ix)) + (lN (pw_pv j38 ix iy)))), (14, .int (nI ((pw_g A 43 j5) + (pw_pc ix)))), (0, .ref 26), (1, .int (nI j5)), (2, .int (nI j13)), (3, .int (nI j27)), (4, .int (nI j38)), (5, .int (nI j48)), (8, .long (1 : Int64)), (11, .int (nI (pw_pc ix))), (12, .long (lN (pw_pv j38 ix iy)))] [] mm
                    rw [show (nI ix) + (nI 1) = nI (ix + 1) from nI_add _ _]
                    refine pw_goto (tgt := 64) (off := -119) (by decide +kernel) (by decide) ?_
                    rw [show (lN (pw_sm (fun x => pw_gq A j5 j13 j27 j38 (pw_pc x)) ix)) + (lN (pw_pv j38 ix iy)) = lN (pw_sm (fun x => pw_gq A j5 j13 j27 j38 (pw_pc x)) (ix + 1)) from by rw [show pw_pv j38 ix iy = pw_gq A j5 j13 j27 j38 (pw_pc ix) from by unfold pw_gq; rw [show min 9 (pw_g A 43 j5 + pw_pc ix) = pw_g A 43 j5 + pw_pc ix by omega, if_pos h168, show iy = j27 by omega, pw_pv_n h69 (by omega)], lN_add]; rfl]
                    refine pw_lvp [3, 4, 5, 6, 7, 8, 1, 9, 0] rfl ?_
                    exact ih h69
                · refine pw_blk (pc' := 142) [.iconst (9)] (by decide +kernel) ?_
                  show pw_V x m_X8_quests 2 Z 142 [(0, .ref 26), (1, .int (nI j5)), (2, .int (nI j13)), (3, .int (nI j27)), (4, .int (nI j38)), (5, .int (nI j48)), (6, .long (lN (pw_sm (fun x => pw_gq A j5 j13 j27 j38 (pw_pc x)) ix))), (8, .long (1 : Int64)), (10, .int (nI ix)), (11, .int (nI (pw_pc ix))), (12, .long (lN (pw_pv j38 ix iy))), (14, .int (nI iy))] [.int (nI 9)] mm
                  refine pw_goto (tgt := 156) (off := 14) (by decide +kernel) (by decide) ?_
                  refine pw_blk (pc' := 165) [.istore 14, .lload 6, .aload 0, .iload 1, .iload 2, .iload 14] (by decide +kernel) ?_
                  show pw_V x m_X8_quests 2 Z 165 [(14, .int (nI 9)), (0, .ref 26), (1, .int (nI j5)), (2, .int (nI j13)), (3, .int (nI j27)), (4, .int (nI j38)), (5, .int (nI j48)), (6, .long (lN (pw_sm (fun x => pw_gq A j5 j13 j27 j38 (pw_pc x)) ix))), (8, .long (1 : Int64)), (10, .int (nI ix)), (11, .int (nI (pw_pc ix))), (12, .long (lN (pw_pv j38 ix iy)))] [.int (nI 9), .int (nI j13), .int (nI j5), .ref 26, .long (lN (pw_sm (fun x => pw_gq A j5 j13 j27 j38 (pw_pc x)) ix))] mm
                  refine pw_cV (vs := [.int (nI j5), .int (nI j13), .int (nI 9)]) (rest := [.long (lN (pw_sm (fun x => pw_gq A j5 j13 j27 j38 (pw_pc x)) ix))]) k_X8_fitsBy (c_mfitsBy mm hv hok j5 9 j13 (by omega) (by omega) (by first | omega | exact pw_g_lt)) l_8_186 rfl rfl rfl rfl (by omega) (Nat.le_of_ble_eq_true rfl) (by decide +kernel) ?_
                  rintro _ m1 ⟨rfl, e1⟩
                  rw [e1]
                  clear e1 m1
                  show pw_V x m_X8_quests 2 Z 168 [(14, .int (nI 9)), (0, .ref 26), (1, .int (nI j5)), (2, .int (nI j13)), (3, .int (nI j27)), (4, .int (nI j38)), (5, .int (nI j48)), (6, .long (lN (pw_sm (fun x => pw_gq A j5 j13 j27 j38 (pw_pc x)) ix))), (8, .long (1 : Int64)), (10, .int (nI ix)), (11, .int (nI (pw_pc ix))), (12, .long (lN (pw_pv j38 ix iy)))] [.int (pw_b (pw_fit A j5 9 j13)), .long (lN (pw_sm (fun x => pw_gq A j5 j13 j27 j38 (pw_pc x)) ix))] mm
                  refine pw_ib_eq (tgt := 176) (off := 8) (by decide +kernel) (by decide) (fun h168 => ?_) (fun h168 => ?_)
                  · refine pw_blk (pc' := 183) [.jsr 0, .ladd, .lstore 6, .iinc 10 1] (by decide +kernel) ?_
                    show pw_V x m_X8_quests 2 Z 183 [(10, .int ((nI ix) + (nI 1))), (6, .long ((lN (pw_sm (fun x => pw_gq A j5 j13 j27 j38 (pw_pc x)) ix)) + (0 : Int64))), (14, .int (nI 9)), (0, .ref 26), (1, .int (nI j5)), (2, .int (nI j13)), (3, .int (nI j27)), (4, .int (nI j38)), (5, .int (nI j48)), (8, .long (1 : Int64)), (11, .int (nI (pw_pc ix))), (12, .long (lN (pw_pv j38 ix iy)))] [] mm
                    rw [show (nI ix) + (nI 1) = nI (ix + 1) from nI_add _ _]
                    refine pw_goto (tgt := 64) (off := -119) (by decide +kernel) (by decide) ?_
                    rw [show (lN (pw_sm (fun x => pw_gq A j5 j13 j27 j38 (pw_pc x)) ix)) + (0 : Int64) = lN (pw_sm (fun x => pw_gq A j5 j13 j27 j38 (pw_pc x)) (ix + 1)) from by rw [show (0 : Int64) = lN 0 from rfl, lN_add]; show _ = lN (pw_sm (fun x => pw_gq A j5 j13 j27 j38 (pw_pc x)) ix + pw_gq A j5 j13 j27 j38 (pw_pc ix)); rw [show pw_gq A j5 j13 j27 j38 (pw_pc ix) = 0 from by unfold pw_gq; rw [show min 9 (pw_g A 43 j5 + pw_pc ix) = 9 by omega, if_neg (by rw [h168]; decide)]]]
                    refine pw_lvp [3, 4, 5, 6, 7, 8, 1, 9, 0] rfl ?_
                    exact ih h69
                  · refine pw_blk (pc' := 173) [.lload 12] (by decide +kernel) ?_
                    show pw_V x m_X8_quests 2 Z 173 [(14, .int (nI 9)), (0, .ref 26), (1, .int (nI j5)), (2, .int (nI j13)), (3, .int (nI j27)), (4, .int (nI j38)), (5, .int (nI j48)), (6, .long (lN (pw_sm (fun x => pw_gq A j5 j13 j27 j38 (pw_pc x)) ix))), (8, .long (1 : Int64)), (10, .int (nI ix)), (11, .int (nI (pw_pc ix))), (12, .long (lN (pw_pv j38 ix iy)))] [.long (lN (pw_pv j38 ix iy)), .long (lN (pw_sm (fun x => pw_gq A j5 j13 j27 j38 (pw_pc x)) ix))] mm
                    refine pw_goto (tgt := 177) (off := 4) (by decide +kernel) (by decide) ?_
                    refine pw_blk (pc' := 183) [.ladd, .lstore 6, .iinc 10 1] (by decide +kernel) ?_
                    show pw_V x m_X8_quests 2 Z 183 [(10, .int ((nI ix) + (nI 1))), (6, .long ((lN (pw_sm (fun x => pw_gq A j5 j13 j27 j38 (pw_pc x)) ix)) + (lN (pw_pv j38 ix iy)))), (14, .int (nI 9)), (0, .ref 26), (1, .int (nI j5)), (2, .int (nI j13)), (3, .int (nI j27)), (4, .int (nI j38)), (5, .int (nI j48)), (8, .long (1 : Int64)), (11, .int (nI (pw_pc ix))), (12, .long (lN (pw_pv j38 ix iy)))] [] mm
                    rw [show (nI ix) + (nI 1) = nI (ix + 1) from nI_add _ _]
                    refine pw_goto (tgt := 64) (off := -119) (by decide +kernel) (by decide) ?_
                    rw [show (lN (pw_sm (fun x => pw_gq A j5 j13 j27 j38 (pw_pc x)) ix)) + (lN (pw_pv j38 ix iy)) = lN (pw_sm (fun x => pw_gq A j5 j13 j27 j38 (pw_pc x)) (ix + 1)) from by rw [show pw_pv j38 ix iy = pw_gq A j5 j13 j27 j38 (pw_pc ix) from by unfold pw_gq; rw [show min 9 (pw_g A 43 j5 + pw_pc ix) = 9 by omega, if_pos h168, show iy = j27 by omega, pw_pv_n h69 (by omega)], lN_add]; rfl]
                    refine pw_lvp [3, 4, 5, 6, 7, 8, 1, 9, 0] rfl ?_
                    exact ih h69
              · refine pw_blk (pc' := 97) [.lload 12, .iload 10, .iload 14] (by decide +kernel) ?_
                show pw_V x m_X8_quests 2 Z 97 [(0, .ref 26), (1, .int (nI j5)), (2, .int (nI j13)), (3, .int (nI j27)), (4, .int (nI j38)), (5, .int (nI j48)), (6, .long (lN (pw_sm (fun x => pw_gq A j5 j13 j27 j38 (pw_pc x)) ix))), (8, .long (1 : Int64)), (10, .int (nI ix)), (11, .int (nI (pw_pc ix))), (12, .long (lN (pw_pv j38 ix iy))), (14, .int (nI iy))] [.int (nI iy), .int (nI ix), .long (lN (pw_pv j38 ix iy))] mm
                refine pw_cS (vs := [.int (nI ix), .int (nI iy)]) (rest := [.long (lN (pw_pv j38 ix iy))]) k_X8_has (c_mhasN ix iy mm (by first | omega | exact pw_g_lt | exact pw_ob_lt31 (by omega) | (have := h69; omega)) (by first | omega | exact pw_g_lt)) l_8_86 rfl (by omega) (Nat.le_of_ble_eq_true rfl) (by decide +kernel) ?_
                rintro _ m1 ⟨rfl, e1⟩
                rw [e1]
                clear e1 m1
                show pw_V x m_X8_quests 2 Z 100 [(0, .ref 26), (1, .int (nI j5)), (2, .int (nI j13)), (3, .int (nI j27)), (4, .int (nI j38)), (5, .int (nI j48)), (6, .long (lN (pw_sm (fun x => pw_gq A j5 j13 j27 j38 (pw_pc x)) ix))), (8, .long (1 : Int64)), (10, .int (nI ix)), (11, .int (nI (pw_pc ix))), (12, .long (lN (pw_pv j38 ix iy))), (14, .int (nI iy))] [.int (pw_b ((ix).testBit iy)), .long (lN (pw_pv j38 ix iy))] mm
                refine pw_ib_eq (tgt := 109) (off := 9) (by decide +kernel) (by decide) (fun h100 => ?_) (fun h100 => ?_)
                · refine pw_blk (pc' := 113) [.iconst (10), .iload 4] (by decide +kernel) ?_
                  show pw_V x m_X8_quests 2 Z 113 [(0, .ref 26), (1, .int (nI j5)), (2, .int (nI j13)), (3, .int (nI j27)), (4, .int (nI j38)), (5, .int (nI j48)), (6, .long (lN (pw_sm (fun x => pw_gq A j5 j13 j27 j38 (pw_pc x)) ix))), (8, .long (1 : Int64)), (10, .int (nI ix)), (11, .int (nI (pw_pc ix))), (12, .long (lN (pw_pv j38 ix iy))), (14, .int (nI iy))] [.int (nI j38), .int (nI 10), .long (lN (pw_pv j38 ix iy))] mm
                  refine pw_blk (pc' := 114) [.isub] (by decide +kernel) ?_
                  show pw_V x m_X8_quests 2 Z 114 [(0, .ref 26), (1, .int (nI j5)), (2, .int (nI j13)), (3, .int (nI j27)), (4, .int (nI j38)), (5, .int (nI j48)), (6, .long (lN (pw_sm (fun x => pw_gq A j5 j13 j27 j38 (pw_pc x)) ix))), (8, .long (1 : Int64)), (10, .int (nI ix)), (11, .int (nI (pw_pc ix))), (12, .long (lN (pw_pv j38 ix iy))), (14, .int (nI iy))] [.int (nI 10 - nI j38), .long (lN (pw_pv j38 ix iy))] mm
                  rw [pk_sub (show j38 ≤ 10 by omega)]
                  refine pw_blk (pc' := 121) [.i2l, .lmul, .lstore 12, .iinc 14 1] (by decide +kernel) ?_
                  show pw_V x m_X8_quests 2 Z 121 [(14, .int ((nI iy) + (nI 1))), (12, .long ((lN (pw_pv j38 ix iy)) * ((nI (10 - j38)).toInt64))), (0, .ref 26), (1, .int (nI j5)), (2, .int (nI j13)), (3, .int (nI j27)), (4, .int (nI j38)), (5, .int (nI j48)), (6, .long (lN (pw_sm (fun x => pw_gq A j5 j13 j27 j38 (pw_pc x)) ix))), (8, .long (1 : Int64)), (10, .int (nI ix)), (11, .int (nI (pw_pc ix)))] [] mm
                  rw [show (nI iy) + (nI 1) = nI (iy + 1) from nI_add _ _]
                  refine pw_goto (tgt := 85) (off := -36) (by decide +kernel) (by decide) ?_
                  rw [show (lN (pw_pv j38 ix iy)) * ((nI (10 - j38)).toInt64) = lN (pw_pv j38 ix (iy + 1)) from by rw [nI_l (by omega), lN_mul]; show _ = lN (pw_pv j38 ix iy * (if ix.testBit iy = true then j38 else 10 - j38)); rw [if_neg (by rw [h100]; decide)]]
                  refine pw_lvp [2, 3, 4, 5, 6, 7, 8, 9, 10, 11, 1, 0] rfl ?_
                  exact jh (by omega)
                · refine pw_blk (pc' := 106) [.iload 4, .i2l] (by decide +kernel) ?_
                  show pw_V x m_X8_quests 2 Z 106 [(0, .ref 26), (1, .int (nI j5)), (2, .int (nI j13)), (3, .int (nI j27)), (4, .int (nI j38)), (5, .int (nI j48)), (6, .long (lN (pw_sm (fun x => pw_gq A j5 j13 j27 j38 (pw_pc x)) ix))), (8, .long (1 : Int64)), (10, .int (nI ix)), (11, .int (nI (pw_pc ix))), (12, .long (lN (pw_pv j38 ix iy))), (14, .int (nI iy))] [.long ((nI j38).toInt64), .long (lN (pw_pv j38 ix iy))] mm
                  refine pw_goto (tgt := 115) (off := 9) (by decide +kernel) (by decide) ?_
                  refine pw_blk (pc' := 121) [.lmul, .lstore 12, .iinc 14 1] (by decide +kernel) ?_
                  show pw_V x m_X8_quests 2 Z 121 [(14, .int ((nI iy) + (nI 1))), (12, .long ((lN (pw_pv j38 ix iy)) * ((nI j38).toInt64))), (0, .ref 26), (1, .int (nI j5)), (2, .int (nI j13)), (3, .int (nI j27)), (4, .int (nI j38)), (5, .int (nI j48)), (6, .long (lN (pw_sm (fun x => pw_gq A j5 j13 j27 j38 (pw_pc x)) ix))), (8, .long (1 : Int64)), (10, .int (nI ix)), (11, .int (nI (pw_pc ix)))] [] mm
                  rw [show (nI iy) + (nI 1) = nI (iy + 1) from nI_add _ _]
                  refine pw_goto (tgt := 85) (off := -36) (by decide +kernel) (by decide) ?_
                  rw [show (lN (pw_pv j38 ix iy)) * ((nI j38).toInt64) = lN (pw_pv j38 ix (iy + 1)) from by rw [nI_l (by omega), lN_mul]; show _ = lN (pw_pv j38 ix iy * (if ix.testBit iy = true then j38 else 10 - j38)); rw [if_pos h100]]
                  refine pw_lvp [2, 3, 4, 5, 6, 7, 8, 9, 10, 11, 1, 0] rfl ?_
                  exact jh (by omega)
          · refine pw_blk (pc' := 54) [.jsr (-3)] (by decide +kernel) ?_
            show pw_V x m_X8_quests 2 Z 54 [(0, .ref 26), (1, .int (nI j5)), (2, .int (nI j13)), (3, .int (nI j27)), (4, .int (nI j38)), (5, .int q)] [.long (-3 : Int64)] mm
            rw [← hZ]
            refine pw_rl (by decide +kernel) ?_
            refine ⟨?_, rfl⟩
            unfold F_quests
            rw [if_pos ⟨h5, h13⟩, if_neg (by rw [h48]; simp)]
    · refine pw_blk (pc' := 19) [.jsr (-2)] (by decide +kernel) ?_
      show pw_V x m_X8_quests 2 Z 19 [(0, .ref 26), (1, .int (nI j5)), (2, .int s), (3, .int n), (4, .int p), (5, .int q)] [.long (-2 : Int64)] mm
      rw [← hZ]
      refine pw_rl (by decide +kernel) ?_
      exact ⟨by simp [F_quests, h13], rfl⟩
