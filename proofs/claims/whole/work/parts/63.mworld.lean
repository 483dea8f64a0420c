theorem pw_b1 {t : Bool} : pw_b t = nI 1 ↔ t = true := by cases t <;> decide
theorem pw_b1n {t : Bool} (h : ¬ pw_b t = nI 1) : t = false := by cases t; rfl; exact absurd rfl h
theorem pw_wq_ne {kn who j : Nat} (hj : j < kn) : (pw_wq kn who = some j) ↔ who = j := by
  unfold pw_wq
  by_cases h : who = kn
  · rw [if_pos h]
    exact ⟨fun z => (by cases z), fun z => (by omega)⟩
  · rw [if_neg h]
    exact ⟨fun z => Option.some.inj z, fun z => by rw [z]⟩

set_option maxHeartbeats 4000000 in
set_option maxRecDepth 100000 in
theorem c_mWorld {A : pw_m} (mm : pw_m) (hv : MV A mm) (hok : pw_ok A) (st sp wh : Nat) (hn0 : 0 < pw_n A) (hst : st < 8) (hsp : sp < 8) (hwh : wh ≤ pw_k A) : pw_Ct 0 yX8_isWorld m_X8_isWorld [.ref 26, .int (nI st), .int (nI sp), .int (nI wh)] mm (fun r m' => r = some (.int (pw_b (pw_isW A st sp (pw_wq (pw_k A) wh)))) ∧ m' = mm) := by
  refine pw_ct (by decide +kernel) rfl (Nat.le_of_ble_eq_true rfl) (fun x => ?_)
  generalize hZ : pw_Z x _ = Z
  have bn := pw_bn hok
  have bk := pw_bk hok
  have b144 := pw_b144 hok
  show pw_V x m_X8_isWorld 0 Z 0 [(0, .ref 26), (1, .int (nI st)), (2, .int (nI sp)), (3, .int (nI wh))] [] mm
  refine pw_blk (pc' := 6) [.iconst 1, .istore 4, .iconst 0, .istore 5] (by decide +kernel) ?_
  show pw_V x m_X8_isWorld 0 Z 6 [(5, .int (nI 0)), (4, .int (nI 1)), (0, .ref 26), (1, .int (nI st)), (2, .int (nI sp)), (3, .int (nI wh))] [] mm
  refine pw_lvp [2, 3, 4, 5, 1, 0] rfl ?_
  suffices lo : ∀ ix : Nat, ix ≤ pw_g A 14 4 → pw_V x m_X8_isWorld 0 Z 6 [(0, .ref 26), (1, .int (nI st)), (2, .int (nI sp)), (3, .int (nI wh)), (4, .int (pw_b ((pw_al (pw_iw A st sp (pw_wq (pw_k A) wh)) ix)))), (5, .int (nI ix))] [] mm from lo 0 (by omega)
  refine pw_dn (pw_g A 14 4) (fun ix hix ih => ?_)
  refine pw_blk (pc' := 12) [.iload 5, .aload 0, .getfield 813] (by decide +kernel) ?_
  show pw_V x m_X8_isWorld 0 Z 12 [(0, .ref 26), (1, .int (nI st)), (2, .int (nI sp)), (3, .int (nI wh)), (4, .int (pw_b ((pw_al (pw_iw A st sp (pw_wq (pw_k A) wh)) ix)))), (5, .int (nI ix))] [.int (mm 26 13), .int (nI ix)] mm
  rw [show mm 26 13 = nI (pw_g A 14 4) from mv_sn hv hok]
  refine pw_in_ge (tgt := 112) (off := 100) (by first | omega | exact pw_g_lt) (by first | omega | exact pw_g_lt) (by decide +kernel) (by decide) (fun h12 => ?_) (fun h12 => ?_)
  · refine pw_blk (pc' := 114) [.iload 4] (by decide +kernel) ?_
    show pw_V x m_X8_isWorld 0 Z 114 [(0, .ref 26), (1, .int (nI st)), (2, .int (nI sp)), (3, .int (nI wh)), (4, .int (pw_b ((pw_al (pw_iw A st sp (pw_wq (pw_k A) wh)) ix)))), (5, .int (nI ix))] [.int (pw_b ((pw_al (pw_iw A st sp (pw_wq (pw_k A) wh)) ix)))] mm
    rw [← hZ]
    refine pw_rz (by decide +kernel) (pw_b01 _) ?_
    refine ⟨?_, rfl⟩
    rw [show ix = pw_g A 14 4 by omega]
    rfl
  · have b15 := pw_b15 hok (show ix < pw_g A 14 4 by omega)
    have b16 := pw_b16 hok (show ix < pw_g A 14 4 by omega)
    have b17 := pw_b17 hok (show ix < pw_g A 14 4 by omega)
    have bm : sp * pw_g A 17 ix < 8000 := pw_mulb hsp b17
    have bmod := Nat.mod_lt (st + sp * pw_g A 17 ix) hn0
    have wne := pw_wq_ne (kn := pw_k A) (who := wh) b15
    have pes := pw_per_s (n := pw_n A) (st := st) (sp := sp) (dy := pw_g A 17 ix) hn0
    refine pw_blk (pc' := 46) [.iload 1, .iload 2, .aload 0, .getfield 814, .iconst 4, .iload 5, .imul, .iconst 2, .iadd, .iaload, .imul, .iadd, .aload 0, .getfield 800, .irem, .aload 0, .getfield 814, .iconst 4, .iload 5, .imul, .iconst 1, .iadd, .iaload] (by decide +kernel) ?_
    refine ⟨((4 * ix) + 2), (show ((nI 4) * (nI ix)) + (nI 2) = nI ((4 * ix) + 2) from by rw [show (nI 4) * (nI ix) = nI (4 * ix) from pk_mul _ _, show (nI (4 * ix)) + (nI 2) = nI ((4 * ix) + 2) from nI_add _ _]), by first | omega | exact pw_g_lt, ?_⟩
    refine ⟨(show ¬ mm 26 0 = 0 from by rw [show mm 26 0 = nI (pw_n A) from mv_n hv hok]; exact (show ¬ nI (pw_n A) = 0 from nI_ne0 (by first | omega | exact pw_g_lt) (by first | omega | exact pw_g_lt))), ?_⟩
    refine ⟨((4 * ix) + 1), (show ((nI 4) * (nI ix)) + (nI 1) = nI ((4 * ix) + 1) from by rw [show (nI 4) * (nI ix) = nI (4 * ix) from pk_mul _ _, show (nI (4 * ix)) + (nI 1) = nI ((4 * ix) + 1) from nI_add _ _]), by first | omega | exact pw_g_lt, ?_⟩
    show pw_V x m_X8_isWorld 0 Z 46 [(0, .ref 26), (1, .int (nI st)), (2, .int (nI sp)), (3, .int (nI wh)), (4, .int (pw_b ((pw_al (pw_iw A st sp (pw_wq (pw_k A) wh)) ix)))), (5, .int (nI ix))] [.int (mm 34 ((4 * ix) + 1)), .int (((nI st) + ((nI sp) * (mm 34 ((4 * ix) + 2)))) - ((nI st) + ((nI sp) * (mm 34 ((4 * ix) + 2)))) / (mm 26 0) * (mm 26 0))] mm
    rw [show mm 34 ((4 * ix) + 1) = nI (pw_g A 16 ix) from mv_s1 hv hok (i := ix) (by omega)]
    rw [show mm 34 ((4 * ix) + 2) = nI (pw_g A 17 ix) from mv_s2 hv hok (i := ix) (by omega)]
    rw [show (nI sp) * (nI (pw_g A 17 ix)) = nI (sp * (pw_g A 17 ix)) from pk_mul _ _]
    rw [show (nI st) + (nI (sp * (pw_g A 17 ix))) = nI (st + (sp * (pw_g A 17 ix))) from nI_add _ _]
    rw [show mm 26 0 = nI (pw_n A) from mv_n hv hok]
    rw [show (nI (st + (sp * (pw_g A 17 ix)))) - (nI (st + (sp * (pw_g A 17 ix)))) / (nI (pw_n A)) * (nI (pw_n A)) = nI ((st + (sp * (pw_g A 17 ix))) % (pw_n A)) from pk_rem (by first | omega | exact pw_g_lt) (by first | omega | exact pw_g_lt) (by first | omega | exact pw_g_lt)]
    refine pw_in_ne (tgt := 66) (off := 20) (by first | omega | exact pw_g_lt) (by first | omega | exact pw_g_lt) (by decide +kernel) (by decide) (fun h46 => ?_) (fun h46 => ?_)
    · refine pw_blk (pc' := 71) [.iconst 0, .istore 6, .iload 4] (by decide +kernel) ?_
      show pw_V x m_X8_isWorld 0 Z 71 [(6, .int (nI 0)), (0, .ref 26), (1, .int (nI st)), (2, .int (nI sp)), (3, .int (nI wh)), (4, .int (pw_b ((pw_al (pw_iw A st sp (pw_wq (pw_k A) wh)) ix)))), (5, .int (nI ix))] [.int (pw_b ((pw_al (pw_iw A st sp (pw_wq (pw_k A) wh)) ix)))] mm
      refine pw_ib_eq (tgt := 103) (off := 32) (by decide +kernel) (by decide) (fun h71 => ?_) (fun h71 => ?_)
      · refine pw_blk (pc' := 109) [.iconst 0, .istore 4, .iinc 5 1] (by decide +kernel) ?_
        show pw_V x m_X8_isWorld 0 Z 109 [(5, .int ((nI ix) + (nI 1))), (4, .int (nI 0)), (6, .int (nI 0)), (0, .ref 26), (1, .int (nI st)), (2, .int (nI sp)), (3, .int (nI wh))] [] mm
        rw [show (nI ix) + (nI 1) = nI (ix + 1) from nI_add _ _]
        refine pw_goto (tgt := 6) (off := -103) (by decide +kernel) (by decide) ?_
        rw [show nI 0 = pw_b ((pw_al (pw_iw A st sp (pw_wq (pw_k A) wh)) (ix + 1))) from by
            rw [show pw_al (pw_iw A st sp (pw_wq (pw_k A) wh)) (ix + 1) = (pw_al (pw_iw A st sp (pw_wq (pw_k A) wh)) ix && pw_iw A st sp (pw_wq (pw_k A) wh) ix) from rfl, h71]
            rfl]
        refine pw_lvp [3, 4, 5, 6, 1, 0] rfl ?_
        exact ih (by omega)
      · refine pw_blk (pc' := 88) [.iload 6, .aload 0, .getfield 814, .iconst 4, .iload 5, .imul, .iconst 3, .iadd, .iaload, .iconst 1] (by decide +kernel) ?_
        refine ⟨((4 * ix) + 3), (show ((nI 4) * (nI ix)) + (nI 3) = nI ((4 * ix) + 3) from by rw [show (nI 4) * (nI ix) = nI (4 * ix) from pk_mul _ _, show (nI (4 * ix)) + (nI 3) = nI ((4 * ix) + 3) from nI_add _ _]), by first | omega | exact pw_g_lt, ?_⟩
        show pw_V x m_X8_isWorld 0 Z 88 [(6, .int (nI 0)), (0, .ref 26), (1, .int (nI st)), (2, .int (nI sp)), (3, .int (nI wh)), (4, .int (pw_b ((pw_al (pw_iw A st sp (pw_wq (pw_k A) wh)) ix)))), (5, .int (nI ix))] [.int (nI 1), .int (mm 34 ((4 * ix) + 3)), .int (nI 0)] mm
        rw [show mm 34 ((4 * ix) + 3) = pw_b (pw_tk A ix) from mv_s3 hv hok (i := ix) (by omega)]
        refine pw_ic_ne (tgt := 95) (off := 7) (by decide +kernel) (by decide) (fun h88 => ?_) (fun h88 => ?_)
        · refine pw_blk (pc' := 96) [.iconst 0] (by decide +kernel) ?_
          show pw_V x m_X8_isWorld 0 Z 96 [(6, .int (nI 0)), (0, .ref 26), (1, .int (nI st)), (2, .int (nI sp)), (3, .int (nI wh)), (4, .int (pw_b ((pw_al (pw_iw A st sp (pw_wq (pw_k A) wh)) ix)))), (5, .int (nI ix))] [.int (nI 0), .int (nI 0)] mm
          refine pw_in_ne (tgt := 103) (off := 7) (by omega) (by omega) (by decide +kernel) (by decide) (fun h => by omega) (fun _ => ?_)
          refine pw_blk (pc' := 100) [.iconst 1] (by decide +kernel) ?_
          show pw_V x m_X8_isWorld 0 Z 100 [(6, .int (nI 0)), (0, .ref 26), (1, .int (nI st)), (2, .int (nI sp)), (3, .int (nI wh)), (4, .int (pw_b ((pw_al (pw_iw A st sp (pw_wq (pw_k A) wh)) ix)))), (5, .int (nI ix))] [.int (nI 1)] mm
          refine pw_goto (tgt := 104) (off := 4) (by decide +kernel) (by decide) ?_
          refine pw_blk (pc' := 109) [.istore 4, .iinc 5 1] (by decide +kernel) ?_
          show pw_V x m_X8_isWorld 0 Z 109 [(5, .int ((nI ix) + (nI 1))), (4, .int (nI 1)), (6, .int (nI 0)), (0, .ref 26), (1, .int (nI st)), (2, .int (nI sp)), (3, .int (nI wh))] [] mm
          rw [show (nI ix) + (nI 1) = nI (ix + 1) from nI_add _ _]
          refine pw_goto (tgt := 6) (off := -103) (by decide +kernel) (by decide) ?_
          rw [show nI 1 = pw_b ((pw_al (pw_iw A st sp (pw_wq (pw_k A) wh)) (ix + 1))) from by
              rw [show pw_al (pw_iw A st sp (pw_wq (pw_k A) wh)) (ix + 1) = (pw_al (pw_iw A st sp (pw_wq (pw_k A) wh)) ix && pw_iw A st sp (pw_wq (pw_k A) wh) ix) from rfl, h71]
              have tk : pw_tk A ix = false := pw_b1n h88
              have dp : decide (some ((st + sp * pw_g A 17 ix) % pw_n A) = some (pw_g A 16 ix)) = false := by simp [h46]
              unfold pw_iw
              rw [pes, dp, tk]
              rfl]
          refine pw_lvp [3, 4, 5, 6, 1, 0] rfl ?_
          exact ih (by omega)
        · refine pw_blk (pc' := 92) [.iconst 1] (by decide +kernel) ?_
          show pw_V x m_X8_isWorld 0 Z 92 [(6, .int (nI 0)), (0, .ref 26), (1, .int (nI st)), (2, .int (nI sp)), (3, .int (nI wh)), (4, .int (pw_b ((pw_al (pw_iw A st sp (pw_wq (pw_k A) wh)) ix)))), (5, .int (nI ix))] [.int (nI 1), .int (nI 0)] mm
          refine pw_goto (tgt := 96) (off := 4) (by decide +kernel) (by decide) ?_
          refine pw_in_ne (tgt := 103) (off := 7) (by omega) (by omega) (by decide +kernel) (by decide) (fun _ => ?_) (fun h => by omega)
          refine pw_blk (pc' := 109) [.iconst 0, .istore 4, .iinc 5 1] (by decide +kernel) ?_
          show pw_V x m_X8_isWorld 0 Z 109 [(5, .int ((nI ix) + (nI 1))), (4, .int (nI 0)), (6, .int (nI 0)), (0, .ref 26), (1, .int (nI st)), (2, .int (nI sp)), (3, .int (nI wh))] [] mm
          rw [show (nI ix) + (nI 1) = nI (ix + 1) from nI_add _ _]
          refine pw_goto (tgt := 6) (off := -103) (by decide +kernel) (by decide) ?_
          rw [show nI 0 = pw_b ((pw_al (pw_iw A st sp (pw_wq (pw_k A) wh)) (ix + 1))) from by
              rw [show pw_al (pw_iw A st sp (pw_wq (pw_k A) wh)) (ix + 1) = (pw_al (pw_iw A st sp (pw_wq (pw_k A) wh)) ix && pw_iw A st sp (pw_wq (pw_k A) wh) ix) from rfl, h71]
              have tk : pw_tk A ix = true := pw_b1.mp h88
              have dp : decide (some ((st + sp * pw_g A 17 ix) % pw_n A) = some (pw_g A 16 ix)) = false := by simp [h46]
              unfold pw_iw
              rw [pes, dp, tk]
              rfl]
          refine pw_lvp [3, 4, 5, 6, 1, 0] rfl ?_
          exact ih (by omega)
    · refine pw_blk (pc' := 59) [.iload 3, .aload 0, .getfield 814, .iconst 4, .iload 5, .imul, .iaload] (by decide +kernel) ?_
      refine ⟨(4 * ix), (show (nI 4) * (nI ix) = nI (4 * ix) from by rw [show (nI 4) * (nI ix) = nI (4 * ix) from pk_mul _ _]), by first | omega | exact pw_g_lt, ?_⟩
      show pw_V x m_X8_isWorld 0 Z 59 [(0, .ref 26), (1, .int (nI st)), (2, .int (nI sp)), (3, .int (nI wh)), (4, .int (pw_b ((pw_al (pw_iw A st sp (pw_wq (pw_k A) wh)) ix)))), (5, .int (nI ix))] [.int (mm 34 (4 * ix)), .int (nI wh)] mm
      rw [show mm 34 (4 * ix) = nI (pw_g A 15 ix) from mv_s0 hv hok (i := ix) (by omega)]
      refine pw_in_eq (tgt := 66) (off := 7) (by first | omega | exact pw_g_lt) (by first | omega | exact pw_g_lt) (by decide +kernel) (by decide) (fun h59 => ?_) (fun h59 => ?_)
      · refine pw_blk (pc' := 71) [.iconst 0, .istore 6, .iload 4] (by decide +kernel) ?_
        show pw_V x m_X8_isWorld 0 Z 71 [(6, .int (nI 0)), (0, .ref 26), (1, .int (nI st)), (2, .int (nI sp)), (3, .int (nI wh)), (4, .int (pw_b ((pw_al (pw_iw A st sp (pw_wq (pw_k A) wh)) ix)))), (5, .int (nI ix))] [.int (pw_b ((pw_al (pw_iw A st sp (pw_wq (pw_k A) wh)) ix)))] mm
        refine pw_ib_eq (tgt := 103) (off := 32) (by decide +kernel) (by decide) (fun h71 => ?_) (fun h71 => ?_)
        · refine pw_blk (pc' := 109) [.iconst 0, .istore 4, .iinc 5 1] (by decide +kernel) ?_
          show pw_V x m_X8_isWorld 0 Z 109 [(5, .int ((nI ix) + (nI 1))), (4, .int (nI 0)), (6, .int (nI 0)), (0, .ref 26), (1, .int (nI st)), (2, .int (nI sp)), (3, .int (nI wh))] [] mm
          rw [show (nI ix) + (nI 1) = nI (ix + 1) from nI_add _ _]
          refine pw_goto (tgt := 6) (off := -103) (by decide +kernel) (by decide) ?_
          rw [show nI 0 = pw_b ((pw_al (pw_iw A st sp (pw_wq (pw_k A) wh)) (ix + 1))) from by
              rw [show pw_al (pw_iw A st sp (pw_wq (pw_k A) wh)) (ix + 1) = (pw_al (pw_iw A st sp (pw_wq (pw_k A) wh)) ix && pw_iw A st sp (pw_wq (pw_k A) wh) ix) from rfl, h71]
              rfl]
          refine pw_lvp [3, 4, 5, 6, 1, 0] rfl ?_
          exact ih (by omega)
        · refine pw_blk (pc' := 88) [.iload 6, .aload 0, .getfield 814, .iconst 4, .iload 5, .imul, .iconst 3, .iadd, .iaload, .iconst 1] (by decide +kernel) ?_
          refine ⟨((4 * ix) + 3), (show ((nI 4) * (nI ix)) + (nI 3) = nI ((4 * ix) + 3) from by rw [show (nI 4) * (nI ix) = nI (4 * ix) from pk_mul _ _, show (nI (4 * ix)) + (nI 3) = nI ((4 * ix) + 3) from nI_add _ _]), by first | omega | exact pw_g_lt, ?_⟩
          show pw_V x m_X8_isWorld 0 Z 88 [(6, .int (nI 0)), (0, .ref 26), (1, .int (nI st)), (2, .int (nI sp)), (3, .int (nI wh)), (4, .int (pw_b ((pw_al (pw_iw A st sp (pw_wq (pw_k A) wh)) ix)))), (5, .int (nI ix))] [.int (nI 1), .int (mm 34 ((4 * ix) + 3)), .int (nI 0)] mm
          rw [show mm 34 ((4 * ix) + 3) = pw_b (pw_tk A ix) from mv_s3 hv hok (i := ix) (by omega)]
          refine pw_ic_ne (tgt := 95) (off := 7) (by decide +kernel) (by decide) (fun h88 => ?_) (fun h88 => ?_)
          · refine pw_blk (pc' := 96) [.iconst 0] (by decide +kernel) ?_
            show pw_V x m_X8_isWorld 0 Z 96 [(6, .int (nI 0)), (0, .ref 26), (1, .int (nI st)), (2, .int (nI sp)), (3, .int (nI wh)), (4, .int (pw_b ((pw_al (pw_iw A st sp (pw_wq (pw_k A) wh)) ix)))), (5, .int (nI ix))] [.int (nI 0), .int (nI 0)] mm
            refine pw_in_ne (tgt := 103) (off := 7) (by omega) (by omega) (by decide +kernel) (by decide) (fun h => by omega) (fun _ => ?_)
            refine pw_blk (pc' := 100) [.iconst 1] (by decide +kernel) ?_
            show pw_V x m_X8_isWorld 0 Z 100 [(6, .int (nI 0)), (0, .ref 26), (1, .int (nI st)), (2, .int (nI sp)), (3, .int (nI wh)), (4, .int (pw_b ((pw_al (pw_iw A st sp (pw_wq (pw_k A) wh)) ix)))), (5, .int (nI ix))] [.int (nI 1)] mm
            refine pw_goto (tgt := 104) (off := 4) (by decide +kernel) (by decide) ?_
            refine pw_blk (pc' := 109) [.istore 4, .iinc 5 1] (by decide +kernel) ?_
            show pw_V x m_X8_isWorld 0 Z 109 [(5, .int ((nI ix) + (nI 1))), (4, .int (nI 1)), (6, .int (nI 0)), (0, .ref 26), (1, .int (nI st)), (2, .int (nI sp)), (3, .int (nI wh))] [] mm
            rw [show (nI ix) + (nI 1) = nI (ix + 1) from nI_add _ _]
            refine pw_goto (tgt := 6) (off := -103) (by decide +kernel) (by decide) ?_
            rw [show nI 1 = pw_b ((pw_al (pw_iw A st sp (pw_wq (pw_k A) wh)) (ix + 1))) from by
                rw [show pw_al (pw_iw A st sp (pw_wq (pw_k A) wh)) (ix + 1) = (pw_al (pw_iw A st sp (pw_wq (pw_k A) wh)) ix && pw_iw A st sp (pw_wq (pw_k A) wh) ix) from rfl, h71]
                have tk : pw_tk A ix = false := pw_b1n h88
                have dp : decide (some ((st + sp * pw_g A 17 ix) % pw_n A) = some (pw_g A 16 ix)) = true := by simp [h46]
                have dw : decide (pw_wq (pw_k A) wh = some (pw_g A 15 ix)) = true := decide_eq_true (wne.mpr h59)
                unfold pw_iw
                rw [pes, dp, dw, tk]
                rfl]
            refine pw_lvp [3, 4, 5, 6, 1, 0] rfl ?_
            exact ih (by omega)
          · refine pw_blk (pc' := 92) [.iconst 1] (by decide +kernel) ?_
            show pw_V x m_X8_isWorld 0 Z 92 [(6, .int (nI 0)), (0, .ref 26), (1, .int (nI st)), (2, .int (nI sp)), (3, .int (nI wh)), (4, .int (pw_b ((pw_al (pw_iw A st sp (pw_wq (pw_k A) wh)) ix)))), (5, .int (nI ix))] [.int (nI 1), .int (nI 0)] mm
            refine pw_goto (tgt := 96) (off := 4) (by decide +kernel) (by decide) ?_
            refine pw_in_ne (tgt := 103) (off := 7) (by omega) (by omega) (by decide +kernel) (by decide) (fun _ => ?_) (fun h => by omega)
            refine pw_blk (pc' := 109) [.iconst 0, .istore 4, .iinc 5 1] (by decide +kernel) ?_
            show pw_V x m_X8_isWorld 0 Z 109 [(5, .int ((nI ix) + (nI 1))), (4, .int (nI 0)), (6, .int (nI 0)), (0, .ref 26), (1, .int (nI st)), (2, .int (nI sp)), (3, .int (nI wh))] [] mm
            rw [show (nI ix) + (nI 1) = nI (ix + 1) from nI_add _ _]
            refine pw_goto (tgt := 6) (off := -103) (by decide +kernel) (by decide) ?_
            rw [show nI 0 = pw_b ((pw_al (pw_iw A st sp (pw_wq (pw_k A) wh)) (ix + 1))) from by
                rw [show pw_al (pw_iw A st sp (pw_wq (pw_k A) wh)) (ix + 1) = (pw_al (pw_iw A st sp (pw_wq (pw_k A) wh)) ix && pw_iw A st sp (pw_wq (pw_k A) wh) ix) from rfl, h71]
                have tk : pw_tk A ix = true := pw_b1.mp h88
                have dp : decide (some ((st + sp * pw_g A 17 ix) % pw_n A) = some (pw_g A 16 ix)) = true := by simp [h46]
                have dw : decide (pw_wq (pw_k A) wh = some (pw_g A 15 ix)) = true := decide_eq_true (wne.mpr h59)
                unfold pw_iw
                rw [pes, dp, dw, tk]
                rfl]
            refine pw_lvp [3, 4, 5, 6, 1, 0] rfl ?_
            exact ih (by omega)
      · refine pw_blk (pc' := 63) [.iconst 1] (by decide +kernel) ?_
        show pw_V x m_X8_isWorld 0 Z 63 [(0, .ref 26), (1, .int (nI st)), (2, .int (nI sp)), (3, .int (nI wh)), (4, .int (pw_b ((pw_al (pw_iw A st sp (pw_wq (pw_k A) wh)) ix)))), (5, .int (nI ix))] [.int (nI 1)] mm
        refine pw_goto (tgt := 67) (off := 4) (by decide +kernel) (by decide) ?_
        refine pw_blk (pc' := 71) [.istore 6, .iload 4] (by decide +kernel) ?_
        show pw_V x m_X8_isWorld 0 Z 71 [(6, .int (nI 1)), (0, .ref 26), (1, .int (nI st)), (2, .int (nI sp)), (3, .int (nI wh)), (4, .int (pw_b ((pw_al (pw_iw A st sp (pw_wq (pw_k A) wh)) ix)))), (5, .int (nI ix))] [.int (pw_b ((pw_al (pw_iw A st sp (pw_wq (pw_k A) wh)) ix)))] mm
        refine pw_ib_eq (tgt := 103) (off := 32) (by decide +kernel) (by decide) (fun h71 => ?_) (fun h71 => ?_)
        · refine pw_blk (pc' := 109) [.iconst 0, .istore 4, .iinc 5 1] (by decide +kernel) ?_
          show pw_V x m_X8_isWorld 0 Z 109 [(5, .int ((nI ix) + (nI 1))), (4, .int (nI 0)), (6, .int (nI 1)), (0, .ref 26), (1, .int (nI st)), (2, .int (nI sp)), (3, .int (nI wh))] [] mm
          rw [show (nI ix) + (nI 1) = nI (ix + 1) from nI_add _ _]
          refine pw_goto (tgt := 6) (off := -103) (by decide +kernel) (by decide) ?_
          rw [show nI 0 = pw_b ((pw_al (pw_iw A st sp (pw_wq (pw_k A) wh)) (ix + 1))) from by
              rw [show pw_al (pw_iw A st sp (pw_wq (pw_k A) wh)) (ix + 1) = (pw_al (pw_iw A st sp (pw_wq (pw_k A) wh)) ix && pw_iw A st sp (pw_wq (pw_k A) wh) ix) from rfl, h71]
              rfl]
          refine pw_lvp [3, 4, 5, 6, 1, 0] rfl ?_
          exact ih (by omega)
        · refine pw_blk (pc' := 88) [.iload 6, .aload 0, .getfield 814, .iconst 4, .iload 5, .imul, .iconst 3, .iadd, .iaload, .iconst 1] (by decide +kernel) ?_
          refine ⟨((4 * ix) + 3), (show ((nI 4) * (nI ix)) + (nI 3) = nI ((4 * ix) + 3) from by rw [show (nI 4) * (nI ix) = nI (4 * ix) from pk_mul _ _, show (nI (4 * ix)) + (nI 3) = nI ((4 * ix) + 3) from nI_add _ _]), by first | omega | exact pw_g_lt, ?_⟩
          show pw_V x m_X8_isWorld 0 Z 88 [(6, .int (nI 1)), (0, .ref 26), (1, .int (nI st)), (2, .int (nI sp)), (3, .int (nI wh)), (4, .int (pw_b ((pw_al (pw_iw A st sp (pw_wq (pw_k A) wh)) ix)))), (5, .int (nI ix))] [.int (nI 1), .int (mm 34 ((4 * ix) + 3)), .int (nI 1)] mm
          rw [show mm 34 ((4 * ix) + 3) = pw_b (pw_tk A ix) from mv_s3 hv hok (i := ix) (by omega)]
          refine pw_ic_ne (tgt := 95) (off := 7) (by decide +kernel) (by decide) (fun h88 => ?_) (fun h88 => ?_)
          · refine pw_blk (pc' := 96) [.iconst 0] (by decide +kernel) ?_
            show pw_V x m_X8_isWorld 0 Z 96 [(6, .int (nI 1)), (0, .ref 26), (1, .int (nI st)), (2, .int (nI sp)), (3, .int (nI wh)), (4, .int (pw_b ((pw_al (pw_iw A st sp (pw_wq (pw_k A) wh)) ix)))), (5, .int (nI ix))] [.int (nI 0), .int (nI 1)] mm
            refine pw_in_ne (tgt := 103) (off := 7) (by omega) (by omega) (by decide +kernel) (by decide) (fun _ => ?_) (fun h => by omega)
            refine pw_blk (pc' := 109) [.iconst 0, .istore 4, .iinc 5 1] (by decide +kernel) ?_
            show pw_V x m_X8_isWorld 0 Z 109 [(5, .int ((nI ix) + (nI 1))), (4, .int (nI 0)), (6, .int (nI 1)), (0, .ref 26), (1, .int (nI st)), (2, .int (nI sp)), (3, .int (nI wh))] [] mm
            rw [show (nI ix) + (nI 1) = nI (ix + 1) from nI_add _ _]
            refine pw_goto (tgt := 6) (off := -103) (by decide +kernel) (by decide) ?_
            rw [show nI 0 = pw_b ((pw_al (pw_iw A st sp (pw_wq (pw_k A) wh)) (ix + 1))) from by
                rw [show pw_al (pw_iw A st sp (pw_wq (pw_k A) wh)) (ix + 1) = (pw_al (pw_iw A st sp (pw_wq (pw_k A) wh)) ix && pw_iw A st sp (pw_wq (pw_k A) wh) ix) from rfl, h71]
                have tk : pw_tk A ix = false := pw_b1n h88
                have dp : decide (some ((st + sp * pw_g A 17 ix) % pw_n A) = some (pw_g A 16 ix)) = true := by simp [h46]
                have dw : decide (pw_wq (pw_k A) wh = some (pw_g A 15 ix)) = false := decide_eq_false (fun z => h59 (wne.mp z))
                unfold pw_iw
                rw [pes, dp, dw, tk]
                rfl]
            refine pw_lvp [3, 4, 5, 6, 1, 0] rfl ?_
            exact ih (by omega)
          · refine pw_blk (pc' := 92) [.iconst 1] (by decide +kernel) ?_
            show pw_V x m_X8_isWorld 0 Z 92 [(6, .int (nI 1)), (0, .ref 26), (1, .int (nI st)), (2, .int (nI sp)), (3, .int (nI wh)), (4, .int (pw_b ((pw_al (pw_iw A st sp (pw_wq (pw_k A) wh)) ix)))), (5, .int (nI ix))] [.int (nI 1), .int (nI 1)] mm
            refine pw_goto (tgt := 96) (off := 4) (by decide +kernel) (by decide) ?_
            refine pw_in_ne (tgt := 103) (off := 7) (by omega) (by omega) (by decide +kernel) (by decide) (fun h => by omega) (fun _ => ?_)
            refine pw_blk (pc' := 100) [.iconst 1] (by decide +kernel) ?_
            show pw_V x m_X8_isWorld 0 Z 100 [(6, .int (nI 1)), (0, .ref 26), (1, .int (nI st)), (2, .int (nI sp)), (3, .int (nI wh)), (4, .int (pw_b ((pw_al (pw_iw A st sp (pw_wq (pw_k A) wh)) ix)))), (5, .int (nI ix))] [.int (nI 1)] mm
            refine pw_goto (tgt := 104) (off := 4) (by decide +kernel) (by decide) ?_
            refine pw_blk (pc' := 109) [.istore 4, .iinc 5 1] (by decide +kernel) ?_
            show pw_V x m_X8_isWorld 0 Z 109 [(5, .int ((nI ix) + (nI 1))), (4, .int (nI 1)), (6, .int (nI 1)), (0, .ref 26), (1, .int (nI st)), (2, .int (nI sp)), (3, .int (nI wh))] [] mm
            rw [show (nI ix) + (nI 1) = nI (ix + 1) from nI_add _ _]
            refine pw_goto (tgt := 6) (off := -103) (by decide +kernel) (by decide) ?_
            rw [show nI 1 = pw_b ((pw_al (pw_iw A st sp (pw_wq (pw_k A) wh)) (ix + 1))) from by
                rw [show pw_al (pw_iw A st sp (pw_wq (pw_k A) wh)) (ix + 1) = (pw_al (pw_iw A st sp (pw_wq (pw_k A) wh)) ix && pw_iw A st sp (pw_wq (pw_k A) wh) ix) from rfl, h71]
                have tk : pw_tk A ix = true := pw_b1.mp h88
                have dp : decide (some ((st + sp * pw_g A 17 ix) % pw_n A) = some (pw_g A 16 ix)) = true := by simp [h46]
                have dw : decide (pw_wq (pw_k A) wh = some (pw_g A 15 ix)) = false := decide_eq_false (fun z => h59 (wne.mp z))
                unfold pw_iw
                rw [pes, dp, dw, tk]
                rfl]
            refine pw_lvp [3, 4, 5, 6, 1, 0] rfl ?_
            exact ih (by omega)
