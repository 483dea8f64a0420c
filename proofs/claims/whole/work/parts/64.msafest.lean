theorem pw_gfl_a {f : Nat → Nat} {n v : Nat} (h : f n = v) : pw_gfl (· + ·) f n + v = pw_gfl (· + ·) f (n + 1) := by rw [← h]; rfl
theorem pw_gfl_o {f : Nat → Nat} {n v : Nat} (h : f n = v) : pw_gfl (· ||| ·) f n ||| v = pw_gfl (· ||| ·) f (n + 1) := by rw [← h]; rfl
theorem pw_gfl_a0 {f : Nat → Nat} {n : Nat} (h : f n = 0) : pw_gfl (· + ·) f n = pw_gfl (· + ·) f (n + 1) := (Nat.add_zero _).symm.trans (pw_gfl_a h)
theorem pw_gfl_o0 {f : Nat → Nat} {n : Nat} (h : f n = 0) : pw_gfl (· ||| ·) f n = pw_gfl (· ||| ·) f (n + 1) := (Nat.or_zero _).symm.trans (pw_gfl_o h)

set_option maxHeartbeats 4000000 in
set_option maxRecDepth 100000 in
theorem c_mworlds {A : pw_m} (mm : pw_m) (hv : MV A mm) (hok : pw_ok A) (w : Int32) : pw_Ct 1 yX8_worlds m_X8_worlds [.ref 26, .int w] mm (fun r m' => r = some (.int (F_worlds A w)) ∧ m' = mm) := by
  refine pw_ct (by decide +kernel) rfl (Nat.le_of_ble_eq_true rfl) (fun x => ?_)
  generalize hZ : pw_Z x _ = Z
  have bn := pw_bn hok
  have bk := pw_bk hok
  have b420 := pw_b420 hok
  show pw_V x m_X8_worlds 1 Z 0 [(0, .ref 26), (1, .int w)] [] mm
  refine pw_blk (pc' := 3) [.iload 1, .iconst 0, .iconst 2] (by decide +kernel) ?_
  show pw_V x m_X8_worlds 1 Z 3 [(0, .ref 26), (1, .int w)] [.int (nI 2), .int (nI 0), .int w] mm
  refine pw_cS (vs := [.int w, .int (nI 0), .int (nI 2)]) (rest := []) k_X8_in (c_in0 w 2 mm (by first | omega | exact pw_g_lt)) l_8_78 rfl (by omega) (Nat.le_of_ble_eq_true rfl) (by decide +kernel) ?_
  rintro _ m1 ⟨rfl, e1⟩
  rw [e1]
  clear e1 m1
  show pw_V x m_X8_worlds 1 Z 6 [(0, .ref 26), (1, .int w)] [.int (pw_b (pw_inr w 3))] mm
  refine pw_ib_ne (tgt := 12) (off := 6) (by decide +kernel) (by decide) (fun h6 => ?_) (fun h6 => ?_)
  · obtain ⟨j6, b6, e6⟩ := pw_inr_t (by omega) h6
    subst e6
    refine pw_blk (pc' := 22) [.iconst 0, .istore 2, .iconst 0, .istore 3, .iconst 0, .istore 4, .iconst 0, .istore 5] (by decide +kernel) ?_
    show pw_V x m_X8_worlds 1 Z 22 [(5, .int (nI 0)), (4, .int (nI 0)), (3, .int (nI 0)), (2, .int (nI 0)), (0, .ref 26), (1, .int (nI j6))] [] mm
    have eN : (pw_n A) * (pw_n A) * ((pw_k A) + 1) = pw_wN A := rfl
    have bN := pw_wN_le bn bk
    refine pw_lvp [4, 5, 3, 2, 1, 0] rfl ?_
    suffices lo : ∀ ix : Nat, ix ≤ pw_wN A → pw_V x m_X8_worlds 1 Z 22 [(0, .ref 26), (1, .int (nI j6)), (2, .int (nI (pw_gfl (· + ·) (pw_W1 A (pw_Wn A)) ix))), (3, .int (nI (pw_gfl (· ||| ·) (pw_W1 A (pw_Ww A (pw_g A 42 0))) ix))), (4, .int (nI (pw_gfl (· ||| ·) (pw_W1 A (pw_Wf A)) ix))), (5, .int (nI ix))] [] mm from lo 0 (by omega)
    refine pw_dn (pw_wN A) (fun ix hix ih => ?_)
    have bgn : pw_gfl (· + ·) (pw_W1 A (pw_Wn A)) ix ≤ ix := pw_gfl_le1 (fun i => by unfold pw_W1 pw_Wn; split <;> omega)
    refine pw_blk (pc' := 40) [.iload 5, .aload 0, .getfield 800, .aload 0, .getfield 800, .imul, .aload 0, .getfield 802, .iconst 1, .iadd, .imul] (by decide +kernel) ?_
    show pw_V x m_X8_worlds 1 Z 40 [(0, .ref 26), (1, .int (nI j6)), (2, .int (nI (pw_gfl (· + ·) (pw_W1 A (pw_Wn A)) ix))), (3, .int (nI (pw_gfl (· ||| ·) (pw_W1 A (pw_Ww A (pw_g A 42 0))) ix))), (4, .int (nI (pw_gfl (· ||| ·) (pw_W1 A (pw_Wf A)) ix))), (5, .int (nI ix))] [.int (((mm 26 0) * (mm 26 0)) * ((mm 26 2) + (nI 1))), .int (nI ix)] mm
    rw [show mm 26 0 = nI (pw_n A) from mv_n hv hok]
    rw [show (nI (pw_n A)) * (nI (pw_n A)) = nI ((pw_n A) * (pw_n A)) from pk_mul _ _]
    rw [show mm 26 2 = nI (pw_k A) from mv_k hv hok]
    rw [show (nI (pw_k A)) + (nI 1) = nI ((pw_k A) + 1) from nI_add _ _]
    rw [show (nI ((pw_n A) * (pw_n A))) * (nI ((pw_k A) + 1)) = nI (((pw_n A) * (pw_n A)) * ((pw_k A) + 1)) from pk_mul _ _]
    refine pw_in_ge (tgt := 153) (off := 113) (by first | omega | exact pw_g_lt) (by first | omega | exact pw_g_lt) (by decide +kernel) (by decide) (fun h40 => ?_) (fun h40 => ?_)
    · refine pw_blk (pc' := 154) [.iload 1] (by decide +kernel) ?_
      show pw_V x m_X8_worlds 1 Z 154 [(0, .ref 26), (1, .int (nI j6)), (2, .int (nI (pw_gfl (· + ·) (pw_W1 A (pw_Wn A)) ix))), (3, .int (nI (pw_gfl (· ||| ·) (pw_W1 A (pw_Ww A (pw_g A 42 0))) ix))), (4, .int (nI (pw_gfl (· ||| ·) (pw_W1 A (pw_Wf A)) ix))), (5, .int (nI ix))] [.int (nI j6)] mm
      refine pw_iz_ne (tgt := 161) (off := 7) (by first | omega | exact pw_g_lt) (by decide +kernel) (by decide) (fun h154 => ?_) (fun h154 => ?_)
      · refine pw_blk (pc' := 163) [.iload 1, .iconst 1] (by decide +kernel) ?_
        show pw_V x m_X8_worlds 1 Z 163 [(0, .ref 26), (1, .int (nI j6)), (2, .int (nI (pw_gfl (· + ·) (pw_W1 A (pw_Wn A)) ix))), (3, .int (nI (pw_gfl (· ||| ·) (pw_W1 A (pw_Ww A (pw_g A 42 0))) ix))), (4, .int (nI (pw_gfl (· ||| ·) (pw_W1 A (pw_Wf A)) ix))), (5, .int (nI ix))] [.int (nI 1), .int (nI j6)] mm
        refine pw_in_ne (tgt := 170) (off := 7) (by first | omega | exact pw_g_lt) (by first | omega | exact pw_g_lt) (by decide +kernel) (by decide) (fun h163 => ?_) (fun h163 => ?_)
        · refine pw_blk (pc' := 172) [.iload 4] (by decide +kernel) ?_
          show pw_V x m_X8_worlds 1 Z 172 [(0, .ref 26), (1, .int (nI j6)), (2, .int (nI (pw_gfl (· + ·) (pw_W1 A (pw_Wn A)) ix))), (3, .int (nI (pw_gfl (· ||| ·) (pw_W1 A (pw_Ww A (pw_g A 42 0))) ix))), (4, .int (nI (pw_gfl (· ||| ·) (pw_W1 A (pw_Wf A)) ix))), (5, .int (nI ix))] [.int (nI (pw_gfl (· ||| ·) (pw_W1 A (pw_Wf A)) ix))] mm
          rw [← hZ]
          refine pw_ri (by decide +kernel) ?_
          have e : ix = pw_wN A := by omega
          subst e
          have y6 : pw_inr (nI j6) 3 = true := h6
          refine ⟨?_, rfl⟩
          unfold F_worlds
          rw [if_pos y6]
          have e2 : j6 = 2 := by omega
          subst e2
          rw [if_neg nz20, if_neg nz21, ← pw_wf_m]
        · refine pw_blk (pc' := 167) [.iload 3] (by decide +kernel) ?_
          show pw_V x m_X8_worlds 1 Z 167 [(0, .ref 26), (1, .int (nI j6)), (2, .int (nI (pw_gfl (· + ·) (pw_W1 A (pw_Wn A)) ix))), (3, .int (nI (pw_gfl (· ||| ·) (pw_W1 A (pw_Ww A (pw_g A 42 0))) ix))), (4, .int (nI (pw_gfl (· ||| ·) (pw_W1 A (pw_Wf A)) ix))), (5, .int (nI ix))] [.int (nI (pw_gfl (· ||| ·) (pw_W1 A (pw_Ww A (pw_g A 42 0))) ix))] mm
          refine pw_goto (tgt := 172) (off := 5) (by decide +kernel) (by decide) ?_
          rw [← hZ]
          refine pw_ri (by decide +kernel) ?_
          have e : ix = pw_wN A := by omega
          subst e
          have y6 : pw_inr (nI j6) 3 = true := h6
          refine ⟨?_, rfl⟩
          unfold F_worlds
          rw [if_pos y6]
          subst h163
          rw [if_neg nz10, if_pos rfl, ← pw_ww_m]
      · refine pw_blk (pc' := 158) [.iload 2] (by decide +kernel) ?_
        show pw_V x m_X8_worlds 1 Z 158 [(0, .ref 26), (1, .int (nI j6)), (2, .int (nI (pw_gfl (· + ·) (pw_W1 A (pw_Wn A)) ix))), (3, .int (nI (pw_gfl (· ||| ·) (pw_W1 A (pw_Ww A (pw_g A 42 0))) ix))), (4, .int (nI (pw_gfl (· ||| ·) (pw_W1 A (pw_Wf A)) ix))), (5, .int (nI ix))] [.int (nI (pw_gfl (· + ·) (pw_W1 A (pw_Wn A)) ix))] mm
        refine pw_goto (tgt := 172) (off := 14) (by decide +kernel) (by decide) ?_
        rw [← hZ]
        refine pw_ri (by decide +kernel) ?_
        have e : ix = pw_wN A := by omega
        subst e
        have y6 : pw_inr (nI j6) 3 = true := h6
        refine ⟨?_, rfl⟩
        unfold F_worlds
        rw [if_pos y6]
        subst h154
        rw [if_pos rfl, ← pw_wn_m]
    · have bdiv : ix / (pw_k A + 1) ≤ ix := Nat.div_le_self _ _
      obtain ⟨wn0, ww, ws, wf⟩ := pw_wk_b (A := A) (k := ix) (by omega)
      have bm := pw_mulb (show ix / (pw_k A + 1) % pw_n A < 8 by omega) b420
      have bmod := Nat.mod_lt (ix / (pw_k A + 1) / pw_n A + ix / (pw_k A + 1) % pw_n A * pw_g A 42 0) wn0
      refine pw_blk (pc' := 54) [.iload 5, .aload 0, .getfield 802, .iconst 1, .iadd, .irem, .istore 6] (by decide +kernel) ?_
      refine ⟨(show ¬ (mm 26 2) + (nI 1) = 0 from by rw [show mm 26 2 = nI (pw_k A) from mv_k hv hok, show (nI (pw_k A)) + (nI 1) = nI ((pw_k A) + 1) from nI_add _ _]; exact (show ¬ nI ((pw_k A) + 1) = 0 from nI_ne0 (by first | omega | exact pw_g_lt) (by first | omega | exact pw_g_lt))), ?_⟩
      show pw_V x m_X8_worlds 1 Z 54 [(6, .int ((nI ix) - (nI ix) / ((mm 26 2) + (nI 1)) * ((mm 26 2) + (nI 1)))), (0, .ref 26), (1, .int (nI j6)), (2, .int (nI (pw_gfl (· + ·) (pw_W1 A (pw_Wn A)) ix))), (3, .int (nI (pw_gfl (· ||| ·) (pw_W1 A (pw_Ww A (pw_g A 42 0))) ix))), (4, .int (nI (pw_gfl (· ||| ·) (pw_W1 A (pw_Wf A)) ix))), (5, .int (nI ix))] [] mm
      rw [show mm 26 2 = nI (pw_k A) from mv_k hv hok]
      rw [show (nI (pw_k A)) + (nI 1) = nI ((pw_k A) + 1) from nI_add _ _]
      rw [show (nI ix) - (nI ix) / (nI ((pw_k A) + 1)) * (nI ((pw_k A) + 1)) = nI (ix % ((pw_k A) + 1)) from pk_rem (by first | omega | exact pw_g_lt) (by first | omega | exact pw_g_lt) (by first | omega | exact pw_g_lt)]
      refine pw_blk (pc' := 70) [.iload 5, .aload 0, .getfield 802, .iconst 1, .iadd, .idiv, .aload 0, .getfield 800, .irem, .istore 7] (by decide +kernel) ?_
      refine ⟨(show ¬ (mm 26 2) + (nI 1) = 0 from by rw [show mm 26 2 = nI (pw_k A) from mv_k hv hok, show (nI (pw_k A)) + (nI 1) = nI ((pw_k A) + 1) from nI_add _ _]; exact (show ¬ nI ((pw_k A) + 1) = 0 from nI_ne0 (by first | omega | exact pw_g_lt) (by first | omega | exact pw_g_lt))), ?_⟩
      refine ⟨(show ¬ mm 26 0 = 0 from by rw [show mm 26 0 = nI (pw_n A) from mv_n hv hok]; exact (show ¬ nI (pw_n A) = 0 from nI_ne0 (by first | omega | exact pw_g_lt) (by first | omega | exact pw_g_lt))), ?_⟩
      show pw_V x m_X8_worlds 1 Z 70 [(7, .int (((nI ix) / ((mm 26 2) + (nI 1))) - ((nI ix) / ((mm 26 2) + (nI 1))) / (mm 26 0) * (mm 26 0))), (6, .int (nI (ix % ((pw_k A) + 1)))), (0, .ref 26), (1, .int (nI j6)), (2, .int (nI (pw_gfl (· + ·) (pw_W1 A (pw_Wn A)) ix))), (3, .int (nI (pw_gfl (· ||| ·) (pw_W1 A (pw_Ww A (pw_g A 42 0))) ix))), (4, .int (nI (pw_gfl (· ||| ·) (pw_W1 A (pw_Wf A)) ix))), (5, .int (nI ix))] [] mm
      rw [show mm 26 2 = nI (pw_k A) from mv_k hv hok]
      rw [show (nI (pw_k A)) + (nI 1) = nI ((pw_k A) + 1) from nI_add _ _]
      rw [show (nI ix) / (nI ((pw_k A) + 1)) = nI (ix / ((pw_k A) + 1)) from pk_div (by first | omega | exact pw_g_lt) (by first | omega | exact pw_g_lt) (by first | omega | exact pw_g_lt)]
      rw [show mm 26 0 = nI (pw_n A) from mv_n hv hok]
      rw [show (nI (ix / ((pw_k A) + 1))) - (nI (ix / ((pw_k A) + 1))) / (nI (pw_n A)) * (nI (pw_n A)) = nI ((ix / ((pw_k A) + 1)) % (pw_n A)) from pk_rem (by first | omega | exact pw_g_lt) (by first | omega | exact pw_g_lt) (by first | omega | exact pw_g_lt)]
      refine pw_blk (pc' := 86) [.iload 5, .aload 0, .getfield 802, .iconst 1, .iadd, .idiv, .aload 0, .getfield 800, .idiv, .istore 8] (by decide +kernel) ?_
      refine ⟨(show ¬ (mm 26 2) + (nI 1) = 0 from by rw [show mm 26 2 = nI (pw_k A) from mv_k hv hok, show (nI (pw_k A)) + (nI 1) = nI ((pw_k A) + 1) from nI_add _ _]; exact (show ¬ nI ((pw_k A) + 1) = 0 from nI_ne0 (by first | omega | exact pw_g_lt) (by first | omega | exact pw_g_lt))), ?_⟩
      refine ⟨(show ¬ mm 26 0 = 0 from by rw [show mm 26 0 = nI (pw_n A) from mv_n hv hok]; exact (show ¬ nI (pw_n A) = 0 from nI_ne0 (by first | omega | exact pw_g_lt) (by first | omega | exact pw_g_lt))), ?_⟩
      show pw_V x m_X8_worlds 1 Z 86 [(8, .int (((nI ix) / ((mm 26 2) + (nI 1))) / (mm 26 0))), (7, .int (nI ((ix / ((pw_k A) + 1)) % (pw_n A)))), (6, .int (nI (ix % ((pw_k A) + 1)))), (0, .ref 26), (1, .int (nI j6)), (2, .int (nI (pw_gfl (· + ·) (pw_W1 A (pw_Wn A)) ix))), (3, .int (nI (pw_gfl (· ||| ·) (pw_W1 A (pw_Ww A (pw_g A 42 0))) ix))), (4, .int (nI (pw_gfl (· ||| ·) (pw_W1 A (pw_Wf A)) ix))), (5, .int (nI ix))] [] mm
      rw [show mm 26 2 = nI (pw_k A) from mv_k hv hok]
      rw [show (nI (pw_k A)) + (nI 1) = nI ((pw_k A) + 1) from nI_add _ _]
      rw [show (nI ix) / (nI ((pw_k A) + 1)) = nI (ix / ((pw_k A) + 1)) from pk_div (by first | omega | exact pw_g_lt) (by first | omega | exact pw_g_lt) (by first | omega | exact pw_g_lt)]
      rw [show mm 26 0 = nI (pw_n A) from mv_n hv hok]
      rw [show (nI (ix / ((pw_k A) + 1))) / (nI (pw_n A)) = nI ((ix / ((pw_k A) + 1)) / (pw_n A)) from pk_div (by first | omega | exact pw_g_lt) (by first | omega | exact pw_g_lt) (by first | omega | exact pw_g_lt)]
      refine pw_blk (pc' := 93) [.aload 0, .iload 8, .iload 7, .iload 6] (by decide +kernel) ?_
      show pw_V x m_X8_worlds 1 Z 93 [(8, .int (nI ((ix / ((pw_k A) + 1)) / (pw_n A)))), (7, .int (nI ((ix / ((pw_k A) + 1)) % (pw_n A)))), (6, .int (nI (ix % ((pw_k A) + 1)))), (0, .ref 26), (1, .int (nI j6)), (2, .int (nI (pw_gfl (· + ·) (pw_W1 A (pw_Wn A)) ix))), (3, .int (nI (pw_gfl (· ||| ·) (pw_W1 A (pw_Ww A (pw_g A 42 0))) ix))), (4, .int (nI (pw_gfl (· ||| ·) (pw_W1 A (pw_Wf A)) ix))), (5, .int (nI ix))] [.int (nI (ix % ((pw_k A) + 1))), .int (nI ((ix / ((pw_k A) + 1)) % (pw_n A))), .int (nI ((ix / ((pw_k A) + 1)) / (pw_n A))), .ref 26] mm
      refine pw_cV (vs := [.int (nI ((ix / ((pw_k A) + 1)) / (pw_n A))), .int (nI ((ix / ((pw_k A) + 1)) % (pw_n A))), .int (nI (ix % ((pw_k A) + 1)))]) (rest := []) k_X8_isWorld (c_mWorld mm hv hok ((ix / ((pw_k A) + 1)) / (pw_n A)) ((ix / ((pw_k A) + 1)) % (pw_n A)) (ix % ((pw_k A) + 1)) (by omega) (by omega) (by omega) (by omega)) l_8_252 rfl rfl rfl rfl (by omega) (Nat.le_of_ble_eq_true rfl) (by decide +kernel) ?_
      rintro _ m1 ⟨rfl, e1⟩
      rw [e1]
      clear e1 m1
      show pw_V x m_X8_worlds 1 Z 96 [(8, .int (nI ((ix / ((pw_k A) + 1)) / (pw_n A)))), (7, .int (nI ((ix / ((pw_k A) + 1)) % (pw_n A)))), (6, .int (nI (ix % ((pw_k A) + 1)))), (0, .ref 26), (1, .int (nI j6)), (2, .int (nI (pw_gfl (· + ·) (pw_W1 A (pw_Wn A)) ix))), (3, .int (nI (pw_gfl (· ||| ·) (pw_W1 A (pw_Ww A (pw_g A 42 0))) ix))), (4, .int (nI (pw_gfl (· ||| ·) (pw_W1 A (pw_Wf A)) ix))), (5, .int (nI ix))] [.int (pw_b (pw_isW A ((ix / ((pw_k A) + 1)) / (pw_n A)) ((ix / ((pw_k A) + 1)) % (pw_n A)) (pw_wq (pw_k A) (ix % ((pw_k A) + 1)))))] mm
      refine pw_ib_eq (tgt := 147) (off := 51) (by decide +kernel) (by decide) (fun h96 => ?_) (fun h96 => ?_)
      · refine pw_blk (pc' := 150) [.iinc 5 1] (by decide +kernel) ?_
        show pw_V x m_X8_worlds 1 Z 150 [(5, .int ((nI ix) + (nI 1))), (8, .int (nI ((ix / ((pw_k A) + 1)) / (pw_n A)))), (7, .int (nI ((ix / ((pw_k A) + 1)) % (pw_n A)))), (6, .int (nI (ix % ((pw_k A) + 1)))), (0, .ref 26), (1, .int (nI j6)), (2, .int (nI (pw_gfl (· + ·) (pw_W1 A (pw_Wn A)) ix))), (3, .int (nI (pw_gfl (· ||| ·) (pw_W1 A (pw_Ww A (pw_g A 42 0))) ix))), (4, .int (nI (pw_gfl (· ||| ·) (pw_W1 A (pw_Wf A)) ix)))] [] mm
        rw [show (nI ix) + (nI 1) = nI (ix + 1) from nI_add _ _]
        refine pw_goto (tgt := 22) (off := -128) (by decide +kernel) (by decide) ?_
        rw [show (pw_gfl (· + ·) (pw_W1 A (pw_Wn A)) ix) = (pw_gfl (· + ·) (pw_W1 A (pw_Wn A)) (ix + 1)) from pw_gfl_a0 (by unfold pw_W1 pw_Wn; rw [if_neg (by rw [h96]; decide)])]
        rw [show (pw_gfl (· ||| ·) (pw_W1 A (pw_Ww A (pw_g A 42 0))) ix) = (pw_gfl (· ||| ·) (pw_W1 A (pw_Ww A (pw_g A 42 0))) (ix + 1)) from pw_gfl_o0 (by unfold pw_W1 pw_Ww; rw [if_neg (by rw [h96]; decide)])]
        rw [show (pw_gfl (· ||| ·) (pw_W1 A (pw_Wf A)) ix) = (pw_gfl (· ||| ·) (pw_W1 A (pw_Wf A)) (ix + 1)) from pw_gfl_o0 (by unfold pw_W1 pw_Wf; rw [if_neg (by rw [h96]; decide)])]
        refine pw_lvp [4, 5, 6, 7, 8, 0] rfl ?_
        exact ih (by omega)
      · refine pw_blk (pc' := 132) [.iinc 2 1, .iload 3, .iconst 1, .iload 8, .iload 7, .aload 0, .getfield 808, .iconst 0, .iaload, .imul, .iadd, .aload 0, .getfield 800, .irem, .ishl, .ior, .istore 3, .iload 4, .iload 6, .aload 0, .getfield 802] (by decide +kernel) ?_
        refine ⟨0, rfl, by first | omega | exact pw_g_lt, ?_⟩
        refine ⟨(show ¬ mm 26 0 = 0 from by rw [show mm 26 0 = nI (pw_n A) from mv_n hv hok]; exact (show ¬ nI (pw_n A) = 0 from nI_ne0 (by first | omega | exact pw_g_lt) (by first | omega | exact pw_g_lt))), ?_⟩
        show pw_V x m_X8_worlds 1 Z 132 [(3, .int ((nI (pw_gfl (· ||| ·) (pw_W1 A (pw_Ww A (pw_g A 42 0))) ix)) ||| ((nI 1) <<< ((((nI ((ix / ((pw_k A) + 1)) / (pw_n A))) + ((nI ((ix / ((pw_k A) + 1)) % (pw_n A))) * (mm 30 0))) - ((nI ((ix / ((pw_k A) + 1)) / (pw_n A))) + ((nI ((ix / ((pw_k A) + 1)) % (pw_n A))) * (mm 30 0))) / (mm 26 0) * (mm 26 0)) &&& 31)))), (2, .int ((nI (pw_gfl (· + ·) (pw_W1 A (pw_Wn A)) ix)) + (nI 1))), (8, .int (nI ((ix / ((pw_k A) + 1)) / (pw_n A)))), (7, .int (nI ((ix / ((pw_k A) + 1)) % (pw_n A)))), (6, .int (nI (ix % ((pw_k A) + 1)))), (0, .ref 26), (1, .int (nI j6)), (4, .int (nI (pw_gfl (· ||| ·) (pw_W1 A (pw_Wf A)) ix))), (5, .int (nI ix))] [.int (mm 26 2), .int (nI (ix % ((pw_k A) + 1))), .int (nI (pw_gfl (· ||| ·) (pw_W1 A (pw_Wf A)) ix))] mm
        rw [show mm 30 0 = nI (pw_g A 42 0) from mv_d hv hok]
        rw [show (nI ((ix / ((pw_k A) + 1)) % (pw_n A))) * (nI (pw_g A 42 0)) = nI (((ix / ((pw_k A) + 1)) % (pw_n A)) * (pw_g A 42 0)) from pk_mul _ _]
        rw [show (nI ((ix / ((pw_k A) + 1)) / (pw_n A))) + (nI (((ix / ((pw_k A) + 1)) % (pw_n A)) * (pw_g A 42 0))) = nI (((ix / ((pw_k A) + 1)) / (pw_n A)) + (((ix / ((pw_k A) + 1)) % (pw_n A)) * (pw_g A 42 0))) from nI_add _ _]
        rw [show mm 26 0 = nI (pw_n A) from mv_n hv hok]
        rw [show (nI (((ix / ((pw_k A) + 1)) / (pw_n A)) + (((ix / ((pw_k A) + 1)) % (pw_n A)) * (pw_g A 42 0)))) - (nI (((ix / ((pw_k A) + 1)) / (pw_n A)) + (((ix / ((pw_k A) + 1)) % (pw_n A)) * (pw_g A 42 0)))) / (nI (pw_n A)) * (nI (pw_n A)) = nI ((((ix / ((pw_k A) + 1)) / (pw_n A)) + (((ix / ((pw_k A) + 1)) % (pw_n A)) * (pw_g A 42 0))) % (pw_n A)) from pk_rem (by first | omega | exact pw_g_lt) (by first | omega | exact pw_g_lt) (by first | omega | exact pw_g_lt)]
        rw [show (nI 1) <<< ((nI ((((ix / ((pw_k A) + 1)) / (pw_n A)) + (((ix / ((pw_k A) + 1)) % (pw_n A)) * (pw_g A 42 0))) % (pw_n A))) &&& 31) = nI (2 ^ ((((ix / ((pw_k A) + 1)) / (pw_n A)) + (((ix / ((pw_k A) + 1)) % (pw_n A)) * (pw_g A 42 0))) % (pw_n A))) from pw_shl1 (by first | omega | exact pw_g_lt)]
        rw [show (nI (pw_gfl (· ||| ·) (pw_W1 A (pw_Ww A (pw_g A 42 0))) ix)) ||| (nI (2 ^ ((((ix / ((pw_k A) + 1)) / (pw_n A)) + (((ix / ((pw_k A) + 1)) % (pw_n A)) * (pw_g A 42 0))) % (pw_n A)))) = nI ((pw_gfl (· ||| ·) (pw_W1 A (pw_Ww A (pw_g A 42 0))) ix) ||| (2 ^ ((((ix / ((pw_k A) + 1)) / (pw_n A)) + (((ix / ((pw_k A) + 1)) % (pw_n A)) * (pw_g A 42 0))) % (pw_n A)))) from fa_or _ _]
        rw [show (nI (pw_gfl (· + ·) (pw_W1 A (pw_Wn A)) ix)) + (nI 1) = nI ((pw_gfl (· + ·) (pw_W1 A (pw_Wn A)) ix) + 1) from nI_add _ _]
        rw [show mm 26 2 = nI (pw_k A) from mv_k hv hok]
        refine pw_in_ne (tgt := 140) (off := 8) (by first | omega | exact pw_g_lt) (by first | omega | exact pw_g_lt) (by decide +kernel) (by decide) (fun h132 => ?_) (fun h132 => ?_)
        · refine pw_blk (pc' := 150) [.iconst 1, .iload 6, .ishl, .ior, .istore 4, .iinc 5 1] (by decide +kernel) ?_
          show pw_V x m_X8_worlds 1 Z 150 [(5, .int ((nI ix) + (nI 1))), (4, .int ((nI (pw_gfl (· ||| ·) (pw_W1 A (pw_Wf A)) ix)) ||| ((nI 1) <<< ((nI (ix % ((pw_k A) + 1))) &&& 31)))), (3, .int (nI ((pw_gfl (· ||| ·) (pw_W1 A (pw_Ww A (pw_g A 42 0))) ix) ||| (2 ^ ((((ix / ((pw_k A) + 1)) / (pw_n A)) + (((ix / ((pw_k A) + 1)) % (pw_n A)) * (pw_g A 42 0))) % (pw_n A)))))), (2, .int (nI ((pw_gfl (· + ·) (pw_W1 A (pw_Wn A)) ix) + 1))), (8, .int (nI ((ix / ((pw_k A) + 1)) / (pw_n A)))), (7, .int (nI ((ix / ((pw_k A) + 1)) % (pw_n A)))), (6, .int (nI (ix % ((pw_k A) + 1)))), (0, .ref 26), (1, .int (nI j6))] [] mm
          rw [show (nI ix) + (nI 1) = nI (ix + 1) from nI_add _ _]
          rw [show (nI 1) <<< ((nI (ix % ((pw_k A) + 1))) &&& 31) = nI (2 ^ (ix % ((pw_k A) + 1))) from pw_shl1 (by first | omega | exact pw_g_lt)]
          rw [show (nI (pw_gfl (· ||| ·) (pw_W1 A (pw_Wf A)) ix)) ||| (nI (2 ^ (ix % ((pw_k A) + 1)))) = nI ((pw_gfl (· ||| ·) (pw_W1 A (pw_Wf A)) ix) ||| (2 ^ (ix % ((pw_k A) + 1)))) from fa_or _ _]
          refine pw_goto (tgt := 22) (off := -128) (by decide +kernel) (by decide) ?_
          rw [show ((pw_gfl (· + ·) (pw_W1 A (pw_Wn A)) ix) + 1) = (pw_gfl (· + ·) (pw_W1 A (pw_Wn A)) (ix + 1)) from pw_gfl_a (by unfold pw_W1 pw_Wn; rw [if_pos h96])]
          rw [show ((pw_gfl (· ||| ·) (pw_W1 A (pw_Ww A (pw_g A 42 0))) ix) ||| (2 ^ ((((ix / ((pw_k A) + 1)) / (pw_n A)) + (((ix / ((pw_k A) + 1)) % (pw_n A)) * (pw_g A 42 0))) % (pw_n A)))) = (pw_gfl (· ||| ·) (pw_W1 A (pw_Ww A (pw_g A 42 0))) (ix + 1)) from pw_gfl_o (by unfold pw_W1 pw_Ww; rw [if_pos h96])]
          rw [show ((pw_gfl (· ||| ·) (pw_W1 A (pw_Wf A)) ix) ||| (2 ^ (ix % ((pw_k A) + 1)))) = (pw_gfl (· ||| ·) (pw_W1 A (pw_Wf A)) (ix + 1)) from pw_gfl_o (by unfold pw_W1 pw_Wf; rw [if_pos h96]; unfold pw_wq; rw [if_neg h132]; rfl)]
          refine pw_lvp [7, 8, 3, 2, 1, 0] rfl ?_
          exact ih (by omega)
        · refine pw_blk (pc' := 137) [.iconst (64)] (by decide +kernel) ?_
          show pw_V x m_X8_worlds 1 Z 137 [(3, .int (nI ((pw_gfl (· ||| ·) (pw_W1 A (pw_Ww A (pw_g A 42 0))) ix) ||| (2 ^ ((((ix / ((pw_k A) + 1)) / (pw_n A)) + (((ix / ((pw_k A) + 1)) % (pw_n A)) * (pw_g A 42 0))) % (pw_n A)))))), (2, .int (nI ((pw_gfl (· + ·) (pw_W1 A (pw_Wn A)) ix) + 1))), (8, .int (nI ((ix / ((pw_k A) + 1)) / (pw_n A)))), (7, .int (nI ((ix / ((pw_k A) + 1)) % (pw_n A)))), (6, .int (nI (ix % ((pw_k A) + 1)))), (0, .ref 26), (1, .int (nI j6)), (4, .int (nI (pw_gfl (· ||| ·) (pw_W1 A (pw_Wf A)) ix))), (5, .int (nI ix))] [.int (nI 64), .int (nI (pw_gfl (· ||| ·) (pw_W1 A (pw_Wf A)) ix))] mm
          refine pw_goto (tgt := 144) (off := 7) (by decide +kernel) (by decide) ?_
          refine pw_blk (pc' := 150) [.ior, .istore 4, .iinc 5 1] (by decide +kernel) ?_
          show pw_V x m_X8_worlds 1 Z 150 [(5, .int ((nI ix) + (nI 1))), (4, .int ((nI (pw_gfl (· ||| ·) (pw_W1 A (pw_Wf A)) ix)) ||| (nI 64))), (3, .int (nI ((pw_gfl (· ||| ·) (pw_W1 A (pw_Ww A (pw_g A 42 0))) ix) ||| (2 ^ ((((ix / ((pw_k A) + 1)) / (pw_n A)) + (((ix / ((pw_k A) + 1)) % (pw_n A)) * (pw_g A 42 0))) % (pw_n A)))))), (2, .int (nI ((pw_gfl (· + ·) (pw_W1 A (pw_Wn A)) ix) + 1))), (8, .int (nI ((ix / ((pw_k A) + 1)) / (pw_n A)))), (7, .int (nI ((ix / ((pw_k A) + 1)) % (pw_n A)))), (6, .int (nI (ix % ((pw_k A) + 1)))), (0, .ref 26), (1, .int (nI j6))] [] mm
          rw [show (nI ix) + (nI 1) = nI (ix + 1) from nI_add _ _]
          rw [show (nI (pw_gfl (· ||| ·) (pw_W1 A (pw_Wf A)) ix)) ||| (nI 64) = nI ((pw_gfl (· ||| ·) (pw_W1 A (pw_Wf A)) ix) ||| 64) from fa_or _ _]
          refine pw_goto (tgt := 22) (off := -128) (by decide +kernel) (by decide) ?_
          rw [show ((pw_gfl (· + ·) (pw_W1 A (pw_Wn A)) ix) + 1) = (pw_gfl (· + ·) (pw_W1 A (pw_Wn A)) (ix + 1)) from pw_gfl_a (by unfold pw_W1 pw_Wn; rw [if_pos h96])]
          rw [show ((pw_gfl (· ||| ·) (pw_W1 A (pw_Ww A (pw_g A 42 0))) ix) ||| (2 ^ ((((ix / ((pw_k A) + 1)) / (pw_n A)) + (((ix / ((pw_k A) + 1)) % (pw_n A)) * (pw_g A 42 0))) % (pw_n A)))) = (pw_gfl (· ||| ·) (pw_W1 A (pw_Ww A (pw_g A 42 0))) (ix + 1)) from pw_gfl_o (by unfold pw_W1 pw_Ww; rw [if_pos h96])]
          rw [show ((pw_gfl (· ||| ·) (pw_W1 A (pw_Wf A)) ix) ||| 64) = (pw_gfl (· ||| ·) (pw_W1 A (pw_Wf A)) (ix + 1)) from pw_gfl_o (by unfold pw_W1 pw_Wf; rw [if_pos h96]; unfold pw_wq; rw [if_pos h132]; rfl)]
          refine pw_lvp [7, 8, 3, 2, 1, 0] rfl ?_
          exact ih (by omega)
  · refine pw_blk (pc' := 11) [.iconst (-3)] (by decide +kernel) ?_
    show pw_V x m_X8_worlds 1 Z 11 [(0, .ref 26), (1, .int w)] [.int (-3)] mm
    rw [← hZ]
    refine pw_ri (by decide +kernel) ?_
    refine ⟨?_, rfl⟩
    unfold F_worlds
    rw [if_neg (by rw [h6]; decide)]

set_option maxHeartbeats 4000000 in
set_option maxRecDepth 100000 in
theorem c_mdangers {A : pw_m} (mm : pw_m) (hv : MV A mm) (hok : pw_ok A) (i s : Nat) (hi : i < pw_k A) (hs : s < 8) : pw_Ct 1 yX8_dangers m_X8_dangers [.ref 26, .int (nI i), .int (nI s)] mm (fun r m' => r = some (.int (nI (pw_rk A i s))) ∧ m' = mm) := by
  refine pw_ct (by decide +kernel) rfl (Nat.le_of_ble_eq_true rfl) (fun x => ?_)
  generalize hZ : pw_Z x _ = Z
  have bn := pw_bn hok
  have bk := pw_bk hok
  have b420 := pw_b420 hok
  show pw_V x m_X8_dangers 1 Z 0 [(0, .ref 26), (1, .int (nI i)), (2, .int (nI s))] [] mm
  refine pw_blk (pc' := 5) [.iconst 0, .istore 3, .iconst 0, .istore 4] (by decide +kernel) ?_
  show pw_V x m_X8_dangers 1 Z 5 [(4, .int (nI 0)), (3, .int (nI 0)), (0, .ref 26), (1, .int (nI i)), (2, .int (nI s))] [] mm
  have eN : (pw_n A) * (pw_n A) * ((pw_k A) + 1) = pw_wN A := rfl
  have bN := pw_wN_le bn bk
  by_cases sq : pw_g A 7 i = 1
  · refine pw_blk (pc' := 23) [.iload 4, .aload 0, .getfield 800, .aload 0, .getfield 800, .imul, .aload 0, .getfield 802, .iconst 1, .iadd, .imul] (by decide +kernel) ?_
    show pw_V x m_X8_dangers 1 Z 23 [(4, .int (nI 0)), (3, .int (nI 0)), (0, .ref 26), (1, .int (nI i)), (2, .int (nI s))] [.int (((mm 26 0) * (mm 26 0)) * ((mm 26 2) + (nI 1))), .int (nI 0)] mm
    rw [show mm 26 0 = nI (pw_n A) from mv_n hv hok]
    rw [show (nI (pw_n A)) * (nI (pw_n A)) = nI ((pw_n A) * (pw_n A)) from pk_mul _ _]
    rw [show mm 26 2 = nI (pw_k A) from mv_k hv hok]
    rw [show (nI (pw_k A)) + (nI 1) = nI ((pw_k A) + 1) from nI_add _ _]
    rw [show (nI ((pw_n A) * (pw_n A))) * (nI ((pw_k A) + 1)) = nI (((pw_n A) * (pw_n A)) * ((pw_k A) + 1)) from pk_mul _ _]
    refine pw_in_ge (tgt := 135) (off := 112) (by first | omega | exact pw_g_lt) (by first | omega | exact pw_g_lt) (by decide +kernel) (by decide) (fun h23 => ?_) (fun h23 => ?_)
    · refine pw_blk (pc' := 136) [.iload 3] (by decide +kernel) ?_
      show pw_V x m_X8_dangers 1 Z 136 [(4, .int (nI 0)), (3, .int (nI 0)), (0, .ref 26), (1, .int (nI i)), (2, .int (nI s))] [.int (nI 0)] mm
      rw [← hZ]
      refine pw_ri (by decide +kernel) ?_
      exact ⟨by unfold pw_rk; rw [if_pos sq], rfl⟩
    · refine pw_blk (pc' := 35) [.aload 0, .getfield 803, .iconst 3, .iload 1, .imul, .iaload, .iconst 1] (by decide +kernel) ?_
      refine ⟨(3 * i), (show (nI 3) * (nI i) = nI (3 * i) from by rw [show (nI 3) * (nI i) = nI (3 * i) from pk_mul _ _]), by first | omega | exact pw_g_lt, ?_⟩
      show pw_V x m_X8_dangers 1 Z 35 [(4, .int (nI 0)), (3, .int (nI 0)), (0, .ref 26), (1, .int (nI i)), (2, .int (nI s))] [.int (nI 1), .int (mm 28 (3 * i))] mm
      rw [show mm 28 (3 * i) = nI (pw_g A 7 i) from mv_kk hv hok (i := i) (by omega)]
      refine pw_in_eq (tgt := 135) (off := 100) (by first | omega | exact pw_g_lt) (by first | omega | exact pw_g_lt) (by decide +kernel) (by decide) (fun h35 => ?_) (fun h35 => ?_)
      · refine pw_blk (pc' := 136) [.iload 3] (by decide +kernel) ?_
        show pw_V x m_X8_dangers 1 Z 136 [(4, .int (nI 0)), (3, .int (nI 0)), (0, .ref 26), (1, .int (nI i)), (2, .int (nI s))] [.int (nI 0)] mm
        rw [← hZ]
        refine pw_ri (by decide +kernel) ?_
        exact ⟨by unfold pw_rk; rw [if_pos sq], rfl⟩
      · exact absurd sq h35
  · refine pw_lvp [2, 3, 4, 1, 0] rfl ?_
    suffices lo : ∀ ix : Nat, ix ≤ pw_wN A → pw_V x m_X8_dangers 1 Z 5 [(0, .ref 26), (1, .int (nI i)), (2, .int (nI s)), (3, .int (nI (pw_gfl (· + ·) (pw_W1 A (pw_Wr A (pw_g A 42 0) (some i) s)) ix))), (4, .int (nI ix))] [] mm from lo 0 (by omega)
    refine pw_dn (pw_wN A) (fun ix hix ih => ?_)
    have bgn : pw_gfl (· + ·) (pw_W1 A (pw_Wr A (pw_g A 42 0) (some i) s)) ix ≤ ix := pw_gfl_le1 (fun i => by unfold pw_W1 pw_Wr; split <;> omega)
    refine pw_blk (pc' := 23) [.iload 4, .aload 0, .getfield 800, .aload 0, .getfield 800, .imul, .aload 0, .getfield 802, .iconst 1, .iadd, .imul] (by decide +kernel) ?_
    show pw_V x m_X8_dangers 1 Z 23 [(0, .ref 26), (1, .int (nI i)), (2, .int (nI s)), (3, .int (nI (pw_gfl (· + ·) (pw_W1 A (pw_Wr A (pw_g A 42 0) (some i) s)) ix))), (4, .int (nI ix))] [.int (((mm 26 0) * (mm 26 0)) * ((mm 26 2) + (nI 1))), .int (nI ix)] mm
    rw [show mm 26 0 = nI (pw_n A) from mv_n hv hok]
    rw [show (nI (pw_n A)) * (nI (pw_n A)) = nI ((pw_n A) * (pw_n A)) from pk_mul _ _]
    rw [show mm 26 2 = nI (pw_k A) from mv_k hv hok]
    rw [show (nI (pw_k A)) + (nI 1) = nI ((pw_k A) + 1) from nI_add _ _]
    rw [show (nI ((pw_n A) * (pw_n A))) * (nI ((pw_k A) + 1)) = nI (((pw_n A) * (pw_n A)) * ((pw_k A) + 1)) from pk_mul _ _]
    refine pw_in_ge (tgt := 135) (off := 112) (by first | omega | exact pw_g_lt) (by first | omega | exact pw_g_lt) (by decide +kernel) (by decide) (fun h23 => ?_) (fun h23 => ?_)
    · refine pw_blk (pc' := 136) [.iload 3] (by decide +kernel) ?_
      show pw_V x m_X8_dangers 1 Z 136 [(0, .ref 26), (1, .int (nI i)), (2, .int (nI s)), (3, .int (nI (pw_gfl (· + ·) (pw_W1 A (pw_Wr A (pw_g A 42 0) (some i) s)) ix))), (4, .int (nI ix))] [.int (nI (pw_gfl (· + ·) (pw_W1 A (pw_Wr A (pw_g A 42 0) (some i) s)) ix))] mm
      rw [← hZ]
      refine pw_ri (by decide +kernel) ?_
      refine ⟨?_, rfl⟩
      rw [show ix = pw_wN A by omega]
      unfold pw_rk
      rw [if_neg sq, ← pw_wr_m]
    · refine pw_blk (pc' := 35) [.aload 0, .getfield 803, .iconst 3, .iload 1, .imul, .iaload, .iconst 1] (by decide +kernel) ?_
      refine ⟨(3 * i), (show (nI 3) * (nI i) = nI (3 * i) from by rw [show (nI 3) * (nI i) = nI (3 * i) from pk_mul _ _]), by first | omega | exact pw_g_lt, ?_⟩
      show pw_V x m_X8_dangers 1 Z 35 [(0, .ref 26), (1, .int (nI i)), (2, .int (nI s)), (3, .int (nI (pw_gfl (· + ·) (pw_W1 A (pw_Wr A (pw_g A 42 0) (some i) s)) ix))), (4, .int (nI ix))] [.int (nI 1), .int (mm 28 (3 * i))] mm
      rw [show mm 28 (3 * i) = nI (pw_g A 7 i) from mv_kk hv hok (i := i) (by omega)]
      refine pw_in_eq (tgt := 135) (off := 100) (by first | omega | exact pw_g_lt) (by first | omega | exact pw_g_lt) (by decide +kernel) (by decide) (fun h35 => ?_) (fun h35 => ?_)
      · exact absurd h35 sq
      · have bdiv : ix / (pw_k A + 1) ≤ ix := Nat.div_le_self _ _
        obtain ⟨wn0, ww, ws, wf⟩ := pw_wk_b (A := A) (k := ix) (by omega)
        have bm := pw_mulb (show ix / (pw_k A + 1) % pw_n A < 8 by omega) b420
        have bmod := Nat.mod_lt (ix / (pw_k A + 1) / pw_n A + ix / (pw_k A + 1) % pw_n A * pw_g A 42 0) wn0
        have wne := pw_wq_ne (kn := pw_k A) (who := ix % (pw_k A + 1)) hi
        refine pw_blk (pc' := 49) [.iload 4, .aload 0, .getfield 802, .iconst 1, .iadd, .irem, .istore 5] (by decide +kernel) ?_
        refine ⟨(show ¬ (mm 26 2) + (nI 1) = 0 from by rw [show mm 26 2 = nI (pw_k A) from mv_k hv hok, show (nI (pw_k A)) + (nI 1) = nI ((pw_k A) + 1) from nI_add _ _]; exact (show ¬ nI ((pw_k A) + 1) = 0 from nI_ne0 (by first | omega | exact pw_g_lt) (by first | omega | exact pw_g_lt))), ?_⟩
        show pw_V x m_X8_dangers 1 Z 49 [(5, .int ((nI ix) - (nI ix) / ((mm 26 2) + (nI 1)) * ((mm 26 2) + (nI 1)))), (0, .ref 26), (1, .int (nI i)), (2, .int (nI s)), (3, .int (nI (pw_gfl (· + ·) (pw_W1 A (pw_Wr A (pw_g A 42 0) (some i) s)) ix))), (4, .int (nI ix))] [] mm
        rw [show mm 26 2 = nI (pw_k A) from mv_k hv hok]
        rw [show (nI (pw_k A)) + (nI 1) = nI ((pw_k A) + 1) from nI_add _ _]
        rw [show (nI ix) - (nI ix) / (nI ((pw_k A) + 1)) * (nI ((pw_k A) + 1)) = nI (ix % ((pw_k A) + 1)) from pk_rem (by first | omega | exact pw_g_lt) (by first | omega | exact pw_g_lt) (by first | omega | exact pw_g_lt)]
        refine pw_blk (pc' := 65) [.iload 4, .aload 0, .getfield 802, .iconst 1, .iadd, .idiv, .aload 0, .getfield 800, .irem, .istore 6] (by decide +kernel) ?_
        refine ⟨(show ¬ (mm 26 2) + (nI 1) = 0 from by rw [show mm 26 2 = nI (pw_k A) from mv_k hv hok, show (nI (pw_k A)) + (nI 1) = nI ((pw_k A) + 1) from nI_add _ _]; exact (show ¬ nI ((pw_k A) + 1) = 0 from nI_ne0 (by first | omega | exact pw_g_lt) (by first | omega | exact pw_g_lt))), ?_⟩
        refine ⟨(show ¬ mm 26 0 = 0 from by rw [show mm 26 0 = nI (pw_n A) from mv_n hv hok]; exact (show ¬ nI (pw_n A) = 0 from nI_ne0 (by first | omega | exact pw_g_lt) (by first | omega | exact pw_g_lt))), ?_⟩
        show pw_V x m_X8_dangers 1 Z 65 [(6, .int (((nI ix) / ((mm 26 2) + (nI 1))) - ((nI ix) / ((mm 26 2) + (nI 1))) / (mm 26 0) * (mm 26 0))), (5, .int (nI (ix % ((pw_k A) + 1)))), (0, .ref 26), (1, .int (nI i)), (2, .int (nI s)), (3, .int (nI (pw_gfl (· + ·) (pw_W1 A (pw_Wr A (pw_g A 42 0) (some i) s)) ix))), (4, .int (nI ix))] [] mm
        rw [show mm 26 2 = nI (pw_k A) from mv_k hv hok]
        rw [show (nI (pw_k A)) + (nI 1) = nI ((pw_k A) + 1) from nI_add _ _]
        rw [show (nI ix) / (nI ((pw_k A) + 1)) = nI (ix / ((pw_k A) + 1)) from pk_div (by first | omega | exact pw_g_lt) (by first | omega | exact pw_g_lt) (by first | omega | exact pw_g_lt)]
        rw [show mm 26 0 = nI (pw_n A) from mv_n hv hok]
        rw [show (nI (ix / ((pw_k A) + 1))) - (nI (ix / ((pw_k A) + 1))) / (nI (pw_n A)) * (nI (pw_n A)) = nI ((ix / ((pw_k A) + 1)) % (pw_n A)) from pk_rem (by first | omega | exact pw_g_lt) (by first | omega | exact pw_g_lt) (by first | omega | exact pw_g_lt)]
        refine pw_blk (pc' := 81) [.iload 4, .aload 0, .getfield 802, .iconst 1, .iadd, .idiv, .aload 0, .getfield 800, .idiv, .istore 7] (by decide +kernel) ?_
        refine ⟨(show ¬ (mm 26 2) + (nI 1) = 0 from by rw [show mm 26 2 = nI (pw_k A) from mv_k hv hok, show (nI (pw_k A)) + (nI 1) = nI ((pw_k A) + 1) from nI_add _ _]; exact (show ¬ nI ((pw_k A) + 1) = 0 from nI_ne0 (by first | omega | exact pw_g_lt) (by first | omega | exact pw_g_lt))), ?_⟩
        refine ⟨(show ¬ mm 26 0 = 0 from by rw [show mm 26 0 = nI (pw_n A) from mv_n hv hok]; exact (show ¬ nI (pw_n A) = 0 from nI_ne0 (by first | omega | exact pw_g_lt) (by first | omega | exact pw_g_lt))), ?_⟩
        show pw_V x m_X8_dangers 1 Z 81 [(7, .int (((nI ix) / ((mm 26 2) + (nI 1))) / (mm 26 0))), (6, .int (nI ((ix / ((pw_k A) + 1)) % (pw_n A)))), (5, .int (nI (ix % ((pw_k A) + 1)))), (0, .ref 26), (1, .int (nI i)), (2, .int (nI s)), (3, .int (nI (pw_gfl (· + ·) (pw_W1 A (pw_Wr A (pw_g A 42 0) (some i) s)) ix))), (4, .int (nI ix))] [] mm
        rw [show mm 26 2 = nI (pw_k A) from mv_k hv hok]
        rw [show (nI (pw_k A)) + (nI 1) = nI ((pw_k A) + 1) from nI_add _ _]
        rw [show (nI ix) / (nI ((pw_k A) + 1)) = nI (ix / ((pw_k A) + 1)) from pk_div (by first | omega | exact pw_g_lt) (by first | omega | exact pw_g_lt) (by first | omega | exact pw_g_lt)]
        rw [show mm 26 0 = nI (pw_n A) from mv_n hv hok]
        rw [show (nI (ix / ((pw_k A) + 1))) / (nI (pw_n A)) = nI ((ix / ((pw_k A) + 1)) / (pw_n A)) from pk_div (by first | omega | exact pw_g_lt) (by first | omega | exact pw_g_lt) (by first | omega | exact pw_g_lt)]
        refine pw_blk (pc' := 85) [.iload 3, .iload 5, .iload 1] (by decide +kernel) ?_
        show pw_V x m_X8_dangers 1 Z 85 [(7, .int (nI ((ix / ((pw_k A) + 1)) / (pw_n A)))), (6, .int (nI ((ix / ((pw_k A) + 1)) % (pw_n A)))), (5, .int (nI (ix % ((pw_k A) + 1)))), (0, .ref 26), (1, .int (nI i)), (2, .int (nI s)), (3, .int (nI (pw_gfl (· + ·) (pw_W1 A (pw_Wr A (pw_g A 42 0) (some i) s)) ix))), (4, .int (nI ix))] [.int (nI i), .int (nI (ix % ((pw_k A) + 1))), .int (nI (pw_gfl (· + ·) (pw_W1 A (pw_Wr A (pw_g A 42 0) (some i) s)) ix))] mm
        refine pw_in_eq (tgt := 126) (off := 41) (by first | omega | exact pw_g_lt) (by first | omega | exact pw_g_lt) (by decide +kernel) (by decide) (fun h85 => ?_) (fun h85 => ?_)
        · refine pw_blk (pc' := 132) [.iconst 0, .iadd, .istore 3, .iinc 4 1] (by decide +kernel) ?_
          show pw_V x m_X8_dangers 1 Z 132 [(4, .int ((nI ix) + (nI 1))), (3, .int ((nI (pw_gfl (· + ·) (pw_W1 A (pw_Wr A (pw_g A 42 0) (some i) s)) ix)) + (nI 0))), (7, .int (nI ((ix / ((pw_k A) + 1)) / (pw_n A)))), (6, .int (nI ((ix / ((pw_k A) + 1)) % (pw_n A)))), (5, .int (nI (ix % ((pw_k A) + 1)))), (0, .ref 26), (1, .int (nI i)), (2, .int (nI s))] [] mm
          rw [show (nI ix) + (nI 1) = nI (ix + 1) from nI_add _ _]
          rw [show (nI (pw_gfl (· + ·) (pw_W1 A (pw_Wr A (pw_g A 42 0) (some i) s)) ix)) + (nI 0) = nI ((pw_gfl (· + ·) (pw_W1 A (pw_Wr A (pw_g A 42 0) (some i) s)) ix) + 0) from nI_add _ _]
          refine pw_goto (tgt := 5) (off := -127) (by decide +kernel) (by decide) ?_
          rw [show ((pw_gfl (· + ·) (pw_W1 A (pw_Wr A (pw_g A 42 0) (some i) s)) ix) + 0) = (pw_gfl (· + ·) (pw_W1 A (pw_Wr A (pw_g A 42 0) (some i) s)) (ix + 1)) from pw_gfl_a (by unfold pw_W1 pw_Wr; rw [if_neg (fun z => z.1 (wne.mpr h85))])]
          refine pw_lvp [5, 6, 7, 1, 0] rfl ?_
          exact ih (by omega)
        · refine pw_blk (pc' := 106) [.iload 7, .iload 6, .aload 0, .getfield 808, .iconst 0, .iaload, .imul, .iadd, .aload 0, .getfield 800, .irem, .iload 2] (by decide +kernel) ?_
          refine ⟨0, rfl, by first | omega | exact pw_g_lt, ?_⟩
          refine ⟨(show ¬ mm 26 0 = 0 from by rw [show mm 26 0 = nI (pw_n A) from mv_n hv hok]; exact (show ¬ nI (pw_n A) = 0 from nI_ne0 (by first | omega | exact pw_g_lt) (by first | omega | exact pw_g_lt))), ?_⟩
          show pw_V x m_X8_dangers 1 Z 106 [(7, .int (nI ((ix / ((pw_k A) + 1)) / (pw_n A)))), (6, .int (nI ((ix / ((pw_k A) + 1)) % (pw_n A)))), (5, .int (nI (ix % ((pw_k A) + 1)))), (0, .ref 26), (1, .int (nI i)), (2, .int (nI s)), (3, .int (nI (pw_gfl (· + ·) (pw_W1 A (pw_Wr A (pw_g A 42 0) (some i) s)) ix))), (4, .int (nI ix))] [.int (nI s), .int (((nI ((ix / ((pw_k A) + 1)) / (pw_n A))) + ((nI ((ix / ((pw_k A) + 1)) % (pw_n A))) * (mm 30 0))) - ((nI ((ix / ((pw_k A) + 1)) / (pw_n A))) + ((nI ((ix / ((pw_k A) + 1)) % (pw_n A))) * (mm 30 0))) / (mm 26 0) * (mm 26 0)), .int (nI (pw_gfl (· + ·) (pw_W1 A (pw_Wr A (pw_g A 42 0) (some i) s)) ix))] mm
          rw [show mm 30 0 = nI (pw_g A 42 0) from mv_d hv hok]
          rw [show (nI ((ix / ((pw_k A) + 1)) % (pw_n A))) * (nI (pw_g A 42 0)) = nI (((ix / ((pw_k A) + 1)) % (pw_n A)) * (pw_g A 42 0)) from pk_mul _ _]
          rw [show (nI ((ix / ((pw_k A) + 1)) / (pw_n A))) + (nI (((ix / ((pw_k A) + 1)) % (pw_n A)) * (pw_g A 42 0))) = nI (((ix / ((pw_k A) + 1)) / (pw_n A)) + (((ix / ((pw_k A) + 1)) % (pw_n A)) * (pw_g A 42 0))) from nI_add _ _]
          rw [show mm 26 0 = nI (pw_n A) from mv_n hv hok]
          rw [show (nI (((ix / ((pw_k A) + 1)) / (pw_n A)) + (((ix / ((pw_k A) + 1)) % (pw_n A)) * (pw_g A 42 0)))) - (nI (((ix / ((pw_k A) + 1)) / (pw_n A)) + (((ix / ((pw_k A) + 1)) % (pw_n A)) * (pw_g A 42 0)))) / (nI (pw_n A)) * (nI (pw_n A)) = nI ((((ix / ((pw_k A) + 1)) / (pw_n A)) + (((ix / ((pw_k A) + 1)) % (pw_n A)) * (pw_g A 42 0))) % (pw_n A)) from pk_rem (by first | omega | exact pw_g_lt) (by first | omega | exact pw_g_lt) (by first | omega | exact pw_g_lt)]
          refine pw_in_ne (tgt := 126) (off := 20) (by first | omega | exact pw_g_lt) (by first | omega | exact pw_g_lt) (by decide +kernel) (by decide) (fun h106 => ?_) (fun h106 => ?_)
          · refine pw_blk (pc' := 132) [.iconst 0, .iadd, .istore 3, .iinc 4 1] (by decide +kernel) ?_
            show pw_V x m_X8_dangers 1 Z 132 [(4, .int ((nI ix) + (nI 1))), (3, .int ((nI (pw_gfl (· + ·) (pw_W1 A (pw_Wr A (pw_g A 42 0) (some i) s)) ix)) + (nI 0))), (7, .int (nI ((ix / ((pw_k A) + 1)) / (pw_n A)))), (6, .int (nI ((ix / ((pw_k A) + 1)) % (pw_n A)))), (5, .int (nI (ix % ((pw_k A) + 1)))), (0, .ref 26), (1, .int (nI i)), (2, .int (nI s))] [] mm
            rw [show (nI ix) + (nI 1) = nI (ix + 1) from nI_add _ _]
            rw [show (nI (pw_gfl (· + ·) (pw_W1 A (pw_Wr A (pw_g A 42 0) (some i) s)) ix)) + (nI 0) = nI ((pw_gfl (· + ·) (pw_W1 A (pw_Wr A (pw_g A 42 0) (some i) s)) ix) + 0) from nI_add _ _]
            refine pw_goto (tgt := 5) (off := -127) (by decide +kernel) (by decide) ?_
            rw [show ((pw_gfl (· + ·) (pw_W1 A (pw_Wr A (pw_g A 42 0) (some i) s)) ix) + 0) = (pw_gfl (· + ·) (pw_W1 A (pw_Wr A (pw_g A 42 0) (some i) s)) (ix + 1)) from pw_gfl_a (by unfold pw_W1 pw_Wr; rw [if_neg (fun z => h106 z.2.1)])]
            refine pw_lvp [5, 6, 7, 1, 0] rfl ?_
            exact ih (by omega)
          · refine pw_blk (pc' := 116) [.aload 0, .iload 7, .iload 6, .iload 5] (by decide +kernel) ?_
            show pw_V x m_X8_dangers 1 Z 116 [(7, .int (nI ((ix / ((pw_k A) + 1)) / (pw_n A)))), (6, .int (nI ((ix / ((pw_k A) + 1)) % (pw_n A)))), (5, .int (nI (ix % ((pw_k A) + 1)))), (0, .ref 26), (1, .int (nI i)), (2, .int (nI s)), (3, .int (nI (pw_gfl (· + ·) (pw_W1 A (pw_Wr A (pw_g A 42 0) (some i) s)) ix))), (4, .int (nI ix))] [.int (nI (ix % ((pw_k A) + 1))), .int (nI ((ix / ((pw_k A) + 1)) % (pw_n A))), .int (nI ((ix / ((pw_k A) + 1)) / (pw_n A))), .ref 26, .int (nI (pw_gfl (· + ·) (pw_W1 A (pw_Wr A (pw_g A 42 0) (some i) s)) ix))] mm
            refine pw_cV (vs := [.int (nI ((ix / ((pw_k A) + 1)) / (pw_n A))), .int (nI ((ix / ((pw_k A) + 1)) % (pw_n A))), .int (nI (ix % ((pw_k A) + 1)))]) (rest := [.int (nI (pw_gfl (· + ·) (pw_W1 A (pw_Wr A (pw_g A 42 0) (some i) s)) ix))]) k_X8_isWorld (c_mWorld mm hv hok ((ix / ((pw_k A) + 1)) / (pw_n A)) ((ix / ((pw_k A) + 1)) % (pw_n A)) (ix % ((pw_k A) + 1)) (by omega) (by omega) (by omega) (by omega)) l_8_252 rfl rfl rfl rfl (by omega) (Nat.le_of_ble_eq_true rfl) (by decide +kernel) ?_
            rintro _ m1 ⟨rfl, e1⟩
            rw [e1]
            clear e1 m1
            show pw_V x m_X8_dangers 1 Z 119 [(7, .int (nI ((ix / ((pw_k A) + 1)) / (pw_n A)))), (6, .int (nI ((ix / ((pw_k A) + 1)) % (pw_n A)))), (5, .int (nI (ix % ((pw_k A) + 1)))), (0, .ref 26), (1, .int (nI i)), (2, .int (nI s)), (3, .int (nI (pw_gfl (· + ·) (pw_W1 A (pw_Wr A (pw_g A 42 0) (some i) s)) ix))), (4, .int (nI ix))] [.int (pw_b (pw_isW A ((ix / ((pw_k A) + 1)) / (pw_n A)) ((ix / ((pw_k A) + 1)) % (pw_n A)) (pw_wq (pw_k A) (ix % ((pw_k A) + 1))))), .int (nI (pw_gfl (· + ·) (pw_W1 A (pw_Wr A (pw_g A 42 0) (some i) s)) ix))] mm
            refine pw_ib_eq (tgt := 126) (off := 7) (by decide +kernel) (by decide) (fun h119 => ?_) (fun h119 => ?_)
            · refine pw_blk (pc' := 132) [.iconst 0, .iadd, .istore 3, .iinc 4 1] (by decide +kernel) ?_
              show pw_V x m_X8_dangers 1 Z 132 [(4, .int ((nI ix) + (nI 1))), (3, .int ((nI (pw_gfl (· + ·) (pw_W1 A (pw_Wr A (pw_g A 42 0) (some i) s)) ix)) + (nI 0))), (7, .int (nI ((ix / ((pw_k A) + 1)) / (pw_n A)))), (6, .int (nI ((ix / ((pw_k A) + 1)) % (pw_n A)))), (5, .int (nI (ix % ((pw_k A) + 1)))), (0, .ref 26), (1, .int (nI i)), (2, .int (nI s))] [] mm
              rw [show (nI ix) + (nI 1) = nI (ix + 1) from nI_add _ _]
              rw [show (nI (pw_gfl (· + ·) (pw_W1 A (pw_Wr A (pw_g A 42 0) (some i) s)) ix)) + (nI 0) = nI ((pw_gfl (· + ·) (pw_W1 A (pw_Wr A (pw_g A 42 0) (some i) s)) ix) + 0) from nI_add _ _]
              refine pw_goto (tgt := 5) (off := -127) (by decide +kernel) (by decide) ?_
              rw [show ((pw_gfl (· + ·) (pw_W1 A (pw_Wr A (pw_g A 42 0) (some i) s)) ix) + 0) = (pw_gfl (· + ·) (pw_W1 A (pw_Wr A (pw_g A 42 0) (some i) s)) (ix + 1)) from pw_gfl_a (by unfold pw_W1 pw_Wr; rw [if_neg (fun z => absurd (h119.symm.trans z.2.2) (by decide))])]
              refine pw_lvp [5, 6, 7, 1, 0] rfl ?_
              exact ih (by omega)
            · refine pw_blk (pc' := 123) [.iconst 1] (by decide +kernel) ?_
              show pw_V x m_X8_dangers 1 Z 123 [(7, .int (nI ((ix / ((pw_k A) + 1)) / (pw_n A)))), (6, .int (nI ((ix / ((pw_k A) + 1)) % (pw_n A)))), (5, .int (nI (ix % ((pw_k A) + 1)))), (0, .ref 26), (1, .int (nI i)), (2, .int (nI s)), (3, .int (nI (pw_gfl (· + ·) (pw_W1 A (pw_Wr A (pw_g A 42 0) (some i) s)) ix))), (4, .int (nI ix))] [.int (nI 1), .int (nI (pw_gfl (· + ·) (pw_W1 A (pw_Wr A (pw_g A 42 0) (some i) s)) ix))] mm
              refine pw_goto (tgt := 127) (off := 4) (by decide +kernel) (by decide) ?_
              refine pw_blk (pc' := 132) [.iadd, .istore 3, .iinc 4 1] (by decide +kernel) ?_
              show pw_V x m_X8_dangers 1 Z 132 [(4, .int ((nI ix) + (nI 1))), (3, .int ((nI (pw_gfl (· + ·) (pw_W1 A (pw_Wr A (pw_g A 42 0) (some i) s)) ix)) + (nI 1))), (7, .int (nI ((ix / ((pw_k A) + 1)) / (pw_n A)))), (6, .int (nI ((ix / ((pw_k A) + 1)) % (pw_n A)))), (5, .int (nI (ix % ((pw_k A) + 1)))), (0, .ref 26), (1, .int (nI i)), (2, .int (nI s))] [] mm
              rw [show (nI ix) + (nI 1) = nI (ix + 1) from nI_add _ _]
              rw [show (nI (pw_gfl (· + ·) (pw_W1 A (pw_Wr A (pw_g A 42 0) (some i) s)) ix)) + (nI 1) = nI ((pw_gfl (· + ·) (pw_W1 A (pw_Wr A (pw_g A 42 0) (some i) s)) ix) + 1) from nI_add _ _]
              refine pw_goto (tgt := 5) (off := -127) (by decide +kernel) (by decide) ?_
              rw [show ((pw_gfl (· + ·) (pw_W1 A (pw_Wr A (pw_g A 42 0) (some i) s)) ix) + 1) = (pw_gfl (· + ·) (pw_W1 A (pw_Wr A (pw_g A 42 0) (some i) s)) (ix + 1)) from pw_gfl_a (by unfold pw_W1 pw_Wr; rw [if_pos ⟨fun z => h85 (wne.mp z), h106, h119⟩])]
              refine pw_lvp [5, 6, 7, 1, 0] rfl ?_
              exact ih (by omega)

def pw_lst (A : pw_m) (k e : Nat) : Nat := match pw_sf A k e with
  | none => 0
  | some p => p.2

set_option maxHeartbeats 4000000 in
set_option maxRecDepth 100000 in
theorem c_msafest {A : pw_m} (mm : pw_m) (hv : MV A mm) (hok : pw_ok A) (k w : Int32) : pw_Ct 2 yX8_safest m_X8_safest [.ref 26, .int k, .int w] mm (fun r m' => r = some (.int (F_safest A k w)) ∧ m' = mm) := by
  refine pw_ct (by decide +kernel) rfl (Nat.le_of_ble_eq_true rfl) (fun x => ?_)
  generalize hZ : pw_Z x _ = Z
  have bn := pw_bn hok
  have bk := pw_bk hok
  show pw_V x m_X8_safest 2 Z 0 [(0, .ref 26), (1, .int k), (2, .int w)] [] mm
  refine pw_blk (pc' := 2) [.aload 0, .iload 1] (by decide +kernel) ?_
  show pw_V x m_X8_safest 2 Z 2 [(0, .ref 26), (1, .int k), (2, .int w)] [.int k, .ref 26] mm
  refine pw_cV (vs := [.int k]) (rest := []) k_X8_isKnight (c_misKnight mm hv hok k) l_8_82 rfl rfl rfl rfl (by omega) (Nat.le_of_ble_eq_true rfl) (by decide +kernel) ?_
  rintro _ m1 ⟨rfl, e1⟩
  rw [e1]
  clear e1 m1
  show pw_V x m_X8_safest 2 Z 5 [(0, .ref 26), (1, .int k), (2, .int w)] [.int (pw_b (pw_inr k (pw_k A)))] mm
  refine pw_ib_ne (tgt := 11) (off := 6) (by decide +kernel) (by decide) (fun h5 => ?_) (fun h5 => ?_)
  · obtain ⟨j5, b5, e5⟩ := pw_inr_t (by omega) h5
    subst e5
    refine pw_blk (pc' := 14) [.iload 2, .iconst 0, .iconst 1] (by decide +kernel) ?_
    show pw_V x m_X8_safest 2 Z 14 [(0, .ref 26), (1, .int (nI j5)), (2, .int w)] [.int (nI 1), .int (nI 0), .int w] mm
    refine pw_cS (vs := [.int w, .int (nI 0), .int (nI 1)]) (rest := []) k_X8_in (c_in0 w 1 mm (by first | omega | exact pw_g_lt)) l_8_78 rfl (by omega) (Nat.le_of_ble_eq_true rfl) (by decide +kernel) ?_
    rintro _ m1 ⟨rfl, e1⟩
    rw [e1]
    clear e1 m1
    show pw_V x m_X8_safest 2 Z 17 [(0, .ref 26), (1, .int (nI j5)), (2, .int w)] [.int (pw_b (pw_inr w 2))] mm
    refine pw_ib_ne (tgt := 23) (off := 6) (by decide +kernel) (by decide) (fun h17 => ?_) (fun h17 => ?_)
    · obtain ⟨j17, b17, e17⟩ := pw_inr_t (by omega) h17
      subst e17
      refine pw_blk (pc' := 31) [.iconst (-1), .istore 3, .iconst 0, .istore 4, .iconst 0, .istore 5] (by decide +kernel) ?_
      show pw_V x m_X8_safest 2 Z 31 [(5, .int (nI 0)), (4, .int (nI 0)), (3, .int (-1)), (0, .ref 26), (1, .int (nI j5)), (2, .int (nI j17))] [] mm
      refine pw_lvp [3, 4, 5, 2, 1, 0] rfl ?_
      suffices lo : ∀ ix : Nat, ix ≤ pw_n A → pw_V x m_X8_safest 2 Z 31 [(0, .ref 26), (1, .int (nI j5)), (2, .int (nI j17)), (3, .int (pw_o (((pw_sf A j5 ix).map (·.1))))), (4, .int (nI (pw_lst A j5 ix))), (5, .int (nI ix))] [] mm from lo 0 (by omega)
      refine pw_dn (pw_n A) (fun ix hix ih => ?_)
      refine pw_blk (pc' := 37) [.iload 5, .aload 0, .getfield 800] (by decide +kernel) ?_
      show pw_V x m_X8_safest 2 Z 37 [(0, .ref 26), (1, .int (nI j5)), (2, .int (nI j17)), (3, .int (pw_o (((pw_sf A j5 ix).map (·.1))))), (4, .int (nI (pw_lst A j5 ix))), (5, .int (nI ix))] [.int (mm 26 0), .int (nI ix)] mm
      rw [show mm 26 0 = nI (pw_n A) from mv_n hv hok]
      refine pw_in_ge (tgt := 110) (off := 73) (by first | omega | exact pw_g_lt) (by first | omega | exact pw_g_lt) (by decide +kernel) (by decide) (fun h37 => ?_) (fun h37 => ?_)
      · rcases hsf : pw_sf A j5 ix with _ | p
        · rw [show pw_lst A j5 ix = 0 from by unfold pw_lst; rw [hsf]]
          show pw_V x m_X8_safest 2 Z 110 [(0, .ref 26), (1, .int (nI j5)), (2, .int (nI j17)), (3, .int (-1)), (4, .int (nI 0)), (5, .int (nI ix))] [] mm
          refine pw_blk (pc' := 112) [.iload 3, .iconst (-1)] (by decide +kernel) ?_
          show pw_V x m_X8_safest 2 Z 112 [(0, .ref 26), (1, .int (nI j5)), (2, .int (nI j17)), (3, .int (-1)), (4, .int (nI 0)), (5, .int (nI ix))] [.int (-1), .int (-1)] mm
          refine pw_ic_eq (tgt := 119) (off := 7) (by decide +kernel) (by decide) (fun _ => ?_) (fun h => absurd rfl h)
          refine pw_blk (pc' := 120) [.iload 3] (by decide +kernel) ?_
          show pw_V x m_X8_safest 2 Z 120 [(0, .ref 26), (1, .int (nI j5)), (2, .int (nI j17)), (3, .int (-1)), (4, .int (nI 0)), (5, .int (nI ix))] [.int (-1)] mm
          refine pw_goto (tgt := 125) (off := 5) (by decide +kernel) (by decide) ?_
          rw [← hZ]
          refine pw_ri (by decide +kernel) ?_
          refine ⟨?_, rfl⟩
          unfold F_safest
          rw [if_pos h5]
          rw [if_pos h17, pw_c_nI (show j5 < 2 ^ 31 by omega)]
          have e : ix = pw_n A := by omega
          rw [e] at hsf
          rw [hsf]
          split <;> rfl
        · rw [show pw_lst A j5 ix = p.2 from by unfold pw_lst; rw [hsf]]
          have bp := pw_sf_b bn bk ix p hsf
          have brk := pw_rk_le (A := A) (k := j5) (s := ix) bn bk
          show pw_V x m_X8_safest 2 Z 110 [(0, .ref 26), (1, .int (nI j5)), (2, .int (nI j17)), (3, .int (nI (p.1))), (4, .int (nI (p.2))), (5, .int (nI ix))] [] mm
          refine pw_blk (pc' := 112) [.iload 3, .iconst (-1)] (by decide +kernel) ?_
          show pw_V x m_X8_safest 2 Z 112 [(0, .ref 26), (1, .int (nI j5)), (2, .int (nI j17)), (3, .int (nI (p.1))), (4, .int (nI (p.2))), (5, .int (nI ix))] [.int (-1), .int (nI (p.1))] mm
          refine pw_ic_eq (tgt := 119) (off := 7) (by decide +kernel) (by decide) (fun h => absurd h (pw_n1 (by first | omega | exact pw_g_lt))) (fun _ => ?_)
          refine pw_blk (pc' := 116) [.iload 2] (by decide +kernel) ?_
          show pw_V x m_X8_safest 2 Z 116 [(0, .ref 26), (1, .int (nI j5)), (2, .int (nI j17)), (3, .int (nI (p.1))), (4, .int (nI (p.2))), (5, .int (nI ix))] [.int (nI j17)] mm
          refine pw_iz_ne (tgt := 123) (off := 7) (by first | omega | exact pw_g_lt) (by decide +kernel) (by decide) (fun h116 => ?_) (fun h116 => ?_)
          · refine pw_blk (pc' := 125) [.iload 4] (by decide +kernel) ?_
            show pw_V x m_X8_safest 2 Z 125 [(0, .ref 26), (1, .int (nI j5)), (2, .int (nI j17)), (3, .int (nI (p.1))), (4, .int (nI (p.2))), (5, .int (nI ix))] [.int (nI (p.2))] mm
            rw [← hZ]
            refine pw_ri (by decide +kernel) ?_
            refine ⟨?_, rfl⟩
            unfold F_safest
            rw [if_pos h5]
            rw [if_pos h17, pw_c_nI (show j5 < 2 ^ 31 by omega)]
            have e : ix = pw_n A := by omega
            rw [e] at hsf
            rw [hsf]
            rw [if_neg (fun z => h116 ((nI_eq (by omega) (by omega)).mp z))]
            rfl
          · refine pw_blk (pc' := 120) [.iload 3] (by decide +kernel) ?_
            show pw_V x m_X8_safest 2 Z 120 [(0, .ref 26), (1, .int (nI j5)), (2, .int (nI j17)), (3, .int (nI (p.1))), (4, .int (nI (p.2))), (5, .int (nI ix))] [.int (nI (p.1))] mm
            refine pw_goto (tgt := 125) (off := 5) (by decide +kernel) (by decide) ?_
            rw [← hZ]
            refine pw_ri (by decide +kernel) ?_
            refine ⟨?_, rfl⟩
            unfold F_safest
            rw [if_pos h5]
            rw [if_pos h17, pw_c_nI (show j5 < 2 ^ 31 by omega)]
            have e : ix = pw_n A := by omega
            rw [e] at hsf
            rw [hsf]
            subst h116
            rw [if_pos rfl]
            rfl
      · rcases hsf : pw_sf A j5 ix with _ | p
        · rw [show pw_lst A j5 ix = 0 from by unfold pw_lst; rw [hsf]]
          show pw_V x m_X8_safest 2 Z 40 [(0, .ref 26), (1, .int (nI j5)), (2, .int (nI j17)), (3, .int (-1)), (4, .int (nI 0)), (5, .int (nI ix))] [] mm
          refine pw_blk (pc' := 44) [.aload 0, .iload 1, .iload 5] (by decide +kernel) ?_
          show pw_V x m_X8_safest 2 Z 44 [(0, .ref 26), (1, .int (nI j5)), (2, .int (nI j17)), (3, .int (-1)), (4, .int (nI 0)), (5, .int (nI ix))] [.int (nI ix), .int (nI j5), .ref 26] mm
          refine pw_cV (vs := [.int (nI j5), .int (nI ix)]) (rest := []) k_X8_fits (c_mfits mm hv hok j5 ix (by omega) (by omega)) l_8_189 rfl rfl rfl rfl (by omega) (Nat.le_of_ble_eq_true rfl) (by decide +kernel) ?_
          rintro _ m1 ⟨rfl, e1⟩
          rw [e1]
          clear e1 m1
          show pw_V x m_X8_safest 2 Z 47 [(0, .ref 26), (1, .int (nI j5)), (2, .int (nI j17)), (3, .int (-1)), (4, .int (nI 0)), (5, .int (nI ix))] [.int (pw_b (pw_fnow A j5 ix))] mm
          refine pw_ib_eq (tgt := 104) (off := 57) (by decide +kernel) (by decide) (fun h47 => ?_) (fun h47 => ?_)
          · refine pw_blk (pc' := 107) [.iinc 5 1] (by decide +kernel) ?_
            show pw_V x m_X8_safest 2 Z 107 [(5, .int ((nI ix) + (nI 1))), (0, .ref 26), (1, .int (nI j5)), (2, .int (nI j17)), (3, .int (-1)), (4, .int (nI 0))] [] mm
            rw [show (nI ix) + (nI 1) = nI (ix + 1) from nI_add _ _]
            refine pw_goto (tgt := 31) (off := -76) (by decide +kernel) (by decide) ?_
            have en : pw_sf A j5 (ix + 1) = none := by rw [pw_sf, hsf]; simp [h47]
            rw [show (-1) = pw_o (((pw_sf A j5 (ix + 1)).map (·.1))) from by rw [en]; rfl]
            rw [show nI 0 = nI (pw_lst A j5 (ix + 1)) from by unfold pw_lst; rw [en]]
            refine pw_lvp [1, 2, 3, 4, 5, 0] rfl ?_
            exact ih (by omega)
          · refine pw_blk (pc' := 54) [.aload 0, .iload 1, .iload 5] (by decide +kernel) ?_
            show pw_V x m_X8_safest 2 Z 54 [(0, .ref 26), (1, .int (nI j5)), (2, .int (nI j17)), (3, .int (-1)), (4, .int (nI 0)), (5, .int (nI ix))] [.int (nI ix), .int (nI j5), .ref 26] mm
            refine pw_cV (vs := [.int (nI j5), .int (nI ix)]) (rest := []) k_X8_dangers (c_mdangers mm hv hok j5 ix (by omega) (by omega)) l_8_255 rfl rfl rfl rfl (by omega) (Nat.le_of_ble_eq_true rfl) (by decide +kernel) ?_
            rintro _ m1 ⟨rfl, e1⟩
            rw [e1]
            clear e1 m1
            show pw_V x m_X8_safest 2 Z 57 [(0, .ref 26), (1, .int (nI j5)), (2, .int (nI j17)), (3, .int (-1)), (4, .int (nI 0)), (5, .int (nI ix))] [.int (nI (pw_rk A j5 ix))] mm
            refine pw_blk (pc' := 61) [.istore 6, .iload 3, .iconst (-1)] (by decide +kernel) ?_
            show pw_V x m_X8_safest 2 Z 61 [(6, .int (nI (pw_rk A j5 ix))), (0, .ref 26), (1, .int (nI j5)), (2, .int (nI j17)), (3, .int (-1)), (4, .int (nI 0)), (5, .int (nI ix))] [.int (-1), .int (-1)] mm
            refine pw_ic_eq (tgt := 71) (off := 10) (by decide +kernel) (by decide) (fun _ => ?_) (fun h => absurd rfl h)
            refine pw_blk (pc' := 72) [.iconst 1] (by decide +kernel) ?_
            show pw_V x m_X8_safest 2 Z 72 [(6, .int (nI (pw_rk A j5 ix))), (0, .ref 26), (1, .int (nI j5)), (2, .int (nI j17)), (3, .int (-1)), (4, .int (nI 0)), (5, .int (nI ix))] [.int (nI 1)] mm
            refine pw_goto (tgt := 76) (off := 4) (by decide +kernel) (by decide) ?_
            refine pw_blk (pc' := 80) [.istore 7, .iload 7] (by decide +kernel) ?_
            show pw_V x m_X8_safest 2 Z 80 [(7, .int (nI 1)), (6, .int (nI (pw_rk A j5 ix))), (0, .ref 26), (1, .int (nI j5)), (2, .int (nI j17)), (3, .int (-1)), (4, .int (nI 0)), (5, .int (nI ix))] [.int (nI 1)] mm
            refine pw_iz_eq (tgt := 88) (off := 8) (by omega) (by decide +kernel) (by decide) (fun h => by omega) (fun _ => ?_)
            refine pw_blk (pc' := 85) [.iload 5] (by decide +kernel) ?_
            show pw_V x m_X8_safest 2 Z 85 [(7, .int (nI 1)), (6, .int (nI (pw_rk A j5 ix))), (0, .ref 26), (1, .int (nI j5)), (2, .int (nI j17)), (3, .int (-1)), (4, .int (nI 0)), (5, .int (nI ix))] [.int (nI ix)] mm
            refine pw_goto (tgt := 89) (off := 4) (by decide +kernel) (by decide) ?_
            refine pw_blk (pc' := 92) [.istore 3, .iload 7] (by decide +kernel) ?_
            show pw_V x m_X8_safest 2 Z 92 [(3, .int (nI ix)), (7, .int (nI 1)), (6, .int (nI (pw_rk A j5 ix))), (0, .ref 26), (1, .int (nI j5)), (2, .int (nI j17)), (4, .int (nI 0)), (5, .int (nI ix))] [.int (nI 1)] mm
            refine pw_iz_eq (tgt := 100) (off := 8) (by omega) (by decide +kernel) (by decide) (fun h => by omega) (fun _ => ?_)
            refine pw_blk (pc' := 97) [.iload 6] (by decide +kernel) ?_
            show pw_V x m_X8_safest 2 Z 97 [(3, .int (nI ix)), (7, .int (nI 1)), (6, .int (nI (pw_rk A j5 ix))), (0, .ref 26), (1, .int (nI j5)), (2, .int (nI j17)), (4, .int (nI 0)), (5, .int (nI ix))] [.int (nI (pw_rk A j5 ix))] mm
            refine pw_goto (tgt := 102) (off := 5) (by decide +kernel) (by decide) ?_
            refine pw_blk (pc' := 107) [.istore 4, .iinc 5 1] (by decide +kernel) ?_
            show pw_V x m_X8_safest 2 Z 107 [(5, .int ((nI ix) + (nI 1))), (4, .int (nI (pw_rk A j5 ix))), (3, .int (nI ix)), (7, .int (nI 1)), (6, .int (nI (pw_rk A j5 ix))), (0, .ref 26), (1, .int (nI j5)), (2, .int (nI j17))] [] mm
            rw [show (nI ix) + (nI 1) = nI (ix + 1) from nI_add _ _]
            refine pw_goto (tgt := 31) (off := -76) (by decide +kernel) (by decide) ?_
            have en : pw_sf A j5 (ix + 1) = some (ix, pw_rk A j5 ix) := by rw [pw_sf, hsf]; simp [h47]
            rw [show nI ix = pw_o (((pw_sf A j5 (ix + 1)).map (·.1))) from by rw [en]; rfl]
            rw [show nI (pw_rk A j5 ix) = nI (pw_lst A j5 (ix + 1)) from by unfold pw_lst; rw [en]]
            refine pw_lvp [5, 6, 7, 2, 1, 0] rfl ?_
            exact ih (by omega)
        · rw [show pw_lst A j5 ix = p.2 from by unfold pw_lst; rw [hsf]]
          have bp := pw_sf_b bn bk ix p hsf
          have brk := pw_rk_le (A := A) (k := j5) (s := ix) bn bk
          show pw_V x m_X8_safest 2 Z 40 [(0, .ref 26), (1, .int (nI j5)), (2, .int (nI j17)), (3, .int (nI (p.1))), (4, .int (nI (p.2))), (5, .int (nI ix))] [] mm
          refine pw_blk (pc' := 44) [.aload 0, .iload 1, .iload 5] (by decide +kernel) ?_
          show pw_V x m_X8_safest 2 Z 44 [(0, .ref 26), (1, .int (nI j5)), (2, .int (nI j17)), (3, .int (nI (p.1))), (4, .int (nI (p.2))), (5, .int (nI ix))] [.int (nI ix), .int (nI j5), .ref 26] mm
          refine pw_cV (vs := [.int (nI j5), .int (nI ix)]) (rest := []) k_X8_fits (c_mfits mm hv hok j5 ix (by omega) (by omega)) l_8_189 rfl rfl rfl rfl (by omega) (Nat.le_of_ble_eq_true rfl) (by decide +kernel) ?_
          rintro _ m1 ⟨rfl, e1⟩
          rw [e1]
          clear e1 m1
          show pw_V x m_X8_safest 2 Z 47 [(0, .ref 26), (1, .int (nI j5)), (2, .int (nI j17)), (3, .int (nI (p.1))), (4, .int (nI (p.2))), (5, .int (nI ix))] [.int (pw_b (pw_fnow A j5 ix))] mm
          refine pw_ib_eq (tgt := 104) (off := 57) (by decide +kernel) (by decide) (fun h47 => ?_) (fun h47 => ?_)
          · refine pw_blk (pc' := 107) [.iinc 5 1] (by decide +kernel) ?_
            show pw_V x m_X8_safest 2 Z 107 [(5, .int ((nI ix) + (nI 1))), (0, .ref 26), (1, .int (nI j5)), (2, .int (nI j17)), (3, .int (nI (p.1))), (4, .int (nI (p.2)))] [] mm
            rw [show (nI ix) + (nI 1) = nI (ix + 1) from nI_add _ _]
            refine pw_goto (tgt := 31) (off := -76) (by decide +kernel) (by decide) ?_
            have en : pw_sf A j5 (ix + 1) = some p := by rw [pw_sf, hsf]; simp [h47]
            rw [show nI (p.1) = pw_o (((pw_sf A j5 (ix + 1)).map (·.1))) from by rw [en]; rfl]
            rw [show nI (p.2) = nI (pw_lst A j5 (ix + 1)) from by unfold pw_lst; rw [en]]
            refine pw_lvp [1, 2, 3, 4, 5, 0] rfl ?_
            exact ih (by omega)
          · refine pw_blk (pc' := 54) [.aload 0, .iload 1, .iload 5] (by decide +kernel) ?_
            show pw_V x m_X8_safest 2 Z 54 [(0, .ref 26), (1, .int (nI j5)), (2, .int (nI j17)), (3, .int (nI (p.1))), (4, .int (nI (p.2))), (5, .int (nI ix))] [.int (nI ix), .int (nI j5), .ref 26] mm
            refine pw_cV (vs := [.int (nI j5), .int (nI ix)]) (rest := []) k_X8_dangers (c_mdangers mm hv hok j5 ix (by omega) (by omega)) l_8_255 rfl rfl rfl rfl (by omega) (Nat.le_of_ble_eq_true rfl) (by decide +kernel) ?_
            rintro _ m1 ⟨rfl, e1⟩
            rw [e1]
            clear e1 m1
            show pw_V x m_X8_safest 2 Z 57 [(0, .ref 26), (1, .int (nI j5)), (2, .int (nI j17)), (3, .int (nI (p.1))), (4, .int (nI (p.2))), (5, .int (nI ix))] [.int (nI (pw_rk A j5 ix))] mm
            refine pw_blk (pc' := 61) [.istore 6, .iload 3, .iconst (-1)] (by decide +kernel) ?_
            show pw_V x m_X8_safest 2 Z 61 [(6, .int (nI (pw_rk A j5 ix))), (0, .ref 26), (1, .int (nI j5)), (2, .int (nI j17)), (3, .int (nI (p.1))), (4, .int (nI (p.2))), (5, .int (nI ix))] [.int (-1), .int (nI (p.1))] mm
            refine pw_ic_eq (tgt := 71) (off := 10) (by decide +kernel) (by decide) (fun h => absurd h (pw_n1 (by first | omega | exact pw_g_lt))) (fun _ => ?_)
            refine pw_blk (pc' := 68) [.iload 6, .iload 4] (by decide +kernel) ?_
            show pw_V x m_X8_safest 2 Z 68 [(6, .int (nI (pw_rk A j5 ix))), (0, .ref 26), (1, .int (nI j5)), (2, .int (nI j17)), (3, .int (nI (p.1))), (4, .int (nI (p.2))), (5, .int (nI ix))] [.int (nI (p.2)), .int (nI (pw_rk A j5 ix))] mm
            refine pw_in_ge (tgt := 75) (off := 7) (by first | omega | exact pw_g_lt) (by first | omega | exact pw_g_lt) (by decide +kernel) (by decide) (fun h68 => ?_) (fun h68 => ?_)
            · refine pw_blk (pc' := 80) [.iconst 0, .istore 7, .iload 7] (by decide +kernel) ?_
              show pw_V x m_X8_safest 2 Z 80 [(7, .int (nI 0)), (6, .int (nI (pw_rk A j5 ix))), (0, .ref 26), (1, .int (nI j5)), (2, .int (nI j17)), (3, .int (nI (p.1))), (4, .int (nI (p.2))), (5, .int (nI ix))] [.int (nI 0)] mm
              refine pw_iz_eq (tgt := 88) (off := 8) (by omega) (by decide +kernel) (by decide) (fun _ => ?_) (fun h => by omega)
              refine pw_blk (pc' := 92) [.iload 3, .istore 3, .iload 7] (by decide +kernel) ?_
              show pw_V x m_X8_safest 2 Z 92 [(3, .int (nI (p.1))), (7, .int (nI 0)), (6, .int (nI (pw_rk A j5 ix))), (0, .ref 26), (1, .int (nI j5)), (2, .int (nI j17)), (4, .int (nI (p.2))), (5, .int (nI ix))] [.int (nI 0)] mm
              refine pw_iz_eq (tgt := 100) (off := 8) (by omega) (by decide +kernel) (by decide) (fun _ => ?_) (fun h => by omega)
              refine pw_blk (pc' := 107) [.iload 4, .istore 4, .iinc 5 1] (by decide +kernel) ?_
              show pw_V x m_X8_safest 2 Z 107 [(5, .int ((nI ix) + (nI 1))), (4, .int (nI (p.2))), (3, .int (nI (p.1))), (7, .int (nI 0)), (6, .int (nI (pw_rk A j5 ix))), (0, .ref 26), (1, .int (nI j5)), (2, .int (nI j17))] [] mm
              rw [show (nI ix) + (nI 1) = nI (ix + 1) from nI_add _ _]
              refine pw_goto (tgt := 31) (off := -76) (by decide +kernel) (by decide) ?_
              have en : pw_sf A j5 (ix + 1) = some p := by rw [pw_sf, hsf]; simp [h47]; omega
              rw [show nI (p.1) = pw_o (((pw_sf A j5 (ix + 1)).map (·.1))) from by rw [en]; rfl]
              rw [show nI (p.2) = nI (pw_lst A j5 (ix + 1)) from by unfold pw_lst; rw [en]]
              refine pw_lvp [5, 6, 7, 2, 1, 0] rfl ?_
              exact ih (by omega)
            · refine pw_blk (pc' := 72) [.iconst 1] (by decide +kernel) ?_
              show pw_V x m_X8_safest 2 Z 72 [(6, .int (nI (pw_rk A j5 ix))), (0, .ref 26), (1, .int (nI j5)), (2, .int (nI j17)), (3, .int (nI (p.1))), (4, .int (nI (p.2))), (5, .int (nI ix))] [.int (nI 1)] mm
              refine pw_goto (tgt := 76) (off := 4) (by decide +kernel) (by decide) ?_
              refine pw_blk (pc' := 80) [.istore 7, .iload 7] (by decide +kernel) ?_
              show pw_V x m_X8_safest 2 Z 80 [(7, .int (nI 1)), (6, .int (nI (pw_rk A j5 ix))), (0, .ref 26), (1, .int (nI j5)), (2, .int (nI j17)), (3, .int (nI (p.1))), (4, .int (nI (p.2))), (5, .int (nI ix))] [.int (nI 1)] mm
              refine pw_iz_eq (tgt := 88) (off := 8) (by omega) (by decide +kernel) (by decide) (fun h => by omega) (fun _ => ?_)
              refine pw_blk (pc' := 85) [.iload 5] (by decide +kernel) ?_
              show pw_V x m_X8_safest 2 Z 85 [(7, .int (nI 1)), (6, .int (nI (pw_rk A j5 ix))), (0, .ref 26), (1, .int (nI j5)), (2, .int (nI j17)), (3, .int (nI (p.1))), (4, .int (nI (p.2))), (5, .int (nI ix))] [.int (nI ix)] mm
              refine pw_goto (tgt := 89) (off := 4) (by decide +kernel) (by decide) ?_
              refine pw_blk (pc' := 92) [.istore 3, .iload 7] (by decide +kernel) ?_
              show pw_V x m_X8_safest 2 Z 92 [(3, .int (nI ix)), (7, .int (nI 1)), (6, .int (nI (pw_rk A j5 ix))), (0, .ref 26), (1, .int (nI j5)), (2, .int (nI j17)), (4, .int (nI (p.2))), (5, .int (nI ix))] [.int (nI 1)] mm
              refine pw_iz_eq (tgt := 100) (off := 8) (by omega) (by decide +kernel) (by decide) (fun h => by omega) (fun _ => ?_)
              refine pw_blk (pc' := 97) [.iload 6] (by decide +kernel) ?_
              show pw_V x m_X8_safest 2 Z 97 [(3, .int (nI ix)), (7, .int (nI 1)), (6, .int (nI (pw_rk A j5 ix))), (0, .ref 26), (1, .int (nI j5)), (2, .int (nI j17)), (4, .int (nI (p.2))), (5, .int (nI ix))] [.int (nI (pw_rk A j5 ix))] mm
              refine pw_goto (tgt := 102) (off := 5) (by decide +kernel) (by decide) ?_
              refine pw_blk (pc' := 107) [.istore 4, .iinc 5 1] (by decide +kernel) ?_
              show pw_V x m_X8_safest 2 Z 107 [(5, .int ((nI ix) + (nI 1))), (4, .int (nI (pw_rk A j5 ix))), (3, .int (nI ix)), (7, .int (nI 1)), (6, .int (nI (pw_rk A j5 ix))), (0, .ref 26), (1, .int (nI j5)), (2, .int (nI j17))] [] mm
              rw [show (nI ix) + (nI 1) = nI (ix + 1) from nI_add _ _]
              refine pw_goto (tgt := 31) (off := -76) (by decide +kernel) (by decide) ?_
              have en : pw_sf A j5 (ix + 1) = some (ix, pw_rk A j5 ix) := by rw [pw_sf, hsf]; simp [h47, h68]
              rw [show nI ix = pw_o (((pw_sf A j5 (ix + 1)).map (·.1))) from by rw [en]; rfl]
              rw [show nI (pw_rk A j5 ix) = nI (pw_lst A j5 (ix + 1)) from by unfold pw_lst; rw [en]]
              refine pw_lvp [5, 6, 7, 2, 1, 0] rfl ?_
              exact ih (by omega)
    · refine pw_blk (pc' := 22) [.iconst (-3)] (by decide +kernel) ?_
      show pw_V x m_X8_safest 2 Z 22 [(0, .ref 26), (1, .int (nI j5)), (2, .int w)] [.int (-3)] mm
      rw [← hZ]
      refine pw_ri (by decide +kernel) ?_
      refine ⟨?_, rfl⟩
      unfold F_safest
      rw [if_pos h5]
      rw [if_neg (by rw [h17]; decide)]
  · refine pw_blk (pc' := 10) [.iconst (-2)] (by decide +kernel) ?_
    show pw_V x m_X8_safest 2 Z 10 [(0, .ref 26), (1, .int k), (2, .int w)] [.int (-2)] mm
    rw [← hZ]
    refine pw_ri (by decide +kernel) ?_
    refine ⟨?_, rfl⟩
    unfold F_safest
    rw [if_neg (by rw [h5]; decide)]
