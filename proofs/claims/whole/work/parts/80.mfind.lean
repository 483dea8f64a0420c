def pw_clI (B : pw_m) (e : Nat) : pw_m := fun c => if c = 40 then (fun j => if j < e then -1 else B 40 j) else if c = 41 then (fun j => if j < e then -1 else B 41 j) else if c = 26 then upd (upd (upd (B 26) 34 (nI 0)) 36 (nI 0)) 37 (nI 0) else B c
theorem pw_clI_0 {B : pw_m} : pw_up (pw_up (pw_up B 26 34 (nI 0)) 26 36 (nI 0)) 26 37 (nI 0) = pw_clI B 0 := by
  funext c
  by_cases h : c = 26
  · subst h
    rw [pw_up_eq, pw_up_eq, pw_up_eq]
    unfold pw_clI
    rw [if_neg (by omega), if_neg (by omega), if_pos rfl]
  · rw [pw_up_ne h, pw_up_ne h, pw_up_ne h]
    unfold pw_clI
    by_cases h1 : c = 40
    · subst h1; rw [if_pos rfl]; funext j; rw [if_neg (by omega)]
    · rw [if_neg h1]
      by_cases h2 : c = 41
      · subst h2; rw [if_pos rfl]; funext j; rw [if_neg (by omega)]
      · rw [if_neg h2, if_neg h]
theorem pw_clI_s {B : pw_m} {e : Nat} : pw_up (pw_up (pw_clI B e) 40 e (-1)) 41 e (-1) = pw_clI B (e + 1) := by
  funext c
  by_cases h1 : c = 40
  · subst h1
    rw [pw_up_ne (by omega), pw_up_eq]
    unfold pw_clI upd
    rw [if_pos rfl, if_pos rfl]
    funext j
    by_cases q : j = e
    · rw [if_pos q, if_pos (by omega)]
    · rw [if_neg q]
      by_cases q2 : j < e
      · rw [if_pos q2, if_pos (by omega)]
      · rw [if_neg q2, if_neg (by omega)]
  · by_cases h2 : c = 41
    · subst h2
      rw [pw_up_eq, pw_up_ne (by omega)]
      unfold pw_clI upd
      rw [if_neg (by omega), if_pos rfl, if_neg (by omega), if_pos rfl]
      funext j
      by_cases q : j = e
      · rw [if_pos q, if_pos (by omega)]
      · rw [if_neg q]
        by_cases q2 : j < e
        · rw [if_pos q2, if_pos (by omega)]
        · rw [if_neg q2, if_neg (by omega)]
    · rw [pw_up_ne h2, pw_up_ne h1]; unfold pw_clI; rw [if_neg h1, if_neg h1, if_neg h2, if_neg h2]
theorem pw_clI_6 {A B : pw_m} : pw_clI B 6 = pw_sM B (pw_SA A (fun _ => 0) 0) (0, 0, 0, fun _ => none) := by
  funext c
  unfold pw_clI pw_sM
  by_cases h1 : c = 40
  · rw [if_pos h1, if_pos h1]
    funext j
    have e : pw_SA A (fun _ => 0) 0 j = none := by unfold pw_SA pw_sg; rw [if_neg (by omega)]
    rw [e]; rfl
  · rw [if_neg h1, if_neg h1]
    by_cases h2 : c = 41
    · rw [if_pos h2, if_pos h2]; rfl
    · rw [if_neg h2, if_neg h2]

set_option maxHeartbeats 4000000 in
set_option maxRecDepth 100000 in
theorem cL_mfind {A : pw_m} (B : pw_m) (hl : MV A (pw_up B 26 33 (-1))) (hok : pw_ok A) (q : Option Nat) (hq : B 26 33 = pw_o q) (hqb : ∀ a, q = some a → a < 8) (w : Nat) (hw : w < 4) : pw_Ct 4 yX8_findSeatings m_X8_findSeatings [.ref 26, .int (nI w)] B (fun r m' => r = none ∧ ∃ g, m' = pw_sM B g (pw_acc A w (0, 0, 0, fun _ => none) (pw_LA A q (pw_k A) (fun _ => 0) 0))) := by
  refine pw_ct (by decide +kernel) rfl (Nat.le_of_ble_eq_true rfl) (fun x => ?_)
  generalize hZ : pw_Z x _ = Z
  have bn := pw_bn hok
  have bk := pw_bk hok
  have P : ∀ fx kx : Nat, ∀ pl : Nat → Nat, ∀ us : Nat, ∀ ac : pw_ac, kx + (fx + 1) = pw_k A → (pw_g A 42 1).testBit kx = true → pw_PI A pl kx us → pw_ab_ ac (pw_LA A q (fx + 1) pl us).length → pw_V x m_X8_findSeatings 4 Z 63 [(0, .ref 26), (1, .int (nI w)), (2, .int (pw_o ((pw_lf (fun j => (pw_g A 42 1).testBit j) kx))))] [] (pw_sM B (pw_SA A pl kx) (pw_acc A w ac (pw_LA A q (fx + 1) pl us))) → pw_V x m_X8_findSeatings 4 Z 63 [(0, .ref 26), (1, .int (nI w)), (2, .int (nI kx))] [] (pw_sM B (pw_SA A pl kx) ac) := by
    intro fx
    induction fx using Nat.strongRecOn with
    | ind fx IH =>
      intro kx pl us ac0 hkf hth hPI hb0 hc0
      have hgb : ∀ j a, j < 6 → pw_SA A pl kx j = some a → a < 8 := fun j a _ z => by have z1 := pw_SA_some.mp z; have z2 := hPI.1 j z1.1 z1.2.1; omega
      have res : ∀ sx : Nat, sx < pw_n A → ∀ ac : pw_ac, pw_V x m_X8_findSeatings 4 Z 93 [(0, .ref 26), (1, .int (nI w)), (2, .int (nI kx)), (3, .int (nI (sx + 1)))] [] (pw_sM B (pw_SA A pl kx) ac) → pw_V x m_X8_findSeatings 4 Z 63 [(0, .ref 26), (1, .int (nI w)), (2, .int (nI kx))] [] (pw_sM B (pw_SA A (pw_ns pl kx sx) (kx + 1)) ac) := by
        intro sx hsx ac hR
        refine pw_blk (pc' := 71) [.iload 2, .iconst 0, .aload 0, .getfield 802, .iconst 1, .isub] (by decide +kernel) ?_
        show pw_V x m_X8_findSeatings 4 Z 71 [(0, .ref 26), (1, .int (nI w)), (2, .int (nI kx))] [.int (((pw_sM B (pw_SA A (pw_ns pl kx sx) (kx + 1)) ac) 26 2) - (nI 1)), .int (nI 0), .int (nI kx)] (pw_sM B (pw_SA A (pw_ns pl kx sx) (kx + 1)) ac)
        rw [show (pw_sM B (pw_SA A (pw_ns pl kx sx) (kx + 1)) ac) 26 2 = nI (pw_k A) from ((pw_sM_6 (by omega) (by omega) (by omega)).trans (mv_k (B := pw_up B 26 33 (-1)) hl hok))]
        refine pw_cS (vs := [.int (nI kx), .int (nI 0), .int ((nI (pw_k A)) - (nI 1))]) (rest := []) k_X8_in (c_in1 (nI kx) (pw_k A) (pw_sM B (pw_SA A (pw_ns pl kx sx) (kx + 1)) ac) (by omega)) l_8_78 rfl (by omega) (Nat.le_of_ble_eq_true rfl) (by decide +kernel) ?_
        rintro _ m1 ⟨rfl, e1⟩
        rw [e1]
        clear e1 m1
        show pw_V x m_X8_findSeatings 4 Z 74 [(0, .ref 26), (1, .int (nI w)), (2, .int (nI kx))] [.int (pw_b (pw_inr (nI kx) (pw_k A)))] (pw_sM B (pw_SA A (pw_ns pl kx sx) (kx + 1)) ac)
        have i71 : pw_inr (nI kx) (pw_k A) = true := by rw [pw_inr_nI (by omega) (by omega)]; exact decide_eq_true (by omega)
        refine pw_ib_eq (tgt := 172) (off := 98) (by decide +kernel) (by decide) (fun h74 => ?_) (fun h74 => ?_)
        · rw [i71] at h74; cases h74
        · refine pw_blk (pc' := 85) [.aload 0, .getfield 832, .iload 2, .iaload, .iconst 1, .iadd] (by decide +kernel) ?_
          refine ⟨kx, rfl, by first | omega | exact pw_g_lt, ?_⟩
          show pw_V x m_X8_findSeatings 4 Z 85 [(0, .ref 26), (1, .int (nI w)), (2, .int (nI kx))] [.int (((pw_sM B (pw_SA A (pw_ns pl kx sx) (kx + 1)) ac) 40 kx) + (nI 1))] (pw_sM B (pw_SA A (pw_ns pl kx sx) (kx + 1)) ac)
          rw [show (pw_sM B (pw_SA A (pw_ns pl kx sx) (kx + 1)) ac) 40 kx = pw_o ((pw_SA A (pw_ns pl kx sx) (kx + 1)) kx) from pw_sM_40 (by omega)]
          rw [show (pw_o ((pw_SA A (pw_ns pl kx sx) (kx + 1)) kx)) + (nI 1) = nI (sx + 1) from by rw [pw_SA_ks hth]; exact nI_add sx 1]
          refine pw_blk (pc' := 93) [.istore 3, .aload 0, .getfield 832, .iload 2, .iconst (-1), .iastore] (by decide +kernel) ?_
          refine ⟨kx, rfl, by first | omega | exact pw_g_lt, ?_⟩
          show pw_V x m_X8_findSeatings 4 Z 93 [(3, .int (nI (sx + 1))), (0, .ref 26), (1, .int (nI w)), (2, .int (nI kx))] [] (pw_up (pw_sM B (pw_SA A (pw_ns pl kx sx) (kx + 1)) ac) 40 kx (-1))
          rw [show pw_up (pw_sM B (pw_SA A (pw_ns pl kx sx) (kx + 1)) ac) 40 kx (-1) = pw_sM B (pw_SA A pl kx) ac from by rw [show (-1 : Int32) = pw_o none from rfl, pw_sM_up (by omega), pw_SA_clr]]
          refine pw_lvp [1, 2, 3, 0] rfl ?_
          exact hR
      have R : ∀ sx : Nat, sx ≤ pw_n A → ∀ ac : pw_ac, pw_ab_ ac (pw_lsG (pw_gL A q fx kx pl us) (pw_n A - sx) sx).length → pw_V x m_X8_findSeatings 4 Z 63 [(0, .ref 26), (1, .int (nI w)), (2, .int (pw_o ((pw_lf (fun j => (pw_g A 42 1).testBit j) kx))))] [] (pw_sM B (pw_SA A pl kx) (pw_acc A w ac (pw_lsG (pw_gL A q fx kx pl us) (pw_n A - sx) sx))) → pw_V x m_X8_findSeatings 4 Z 93 [(0, .ref 26), (1, .int (nI w)), (2, .int (nI kx)), (3, .int (nI sx))] [] (pw_sM B (pw_SA A pl kx) ac) := by
        refine pw_dn (pw_n A) (fun sx hsx ih ac hb hc => ?_)
        refine pw_blk (pc' := 98) [.iload 3, .aload 0, .getfield 800] (by decide +kernel) ?_
        show pw_V x m_X8_findSeatings 4 Z 98 [(0, .ref 26), (1, .int (nI w)), (2, .int (nI kx)), (3, .int (nI sx))] [.int ((pw_sM B (pw_SA A pl kx) ac) 26 0), .int (nI sx)] (pw_sM B (pw_SA A pl kx) ac)
        rw [show (pw_sM B (pw_SA A pl kx) ac) 26 0 = nI (pw_n A) from ((pw_sM_6 (by omega) (by omega) (by omega)).trans (mv_n (B := pw_up B 26 33 (-1)) hl hok))]
        refine pw_in_ge (tgt := 116) (off := 18) (by first | omega | exact pw_g_lt) (by first | omega | exact pw_g_lt) (by decide +kernel) (by decide) (fun h98 => ?_) (fun h98 => ?_)
        · refine pw_blk (pc' := 121) [.iload 3, .aload 0, .getfield 800] (by decide +kernel) ?_
          show pw_V x m_X8_findSeatings 4 Z 121 [(0, .ref 26), (1, .int (nI w)), (2, .int (nI kx)), (3, .int (nI sx))] [.int ((pw_sM B (pw_SA A pl kx) ac) 26 0), .int (nI sx)] (pw_sM B (pw_SA A pl kx) ac)
          rw [show (pw_sM B (pw_SA A pl kx) ac) 26 0 = nI (pw_n A) from ((pw_sM_6 (by omega) (by omega) (by omega)).trans (mv_n (B := pw_up B 26 33 (-1)) hl hok))]
          refine pw_in_lt (tgt := 134) (off := 13) (by first | omega | exact pw_g_lt) (by first | omega | exact pw_g_lt) (by decide +kernel) (by decide) (fun h121 => ?_) (fun h121 => ?_)
          · omega
          · refine pw_blk (pc' := 127) [.aload 0, .iload 2, .iconst (-1)] (by decide +kernel) ?_
            show pw_V x m_X8_findSeatings 4 Z 127 [(0, .ref 26), (1, .int (nI w)), (2, .int (nI kx)), (3, .int (nI sx))] [.int (-1), .int (nI kx), .ref 26] (pw_sM B (pw_SA A pl kx) ac)
            refine pw_cV (vs := [.int (nI kx), .int (-1)]) (rest := []) k_X8_nextThere (cL_mnxB (pw_sM B (pw_SA A pl kx) ac) (mvL_s hl) hok kx (by omega)) l_8_240 rfl rfl rfl rfl (by omega) (Nat.le_of_ble_eq_true rfl) (by decide +kernel) ?_
            rintro _ m1 ⟨rfl, e1⟩
            rw [e1]
            clear e1 m1
            show pw_V x m_X8_findSeatings 4 Z 130 [(0, .ref 26), (1, .int (nI w)), (2, .int (nI kx)), (3, .int (nI sx))] [.int (pw_o ((pw_lf (fun j => (pw_g A 42 1).testBit j) kx)))] (pw_sM B (pw_SA A pl kx) ac)
            refine pw_blk (pc' := 131) [.istore 2] (by decide +kernel) ?_
            show pw_V x m_X8_findSeatings 4 Z 131 [(2, .int (pw_o ((pw_lf (fun j => (pw_g A 42 1).testBit j) kx)))), (0, .ref 26), (1, .int (nI w)), (3, .int (nI sx))] [] (pw_sM B (pw_SA A pl kx) ac)
            refine pw_goto (tgt := 169) (off := 38) (by decide +kernel) (by decide) ?_
            refine pw_goto (tgt := 63) (off := -106) (by decide +kernel) (by decide) ?_
            refine pw_lvp [1, 2, 0] rfl ?_
            rw [show pw_n A - sx = 0 by omega] at hc
            exact hc
        · refine pw_blk (pc' := 104) [.aload 0, .iload 2, .iload 3] (by decide +kernel) ?_
          show pw_V x m_X8_findSeatings 4 Z 104 [(0, .ref 26), (1, .int (nI w)), (2, .int (nI kx)), (3, .int (nI sx))] [.int (nI sx), .int (nI kx), .ref 26] (pw_sM B (pw_SA A pl kx) ac)
          refine pw_cV (vs := [.int (nI kx), .int (nI sx)]) (rest := []) k_X8_maySit (cL_mmay (pw_sM B (pw_SA A pl kx) ac) (mvL_s hl) hok (pw_SA A pl kx) (fun j hj => pw_sM_40 hj) hgb q ((pw_sM_6 (by omega) (by omega) (by omega)).trans hq) hqb kx sx (by omega) (by omega)) l_8_246 rfl rfl rfl rfl (by omega) (Nat.le_of_ble_eq_true rfl) (by decide +kernel) ?_
          rintro _ m1 ⟨rfl, e1⟩
          rw [e1]
          clear e1 m1
          show pw_V x m_X8_findSeatings 4 Z 107 [(0, .ref 26), (1, .int (nI w)), (2, .int (nI kx)), (3, .int (nI sx))] [.int (pw_b (pw_may A q (pw_SA A pl kx) kx sx))] (pw_sM B (pw_SA A pl kx) ac)
          refine pw_ib_ne (tgt := 116) (off := 9) (by decide +kernel) (by decide) (fun h107 => ?_) (fun h107 => ?_)
          · refine pw_blk (pc' := 121) [.iload 3, .aload 0, .getfield 800] (by decide +kernel) ?_
            show pw_V x m_X8_findSeatings 4 Z 121 [(0, .ref 26), (1, .int (nI w)), (2, .int (nI kx)), (3, .int (nI sx))] [.int ((pw_sM B (pw_SA A pl kx) ac) 26 0), .int (nI sx)] (pw_sM B (pw_SA A pl kx) ac)
            rw [show (pw_sM B (pw_SA A pl kx) ac) 26 0 = nI (pw_n A) from ((pw_sM_6 (by omega) (by omega) (by omega)).trans (mv_n (B := pw_up B 26 33 (-1)) hl hok))]
            refine pw_in_lt (tgt := 134) (off := 13) (by first | omega | exact pw_g_lt) (by first | omega | exact pw_g_lt) (by decide +kernel) (by decide) (fun h121 => ?_) (fun h121 => ?_)
            · refine pw_blk (pc' := 141) [.aload 0, .getfield 832, .iload 2, .iload 3, .iastore] (by decide +kernel) ?_
              refine ⟨kx, rfl, by first | omega | exact pw_g_lt, ?_⟩
              show pw_V x m_X8_findSeatings 4 Z 141 [(0, .ref 26), (1, .int (nI w)), (2, .int (nI kx)), (3, .int (nI sx))] [] (pw_up (pw_sM B (pw_SA A pl kx) ac) 40 kx (nI sx))
              have hlt : sx < pw_n A := by omega
              have hfr : (pw_frA A q kx pl us).testBit sx = true := by rw [← pw_may_free (by omega) hlt hPI]; exact h107
              have hP1 := pw_PI_put hPI hlt (pw_fr_us hfr) hth
              have hs0 : (pw_lsG (pw_gL A q fx kx pl us) (pw_n A - sx) sx) = pw_LA A q fx (pw_ns pl kx sx) (us ||| 2 ^ sx) ++ (pw_lsG (pw_gL A q fx kx pl us) (pw_n A - (sx + 1)) (sx + 1)) := by rw [show pw_n A - sx = (pw_n A - (sx + 1)) + 1 by omega, pw_lsG, show pw_gL A q fx kx pl us sx = pw_LA A q fx (pw_ns pl kx sx) (us ||| 2 ^ sx) from by unfold pw_gL; rw [if_pos hfr]]
              obtain ⟨n1, n2, n3, n4⟩ := pw_nf_spec (th := (pw_g A 42 1)) (kn := pw_k A) (pw_k A - (kx + 1)) (kx + 1) (by omega)
              have hsk0 := pw_SA_skip (pl := (pw_ns pl kx sx)) n1 n3
              have hl0 := pw_LA_skip (q := q) (us := us ||| 2 ^ sx) (pl := (pw_ns pl kx sx)) (pw_nf (pw_g A 42 1) (pw_k A) (kx + 1) - (kx + 1)) (kx + 1) (by omega) (fun j h1 h2 => n3 j h1 (by omega))
              rw [show pw_k A - (kx + 1) = fx by omega, show kx + 1 + (pw_nf (pw_g A 42 1) (pw_k A) (kx + 1) - (kx + 1)) = pw_nf (pw_g A 42 1) (pw_k A) (kx + 1) by omega] at hl0
              rw [show pw_up (pw_sM B (pw_SA A pl kx) ac) 40 kx (nI sx) = pw_sM B (pw_SA A (pw_ns pl kx sx) (kx + 1)) ac from by rw [show nI sx = pw_o (some sx) from rfl, pw_sM_up (by omega), pw_SA_put hth]]
              refine pw_blk (pc' := 144) [.aload 0, .iload 2, .iconst 1] (by decide +kernel) ?_
              show pw_V x m_X8_findSeatings 4 Z 144 [(0, .ref 26), (1, .int (nI w)), (2, .int (nI kx)), (3, .int (nI sx))] [.int (nI 1), .int (nI kx), .ref 26] (pw_sM B (pw_SA A (pw_ns pl kx sx) (kx + 1)) ac)
              refine pw_cV (vs := [.int (nI kx), .int (nI 1)]) (rest := []) k_X8_nextThere (cL_mnxF (pw_sM B (pw_SA A (pw_ns pl kx sx) (kx + 1)) ac) (mvL_s hl) hok (nI kx) (kx + 1) (nI_add kx 1) (by omega)) l_8_240 rfl rfl rfl rfl (by omega) (Nat.le_of_ble_eq_true rfl) (by decide +kernel) ?_
              rintro _ m1 ⟨rfl, e1⟩
              rw [e1]
              clear e1 m1
              show pw_V x m_X8_findSeatings 4 Z 147 [(0, .ref 26), (1, .int (nI w)), (2, .int (nI kx)), (3, .int (nI sx))] [.int (nI (pw_nf (pw_g A 42 1) (pw_k A) (kx + 1)))] (pw_sM B (pw_SA A (pw_ns pl kx sx) (kx + 1)) ac)
              refine pw_blk (pc' := 151) [.aload 0, .getfield 802] (by decide +kernel) ?_
              show pw_V x m_X8_findSeatings 4 Z 151 [(0, .ref 26), (1, .int (nI w)), (2, .int (nI kx)), (3, .int (nI sx))] [.int ((pw_sM B (pw_SA A (pw_ns pl kx sx) (kx + 1)) ac) 26 2), .int (nI (pw_nf (pw_g A 42 1) (pw_k A) (kx + 1)))] (pw_sM B (pw_SA A (pw_ns pl kx sx) (kx + 1)) ac)
              rw [show (pw_sM B (pw_SA A (pw_ns pl kx sx) (kx + 1)) ac) 26 2 = nI (pw_k A) from ((pw_sM_6 (by omega) (by omega) (by omega)).trans (mv_k (B := pw_up B 26 33 (-1)) hl hok))]
              refine pw_in_ne (tgt := 162) (off := 11) (by first | omega | exact pw_g_lt) (by first | omega | exact pw_g_lt) (by decide +kernel) (by decide) (fun h151 => ?_) (fun h151 => ?_)
              · obtain ⟨ky, hky⟩ : ∃ ky, ky = pw_nf (pw_g A 42 1) (pw_k A) (kx + 1) := ⟨_, rfl⟩
                rw [← hky] at n1 n2 n3 n4 hsk0 hl0 h151
                have hky2 : ky < pw_k A := by omega
                have hty := n4 hky2
                have hsk := hsk0
                have hsp := hs0
                have hPy := pw_PI_skip hP1 n1 n3
                have hly : pw_lf (fun j => (pw_g A 42 1).testBit j) ky = some kx := by
                  have z := pw_lf_at (p := fun j => (pw_g A 42 1).testBit j) (k := kx) hth (ky - (kx + 1)) (fun j h1 h2 => n3 j (by omega) (by omega))
                  rw [show kx + 1 + (ky - (kx + 1)) = ky by omega] at z
                  exact z
                rw [show pw_k A - ky = pw_k A - (ky + 1) + 1 by omega] at hl0
                rw [hl0] at hsp
                refine pw_blk (pc' := 165) [.aload 0, .iload 2, .iconst 1] (by decide +kernel) ?_
                show pw_V x m_X8_findSeatings 4 Z 165 [(0, .ref 26), (1, .int (nI w)), (2, .int (nI kx)), (3, .int (nI sx))] [.int (nI 1), .int (nI kx), .ref 26] (pw_sM B (pw_SA A (pw_ns pl kx sx) (kx + 1)) ac)
                refine pw_cV (vs := [.int (nI kx), .int (nI 1)]) (rest := []) k_X8_nextThere (cL_mnxF (pw_sM B (pw_SA A (pw_ns pl kx sx) (kx + 1)) ac) (mvL_s hl) hok (nI kx) (kx + 1) (nI_add kx 1) (by omega)) l_8_240 rfl rfl rfl rfl (by omega) (Nat.le_of_ble_eq_true rfl) (by decide +kernel) ?_
                rintro _ m1 ⟨rfl, e1⟩
                rw [e1]
                clear e1 m1
                show pw_V x m_X8_findSeatings 4 Z 168 [(0, .ref 26), (1, .int (nI w)), (2, .int (nI kx)), (3, .int (nI sx))] [.int (nI (pw_nf (pw_g A 42 1) (pw_k A) (kx + 1)))] (pw_sM B (pw_SA A (pw_ns pl kx sx) (kx + 1)) ac)
                rw [← hky]
                refine pw_blk (pc' := 169) [.istore 2] (by decide +kernel) ?_
                show pw_V x m_X8_findSeatings 4 Z 169 [(2, .int (nI ky)), (0, .ref 26), (1, .int (nI w)), (3, .int (nI sx))] [] (pw_sM B (pw_SA A (pw_ns pl kx sx) (kx + 1)) ac)
                refine pw_goto (tgt := 63) (off := -106) (by decide +kernel) (by decide) ?_
                refine pw_lvp [1, 2, 0] rfl ?_
                rw [show pw_SA A (pw_ns pl kx sx) (kx + 1) = pw_SA A (pw_ns pl kx sx) ky from hsk]
                refine IH (pw_k A - (ky + 1)) (by omega) ky (pw_ns pl kx sx) (us ||| 2 ^ sx) ac (by omega) hty hPy ?_ ?_
                · exact ⟨by have := hb.1; rw [hsp, List.length_append] at this; omega, hb.2⟩
                · rw [hly, ← hsk]
                  refine res sx hlt _ (ih (by omega) _ ?_ ?_)
                  · rw [hsp, List.length_append] at hb; exact pw_acc_b bk _ _ _ hb
                  · rw [hsp, pw_acc_a] at hc; exact hc
              · have hsk : pw_SA A (pw_ns pl kx sx) (kx + 1) = pw_SA A (pw_ns pl kx sx) (pw_k A) := by rw [hsk0, h151]
                have hl1 : pw_LA A q fx (pw_ns pl kx sx) (us ||| 2 ^ sx) = [(pw_ns pl kx sx)] := by rw [hl0, h151, Nat.sub_self]; rfl
                have hsp : (pw_lsG (pw_gL A q fx kx pl us) (pw_n A - sx) sx) = (pw_ns pl kx sx) :: (pw_lsG (pw_gL A q fx kx pl us) (pw_n A - (sx + 1)) (sx + 1)) := by rw [hs0, hl1]; rfl
                have hgb1 : ∀ j a, j < 6 → pw_SA A (pw_ns pl kx sx) (kx + 1) j = some a → a < 8 := fun j a _ z => by have z1 := pw_SA_some.mp z; have z2 := hP1.1 j z1.1 z1.2.1; omega
                have hgn1 : ∀ i, i < pw_k A → (pw_g A 42 1).testBit i = true → ∃ ss, ss < pw_n A ∧ pw_SA A (pw_ns pl kx sx) (kx + 1) i = some ss := fun i hi hti => by
                  have hik : i < kx + 1 := by
                    rcases Nat.lt_or_ge i (kx + 1) with z | z
                    · exact z
                    · rw [n3 i z (by omega)] at hti; cases hti
                  exact ⟨_, hP1.1 i hik hti, pw_SA_some.mpr ⟨hik, hti, rfl⟩⟩
                refine pw_blk (pc' := 156) [.aload 0, .iload 1] (by decide +kernel) ?_
                show pw_V x m_X8_findSeatings 4 Z 156 [(0, .ref 26), (1, .int (nI w)), (2, .int (nI kx)), (3, .int (nI sx))] [.int (nI w), .ref 26] (pw_sM B (pw_SA A (pw_ns pl kx sx) (kx + 1)) ac)
                refine pw_cV (vs := [.int (nI w)]) (rest := []) k_X8_finds (cL_mfinds B hl hok (pw_SA A (pw_ns pl kx sx) (kx + 1)) hgb1 hgn1 ac ⟨by have := hb.1; omega, by have := hb.2.1; omega, by have := hb.2.2; omega⟩ w hw) l_8_243 rfl rfl rfl rfl (by omega) (Nat.le_of_ble_eq_true rfl) (by decide +kernel) ?_
                rintro _ m1 ⟨rfl, e1⟩
                rw [e1]
                clear e1 m1
                show pw_V x m_X8_findSeatings 4 Z 159 [(0, .ref 26), (1, .int (nI w)), (2, .int (nI kx)), (3, .int (nI sx))] [] (pw_sM B (pw_SA A (pw_ns pl kx sx) (kx + 1)) (pw_fin A w (pw_SA A (pw_ns pl kx sx) (kx + 1)) ac))
                refine pw_goto (tgt := 169) (off := 10) (by decide +kernel) (by decide) ?_
                refine pw_goto (tgt := 63) (off := -106) (by decide +kernel) (by decide) ?_
                refine pw_lvp [0, 1, 2] rfl ?_
                refine res sx hlt _ (ih (by omega) _ ?_ ?_)
                · rw [hsp, List.length_cons] at hb; rw [show pw_SA A (pw_ns pl kx sx) (kx + 1) = pw_SA A (pw_ns pl kx sx) (pw_k A) from hsk]; exact pw_fin_b bk hb
                · rw [hsp] at hc; rw [show pw_SA A (pw_ns pl kx sx) (kx + 1) = pw_SA A (pw_ns pl kx sx) (pw_k A) from hsk]; exact hc
            · omega
          · refine pw_blk (pc' := 113) [.iinc 3 1] (by decide +kernel) ?_
            show pw_V x m_X8_findSeatings 4 Z 113 [(3, .int ((nI sx) + (nI 1))), (0, .ref 26), (1, .int (nI w)), (2, .int (nI kx))] [] (pw_sM B (pw_SA A pl kx) ac)
            rw [show (nI sx) + (nI 1) = nI (sx + 1) from nI_add _ _]
            refine pw_goto (tgt := 93) (off := -20) (by decide +kernel) (by decide) ?_
            have hfr : (pw_frA A q kx pl us).testBit sx = false := by rw [← pw_may_free (by omega) (by omega) hPI]; exact h107
            have hsp : (pw_lsG (pw_gL A q fx kx pl us) (pw_n A - sx) sx) = (pw_lsG (pw_gL A q fx kx pl us) (pw_n A - (sx + 1)) (sx + 1)) := by rw [show pw_n A - sx = (pw_n A - (sx + 1)) + 1 by omega, pw_lsG, show pw_gL A q fx kx pl us sx = [] from by unfold pw_gL; rw [if_neg (by rw [hfr]; decide)], List.nil_append]
            rw [hsp] at hb hc
            refine pw_lvp [1, 2, 3, 0] rfl ?_
            exact ih (by omega) ac hb hc
      refine pw_blk (pc' := 71) [.iload 2, .iconst 0, .aload 0, .getfield 802, .iconst 1, .isub] (by decide +kernel) ?_
      show pw_V x m_X8_findSeatings 4 Z 71 [(0, .ref 26), (1, .int (nI w)), (2, .int (nI kx))] [.int (((pw_sM B (pw_SA A pl kx) ac0) 26 2) - (nI 1)), .int (nI 0), .int (nI kx)] (pw_sM B (pw_SA A pl kx) ac0)
      rw [show (pw_sM B (pw_SA A pl kx) ac0) 26 2 = nI (pw_k A) from ((pw_sM_6 (by omega) (by omega) (by omega)).trans (mv_k (B := pw_up B 26 33 (-1)) hl hok))]
      refine pw_cS (vs := [.int (nI kx), .int (nI 0), .int ((nI (pw_k A)) - (nI 1))]) (rest := []) k_X8_in (c_in1 (nI kx) (pw_k A) (pw_sM B (pw_SA A pl kx) ac0) (by omega)) l_8_78 rfl (by omega) (Nat.le_of_ble_eq_true rfl) (by decide +kernel) ?_
      rintro _ m1 ⟨rfl, e1⟩
      rw [e1]
      clear e1 m1
      show pw_V x m_X8_findSeatings 4 Z 74 [(0, .ref 26), (1, .int (nI w)), (2, .int (nI kx))] [.int (pw_b (pw_inr (nI kx) (pw_k A)))] (pw_sM B (pw_SA A pl kx) ac0)
      have i71 : pw_inr (nI kx) (pw_k A) = true := by rw [pw_inr_nI (by omega) (by omega)]; exact decide_eq_true (by omega)
      refine pw_ib_eq (tgt := 172) (off := 98) (by decide +kernel) (by decide) (fun h74 => ?_) (fun h74 => ?_)
      · rw [i71] at h74; cases h74
      · refine pw_blk (pc' := 85) [.aload 0, .getfield 832, .iload 2, .iaload, .iconst 1, .iadd] (by decide +kernel) ?_
        refine ⟨kx, rfl, by first | omega | exact pw_g_lt, ?_⟩
        show pw_V x m_X8_findSeatings 4 Z 85 [(0, .ref 26), (1, .int (nI w)), (2, .int (nI kx))] [.int (((pw_sM B (pw_SA A pl kx) ac0) 40 kx) + (nI 1))] (pw_sM B (pw_SA A pl kx) ac0)
        rw [show (pw_sM B (pw_SA A pl kx) ac0) 40 kx = pw_o ((pw_SA A pl kx) kx) from pw_sM_40 (by omega)]
        rw [show (pw_o ((pw_SA A pl kx) kx)) + (nI 1) = nI 0 from by rw [pw_SA_k]; decide]
        refine pw_blk (pc' := 93) [.istore 3, .aload 0, .getfield 832, .iload 2, .iconst (-1), .iastore] (by decide +kernel) ?_
        refine ⟨kx, rfl, by first | omega | exact pw_g_lt, ?_⟩
        show pw_V x m_X8_findSeatings 4 Z 93 [(3, .int (nI 0)), (0, .ref 26), (1, .int (nI w)), (2, .int (nI kx))] [] (pw_up (pw_sM B (pw_SA A pl kx) ac0) 40 kx (-1))
        rw [show pw_up (pw_sM B (pw_SA A pl kx) ac0) 40 kx (-1) = pw_sM B (pw_SA A pl kx) ac0 from by rw [show (-1 : Int32) = pw_o none from rfl, pw_sM_up (by omega), pw_SA_clr0]]
        refine pw_lvp [1, 2, 3, 0] rfl ?_
        exact R 0 (by omega) ac0 (by rw [Nat.sub_zero, ← pw_LA_t hkf hth]; exact hb0) (by rw [Nat.sub_zero, ← pw_LA_t hkf hth]; exact hc0)
  show pw_V x m_X8_findSeatings 4 Z 0 [(0, .ref 26), (1, .int (nI w))] [] B
  refine pw_blk (pc' := 17) [.aload 0, .iconst 0, .putfield 834, .aload 0, .iconst 0, .putfield 836, .aload 0, .iconst 0, .putfield 837, .iconst 0, .istore 2] (by decide +kernel) ?_
  show pw_V x m_X8_findSeatings 4 Z 17 [(2, .int (nI 0)), (0, .ref 26), (1, .int (nI w))] [] (pw_up (pw_up (pw_up B 26 34 (nI 0)) 26 36 (nI 0)) 26 37 (nI 0))
  refine pw_lvp [1, 2, 0] rfl ?_
  rw [show pw_up (pw_up (pw_up B 26 34 (nI 0)) 26 36 (nI 0)) 26 37 (nI 0) = pw_clI B 0 from pw_clI_0]
  suffices lo : ∀ ix : Nat, ix ≤ 6 → pw_V x m_X8_findSeatings 4 Z 17 [(0, .ref 26), (1, .int (nI w)), (2, .int (nI ix))] [] (pw_clI B ix) from lo 0 (by omega)
  refine pw_dn 6 (fun ix hix ih => ?_)
  refine pw_blk (pc' := 20) [.iload 2, .iconst (6)] (by decide +kernel) ?_
  show pw_V x m_X8_findSeatings 4 Z 20 [(0, .ref 26), (1, .int (nI w)), (2, .int (nI ix))] [.int (nI 6), .int (nI ix)] (pw_clI B ix)
  refine pw_in_ge (tgt := 43) (off := 23) (by first | omega | exact pw_g_lt) (by first | omega | exact pw_g_lt) (by decide +kernel) (by decide) (fun h20 => ?_) (fun h20 => ?_)
  · have e6 : ix = 6 := by omega
    rw [e6]
    clear ih hix e6 h20
    clear ix
    rw [pw_clI_6 (A := A)]
    obtain ⟨n1, n2, n3, n4⟩ := pw_nf_spec (th := (pw_g A 42 1)) (kn := pw_k A) (pw_k A) 0 (by omega)
    have hl0 := pw_LA_skip (q := q) (us := 0) (pl := fun _ => 0) (pw_nf (pw_g A 42 1) (pw_k A) 0) 0 (by omega) (fun j h1 h2 => n3 j h1 (by omega))
    rw [Nat.sub_zero, Nat.zero_add] at hl0
    have hsk := pw_SA_skip (A := A) (pl := fun _ => 0) n1 n3
    have hbl : pw_ab_ (0, 0, 0, fun _ => none) (pw_LA A q (pw_k A) (fun _ => 0) 0).length := ⟨by have z1 := pw_LA_len (A := A) (q := q) bn (pw_k A) (fun _ => 0) 0 (Nat.le_refl _); have z2 : 8 ^ pw_k A ≤ 8 ^ 6 := Nat.pow_le_pow_right (by omega) bk; show 0 + _ ≤ _; omega, Nat.zero_le _, Nat.zero_le _⟩
    refine pw_blk (pc' := 46) [.aload 0, .iconst (-1), .iconst 1] (by decide +kernel) ?_
    show pw_V x m_X8_findSeatings 4 Z 46 [(0, .ref 26), (1, .int (nI w)), (2, .int (nI 6))] [.int (nI 1), .int (-1), .ref 26] (pw_sM B (pw_SA A (fun _ => 0) 0) (0, 0, 0, fun _ => none))
    refine pw_cV (vs := [.int (-1), .int (nI 1)]) (rest := []) k_X8_nextThere (cL_mnxF (pw_sM B (pw_SA A (fun _ => 0) 0) (0, 0, 0, fun _ => none)) (mvL_s hl) hok (-1) 0 (by decide) (by omega)) l_8_240 rfl rfl rfl rfl (by omega) (Nat.le_of_ble_eq_true rfl) (by decide +kernel) ?_
    rintro _ m1 ⟨rfl, e1⟩
    rw [e1]
    clear e1 m1
    show pw_V x m_X8_findSeatings 4 Z 49 [(0, .ref 26), (1, .int (nI w)), (2, .int (nI 6))] [.int (nI (pw_nf (pw_g A 42 1) (pw_k A) 0))] (pw_sM B (pw_SA A (fun _ => 0) 0) (0, 0, 0, fun _ => none))
    refine pw_blk (pc' := 55) [.istore 2, .iload 2, .aload 0, .getfield 802] (by decide +kernel) ?_
    show pw_V x m_X8_findSeatings 4 Z 55 [(2, .int (nI (pw_nf (pw_g A 42 1) (pw_k A) 0))), (0, .ref 26), (1, .int (nI w))] [.int ((pw_sM B (pw_SA A (fun _ => 0) 0) (0, 0, 0, fun _ => none)) 26 2), .int (nI (pw_nf (pw_g A 42 1) (pw_k A) 0))] (pw_sM B (pw_SA A (fun _ => 0) 0) (0, 0, 0, fun _ => none))
    rw [show (pw_sM B (pw_SA A (fun _ => 0) 0) (0, 0, 0, fun _ => none)) 26 2 = nI (pw_k A) from ((pw_sM_6 (by omega) (by omega) (by omega)).trans (mv_k (B := pw_up B 26 33 (-1)) hl hok))]
    refine pw_in_ne (tgt := 63) (off := 8) (by first | omega | exact pw_g_lt) (by first | omega | exact pw_g_lt) (by decide +kernel) (by decide) (fun h55 => ?_) (fun h55 => ?_)
    · obtain ⟨ky, hky⟩ : ∃ ky, ky = (pw_nf (pw_g A 42 1) (pw_k A) 0) := ⟨_, rfl⟩
      rw [← hky] at n1 n2 n3 n4 hsk hl0 h55 ⊢
      have hlt : ky < pw_k A := by omega
      have hty := n4 hlt
      rw [show pw_SA A (fun _ => 0) 0 = pw_SA A (fun _ => 0) ky from hsk]
      refine pw_lvp [1, 2, 0] rfl ?_
      have hl1 : pw_LA A q (pw_k A) (fun _ => 0) 0 = pw_LA A q (pw_k A - (ky + 1) + 1) (fun _ => 0) 0 := by rw [hl0, show pw_k A - ky = pw_k A - (ky + 1) + 1 by omega]
      refine P (pw_k A - (ky + 1)) ky (fun _ => 0) 0 (0, 0, 0, fun _ => none) (by omega) hty (pw_PI_skip pw_PI_0 n1 n3) (by rw [← hl1]; exact hbl) ?_
      rw [← hl1, show pw_lf (fun j => (pw_g A 42 1).testBit j) ky = none from pw_lf_n.mpr (fun j hj => n3 j (by omega) hj)]
      show pw_V x m_X8_findSeatings 4 Z 63 [(0, .ref 26), (1, .int (nI w)), (2, .int (-1))] [] (pw_sM B (pw_SA A (fun _ => 0) ky) (pw_acc A w (0, 0, 0, fun _ => none) (pw_LA A q (pw_k A) (fun _ => 0) 0)))
      refine pw_blk (pc' := 71) [.iload 2, .iconst 0, .aload 0, .getfield 802, .iconst 1, .isub] (by decide +kernel) ?_
      show pw_V x m_X8_findSeatings 4 Z 71 [(0, .ref 26), (1, .int (nI w)), (2, .int (-1))] [.int (((pw_sM B (pw_SA A (fun _ => 0) ky) (pw_acc A w (0, 0, 0, fun _ => none) (pw_LA A q (pw_k A) (fun _ => 0) 0))) 26 2) - (nI 1)), .int (nI 0), .int (-1)] (pw_sM B (pw_SA A (fun _ => 0) ky) (pw_acc A w (0, 0, 0, fun _ => none) (pw_LA A q (pw_k A) (fun _ => 0) 0)))
      rw [show (pw_sM B (pw_SA A (fun _ => 0) ky) (pw_acc A w (0, 0, 0, fun _ => none) (pw_LA A q (pw_k A) (fun _ => 0) 0))) 26 2 = nI (pw_k A) from ((pw_sM_6 (by omega) (by omega) (by omega)).trans (mv_k (B := pw_up B 26 33 (-1)) hl hok))]
      refine pw_cS (vs := [.int (-1), .int (nI 0), .int ((nI (pw_k A)) - (nI 1))]) (rest := []) k_X8_in (c_in1 (-1) (pw_k A) (pw_sM B (pw_SA A (fun _ => 0) ky) (pw_acc A w (0, 0, 0, fun _ => none) (pw_LA A q (pw_k A) (fun _ => 0) 0))) (by omega)) l_8_78 rfl (by omega) (Nat.le_of_ble_eq_true rfl) (by decide +kernel) ?_
      rintro _ m1 ⟨rfl, e1⟩
      rw [e1]
      clear e1 m1
      show pw_V x m_X8_findSeatings 4 Z 74 [(0, .ref 26), (1, .int (nI w)), (2, .int (-1))] [.int (pw_b (pw_inr (-1) (pw_k A)))] (pw_sM B (pw_SA A (fun _ => 0) ky) (pw_acc A w (0, 0, 0, fun _ => none) (pw_LA A q (pw_k A) (fun _ => 0) 0)))
      refine pw_ib_eq (tgt := 172) (off := 98) (by decide +kernel) (by decide) (fun h74 => ?_) (fun h74 => ?_)
      · rw [← hZ]
        refine pw_rv (by decide +kernel) ?_
        exact ⟨rfl, _, rfl⟩
      · rw [pw_inr_f1 (by decide)] at h74; cases h74
    · have hgb0 : ∀ j a, j < 6 → pw_SA A (fun _ => 0) 0 j = some a → a < 8 := fun j a _ z => by have z1 := pw_SA_some.mp z; omega
      have hgn0 : ∀ i, i < pw_k A → (pw_g A 42 1).testBit i = true → ∃ ss, ss < pw_n A ∧ pw_SA A (fun _ => 0) 0 i = some ss := fun i hi hti => by rw [n3 i (by omega) (by omega)] at hti; cases hti
      refine pw_blk (pc' := 60) [.aload 0, .iload 1] (by decide +kernel) ?_
      show pw_V x m_X8_findSeatings 4 Z 60 [(2, .int (nI (pw_nf (pw_g A 42 1) (pw_k A) 0))), (0, .ref 26), (1, .int (nI w))] [.int (nI w), .ref 26] (pw_sM B (pw_SA A (fun _ => 0) 0) (0, 0, 0, fun _ => none))
      refine pw_cV (vs := [.int (nI w)]) (rest := []) k_X8_finds (cL_mfinds B hl hok (pw_SA A (fun _ => 0) 0) hgb0 hgn0 (0, 0, 0, fun _ => none) ⟨by show 0 < _; omega, by show 0 < _; omega, by show 0 < _; omega⟩ w hw) l_8_243 rfl rfl rfl rfl (by omega) (Nat.le_of_ble_eq_true rfl) (by decide +kernel) ?_
      rintro _ m1 ⟨rfl, e1⟩
      rw [e1]
      clear e1 m1
      show pw_V x m_X8_findSeatings 4 Z 63 [(2, .int (nI (pw_nf (pw_g A 42 1) (pw_k A) 0))), (0, .ref 26), (1, .int (nI w))] [] (pw_sM B (pw_SA A (fun _ => 0) 0) (pw_fin A w (pw_SA A (fun _ => 0) 0) (0, 0, 0, fun _ => none)))
      refine pw_blk (pc' := 71) [.iload 2, .iconst 0, .aload 0, .getfield 802, .iconst 1, .isub] (by decide +kernel) ?_
      show pw_V x m_X8_findSeatings 4 Z 71 [(2, .int (nI (pw_nf (pw_g A 42 1) (pw_k A) 0))), (0, .ref 26), (1, .int (nI w))] [.int (((pw_sM B (pw_SA A (fun _ => 0) 0) (pw_fin A w (pw_SA A (fun _ => 0) 0) (0, 0, 0, fun _ => none))) 26 2) - (nI 1)), .int (nI 0), .int (nI (pw_nf (pw_g A 42 1) (pw_k A) 0))] (pw_sM B (pw_SA A (fun _ => 0) 0) (pw_fin A w (pw_SA A (fun _ => 0) 0) (0, 0, 0, fun _ => none)))
      rw [show (pw_sM B (pw_SA A (fun _ => 0) 0) (pw_fin A w (pw_SA A (fun _ => 0) 0) (0, 0, 0, fun _ => none))) 26 2 = nI (pw_k A) from ((pw_sM_6 (by omega) (by omega) (by omega)).trans (mv_k (B := pw_up B 26 33 (-1)) hl hok))]
      refine pw_cS (vs := [.int (nI (pw_nf (pw_g A 42 1) (pw_k A) 0)), .int (nI 0), .int ((nI (pw_k A)) - (nI 1))]) (rest := []) k_X8_in (c_in1 (nI (pw_nf (pw_g A 42 1) (pw_k A) 0)) (pw_k A) (pw_sM B (pw_SA A (fun _ => 0) 0) (pw_fin A w (pw_SA A (fun _ => 0) 0) (0, 0, 0, fun _ => none))) (by omega)) l_8_78 rfl (by omega) (Nat.le_of_ble_eq_true rfl) (by decide +kernel) ?_
      rintro _ m1 ⟨rfl, e1⟩
      rw [e1]
      clear e1 m1
      show pw_V x m_X8_findSeatings 4 Z 74 [(2, .int (nI (pw_nf (pw_g A 42 1) (pw_k A) 0))), (0, .ref 26), (1, .int (nI w))] [.int (pw_b (pw_inr (nI (pw_nf (pw_g A 42 1) (pw_k A) 0)) (pw_k A)))] (pw_sM B (pw_SA A (fun _ => 0) 0) (pw_fin A w (pw_SA A (fun _ => 0) 0) (0, 0, 0, fun _ => none)))
      refine pw_ib_eq (tgt := 172) (off := 98) (by decide +kernel) (by decide) (fun h74 => ?_) (fun h74 => ?_)
      · rw [← hZ]
        refine pw_rv (by decide +kernel) ?_
        refine ⟨rfl, pw_SA A (fun _ => 0) 0, ?_⟩
        rw [show pw_LA A q (pw_k A) (fun _ => 0) 0 = [fun _ => 0] from by rw [hl0, h55, Nat.sub_self]; rfl]
        show _ = pw_sM B (pw_SA A (fun _ => 0) 0) (pw_fin A w (pw_SA A (fun _ => 0) (pw_k A)) (0, 0, 0, fun _ => none))
        rw [show pw_SA A (fun _ => 0) 0 = pw_SA A (fun _ => 0) (pw_k A) from by rw [hsk, h55]]
      · rw [show pw_inr (nI (pw_nf (pw_g A 42 1) (pw_k A) 0)) (pw_k A) = false from by rw [pw_inr_nI (by omega) (by omega)]; exact decide_eq_false (by omega)] at h74; cases h74
  · refine pw_blk (pc' := 40) [.aload 0, .getfield 832, .iload 2, .iconst (-1), .iastore, .aload 0, .getfield 835, .iload 2, .iconst (-1), .iastore, .iinc 2 1] (by decide +kernel) ?_
    refine ⟨ix, rfl, by first | omega | exact pw_g_lt, ?_⟩
    refine ⟨ix, rfl, by first | omega | exact pw_g_lt, ?_⟩
    show pw_V x m_X8_findSeatings 4 Z 40 [(2, .int ((nI ix) + (nI 1))), (0, .ref 26), (1, .int (nI w))] [] (pw_up (pw_up (pw_clI B ix) 40 ix (-1)) 41 ix (-1))
    rw [show (nI ix) + (nI 1) = nI (ix + 1) from nI_add _ _]
    refine pw_goto (tgt := 17) (off := -23) (by decide +kernel) (by decide) ?_
    rw [show pw_up (pw_up (pw_clI B ix) 40 ix (-1)) 41 ix (-1) = pw_clI B (ix + 1) from pw_clI_s]
    refine pw_lvp [1, 2, 0] rfl ?_
    exact ih (by omega)
