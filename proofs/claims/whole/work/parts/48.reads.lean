theorem pw_nbA {w : Nat} (h1 : 1 ≤ w) (h2 : w ≤ 4) : ¬ pw_nb w < 1 := by unfold pw_nb; split; omega; split <;> omega
theorem pw_nbB {w : Nat} (h1 : 1 ≤ w) (h2 : w ≤ 4) : 1 ≤ pw_nb w := by have := pw_nbA h1 h2; omega
theorem pw_mfA {w s k a : Nat} (h1 : 1 ≤ w) (h2 : w ≤ 4) (h : a < pw_mf s k w) : a < s := by
  unfold pw_mf at h
  rw [if_neg (by omega), if_neg (by omega), if_neg (by omega)] at h
  exact h

set_option maxHeartbeats 4000000 in
set_option maxRecDepth 100000 in
theorem c_read (dg : Bool) (mm : pw_m) (hok : pw_ok mm) : pw_Ct 3 yX2_read m_X2_read [.ref 1, .ref 4, .int (pw_b (dg))] mm (fun r m' => r = some (.int (pw_o (pw_RF mm))) ∧ pw_rdp mm m' dg) := by
  refine pw_ct (by decide +kernel) rfl (Nat.le_of_ble_eq_true rfl) (fun x => ?_)
  generalize hZ : pw_Z x _ = Z
  have hx := pw_q21 hok
  have bwr := pw_b21 hok
  have q40 : mm 4 0 = nI (pw_n mm) := pw_q40 hok
  have q41 : mm 4 1 = nI (pw_k mm) := pw_q41 hok
  show pw_V x m_X2_read 3 Z 0 [(0, .ref 1), (1, .ref 4), (2, .int (pw_b (dg)))] [] mm
  refine pw_blk (pc' := 4) [.aload 0, .getfield 200] (by decide +kernel) ?_
  show pw_V x m_X2_read 3 Z 4 [(0, .ref 1), (1, .ref 4), (2, .int (pw_b (dg)))] [.ref 2] mm
  refine pw_cV (vs := []) (rest := []) k_X3_rewind (c_rewind mm) l_2_18 rfl rfl rfl rfl (by omega) (Nat.le_of_ble_eq_true rfl) (by decide +kernel) ?_
  rintro _ m1 ⟨rfl, e1⟩
  rw [e1]
  clear e1 m1
  show pw_V x m_X2_read 3 Z 7 [(0, .ref 1), (1, .ref 4), (2, .int (pw_b (dg)))] [] (pw_up (pw_up (pw_up mm 2 2 (nI 0)) 2 3 (nI 0)) 2 4 (nI 0))
  refine pw_blk (pc' := 25) [.aload 0, .aload 1, .getfield 500, .putfield 202, .aload 0, .aload 1, .getfield 501, .putfield 203, .iconst 1, .istore 3] (by decide +kernel) ?_
  show pw_V x m_X2_read 3 Z 25 [(3, .int (nI 1)), (0, .ref 1), (1, .ref 4), (2, .int (pw_b (dg)))] [] (pw_up (pw_up (pw_up (pw_up (pw_up mm 2 2 (nI 0)) 2 3 (nI 0)) 2 4 (nI 0)) 1 2 (mm 4 0)) 1 3 (mm 4 1))
  rw [show mm 4 0 = nI (pw_n mm) from pw_q40 hok]
  rw [show mm 4 1 = nI (pw_k mm) from pw_q41 hok]
  refine pw_lvp [1, 2, 3, 0] rfl ?_
  suffices lo : ∀ f : Nat, ∀ cl s k e : Nat, ∀ m1 B : pw_m, cl + f = 14 → (∀ c, c ≠ 1 → c ≠ 2 → (c < 4 ∨ 10 < c) → m1 c = mm c) → pw_tx mm m1 → m1 2 4 = nI e → e ≤ pw_g mm 2 1 → m1 1 2 = nI s → m1 1 3 = nI k → s ≤ 8 → k ≤ 6 → (dg = true → m1 4 0 = nI s ∧ m1 4 1 = nI k) → (∀ c, 4 ≤ c → c ≤ 10 → m1 c = (if dg = true then B else mm) c) → pw_RF mm = pw_rf mm (f + 1) s k e → G_oq mm (pw_CQ mm) = G_oq B (pw_cq mm (f + 1) s k e) → (pw_CQ mm).length + 1 = cl + (pw_cq mm (f + 1) s k e).length → pw_V x m_X2_read 3 Z 25 [(0, .ref 1), (1, .ref 4), (2, .int (pw_b (dg))), (3, .int (nI cl))] [] m1 from lo 13 1 (pw_n mm) (pw_k mm) 0 (pw_up (pw_up (pw_up (pw_up (pw_up mm 2 2 (nI 0)) 2 3 (nI 0)) 2 4 (nI 0)) 1 2 (nI (pw_n mm))) 1 3 (nI (pw_k mm))) mm (by omega) (fun c c1 c2 c3 => by simp only [pw_up, c1, c2, if_false]) (pw_tx_u (pw_tx_u (pw_tx_u (pw_tx_u (pw_tx_u pw_tx_r (by decide)) (by decide)) (by decide)) (by decide)) (by decide)) rfl (by omega) rfl rfl (pw_bn hok) (pw_bk hok) (fun _ => ⟨q40, q41⟩) (fun c c1 c2 => by rw [show (if dg = true then mm else mm) = mm from by split <;> rfl]; simp only [pw_up, show ¬ c = 1 by omega, show ¬ c = 2 by omega, if_false]) rfl rfl (Nat.add_comm _ _)
  intro f
  induction f with
  | zero =>
    intro cl s k e m1 B hcl hfr htx he he2 hs hk hs8 hk6 hT hB hrf hcs hln
    refine pw_blk (pc' := 28) [.iload 3, .iconst (14)] (by decide +kernel) ?_
    show pw_V x m_X2_read 3 Z 28 [(0, .ref 1), (1, .ref 4), (2, .int (pw_b (dg))), (3, .int (nI cl))] [.int (nI 14), .int (nI cl)] m1
    refine pw_in_gt (tgt := 114) (off := 86) (by omega) (by omega) (by decide +kernel) (by decide) (fun h28 => ?_) (fun h28 => ?_)
    · omega
    · refine pw_blk (pc' := 37) [.aload 0, .iload 3, .putfield 201, .aload 0] (by decide +kernel) ?_
      show pw_V x m_X2_read 3 Z 37 [(0, .ref 1), (1, .ref 4), (2, .int (pw_b (dg))), (3, .int (nI cl))] [.ref 1] (pw_up m1 1 1 (nI cl))
      refine pw_cV (vs := []) (rest := []) k_X2_readClause (c_readClause (A := mm) (pw_up m1 1 1 (nI cl)) (pw_tx_u htx (by decide)) hx bwr s k e he he2 hs hk hs8 hk6) l_2_35 rfl rfl rfl rfl (by omega) (Nat.le_of_ble_eq_true rfl) (by decide +kernel) ?_
      rintro _ m2 ⟨rfl, hrc⟩
      show pw_V x m_X2_read 3 Z 40 [(0, .ref 1), (1, .ref 4), (2, .int (pw_b (dg))), (3, .int (nI cl))] [.int (pw_b ((pw_cz mm s k e).2.isSome))] m2
      obtain ⟨r1, r2, r3, r4, r5, r6⟩ := hrc
      refine pw_ib_ne (tgt := 51) (off := 11) (by decide +kernel) (by decide) (fun h40 => ?_) (fun h40 => ?_)
      · obtain ⟨p, hp⟩ := Option.isSome_iff_exists.mp h40
        obtain ⟨u1, u2, u3, u4, u5⟩ := pw_cz_b hp hs8 hk6
        obtain ⟨v1, v2⟩ := pw_cz_n hp hs8 hk6
        obtain ⟨t1, t2, t3, t4, t5, t6⟩ := r6 p.1 p.2.1 p.2.2 hp
        have y1 := pw_tb1 (A := mm) (pw_cz_e (s := s) (k := k) he2)
        have y2 := pw_tb1 (A := mm) y1.2.2
        have jn : ∀ m3 : pw_m, (∀ c, c ≠ 1 → c ≠ 2 → (c < 4 ∨ 10 < c) → m3 c = mm c) → pw_tx mm m3 → m3 2 4 = nI (pw_tE mm (pw_cz mm s k e).1) → m3 1 2 = nI (pw_s2_ s p.1 p.2.1) → m3 1 3 = nI (pw_k2_ k p.1) → (dg = true → m3 4 0 = nI (pw_s2_ s p.1 p.2.1) ∧ m3 4 1 = nI (pw_k2_ k p.1)) → (∀ c, 4 ≤ c → c ≤ 10 → m3 c = (if dg = true then G_o1 B p else mm) c) → m3 1 1 = nI cl → pw_V x m_X2_read 3 Z 71 [(0, .ref 1), (1, .ref 4), (2, .int (pw_b (dg))), (3, .int (nI cl))] [] m3 := by
          intro m3 q1 q2 q3 q4 q5 q6 q7 q8
          refine pw_blk (pc' := 75) [.aload 0, .getfield 200] (by decide +kernel) ?_
          show pw_V x m_X2_read 3 Z 75 [(0, .ref 1), (1, .ref 4), (2, .int (pw_b (dg))), (3, .int (nI cl))] [.ref 2] m3
          refine pw_cV (vs := []) (rest := []) k_X3_advance (c_adv (A := mm) m3 q2 hx bwr (pw_tE mm (pw_cz mm s k e).1) q3 y1.2.2) l_2_55 rfl rfl rfl rfl (by omega) (Nat.le_of_ble_eq_true rfl) (by decide +kernel) ?_
          rintro _ m1 ⟨rfl, e1⟩
          rw [e1]
          clear e1 m1
          show pw_V x m_X2_read 3 Z 78 [(0, .ref 1), (1, .ref 4), (2, .int (pw_b (dg))), (3, .int (nI cl))] [] (pw_up (pw_up (pw_up m3 2 3 (nI (pw_tB mm (pw_tE mm (pw_cz mm s k e).1)))) 2 2 (pw_tT mm (pw_tE mm (pw_cz mm s k e).1))) 2 4 (nI (pw_tE mm (pw_tE mm (pw_cz mm s k e).1))))
          refine pw_blk (pc' := 85) [.aload 0, .getfield 200, .getfield 302] (by decide +kernel) ?_
          show pw_V x m_X2_read 3 Z 85 [(0, .ref 1), (1, .ref 4), (2, .int (pw_b (dg))), (3, .int (nI cl))] [.int (pw_tT mm (pw_tE mm (pw_cz mm s k e).1))] (pw_up (pw_up (pw_up m3 2 3 (nI (pw_tB mm (pw_tE mm (pw_cz mm s k e).1)))) 2 2 (pw_tT mm (pw_tE mm (pw_cz mm s k e).1))) 2 4 (nI (pw_tE mm (pw_tE mm (pw_cz mm s k e).1))))
          refine pw_if_ne (tgt := 90) (off := 5) (by decide +kernel) (by decide) (fun h85 => ?_) (fun h85 => ?_)
          · refine pw_blk (pc' := 94) [.aload 0, .getfield 200] (by decide +kernel) ?_
            show pw_V x m_X2_read 3 Z 94 [(0, .ref 1), (1, .ref 4), (2, .int (pw_b (dg))), (3, .int (nI cl))] [.ref 2] (pw_up (pw_up (pw_up m3 2 3 (nI (pw_tB mm (pw_tE mm (pw_cz mm s k e).1)))) 2 2 (pw_tT mm (pw_tE mm (pw_cz mm s k e).1))) 2 4 (nI (pw_tE mm (pw_tE mm (pw_cz mm s k e).1))))
            refine pw_cV (vs := []) (rest := []) k_X3_isSemicolon (c_semi (A := mm) (pw_up (pw_up (pw_up m3 2 3 (nI (pw_tB mm (pw_tE mm (pw_cz mm s k e).1)))) 2 2 (pw_tT mm (pw_tE mm (pw_cz mm s k e).1))) 2 4 (nI (pw_tE mm (pw_tE mm (pw_cz mm s k e).1)))) (pw_tx_u (pw_tx_u (pw_tx_u q2 (by decide)) (by decide)) (by decide)) hx bwr (pw_tE mm (pw_cz mm s k e).1) rfl rfl y1.2.2) l_2_61 rfl rfl rfl rfl (by omega) (Nat.le_of_ble_eq_true rfl) (by decide +kernel) ?_
            rintro _ m1 ⟨rfl, e1⟩
            rw [e1]
            clear e1 m1
            show pw_V x m_X2_read 3 Z 97 [(0, .ref 1), (1, .ref 4), (2, .int (pw_b (dg))), (3, .int (nI cl))] [.int (pw_b (pw_tS mm (pw_tE mm (pw_cz mm s k e).1)))] (pw_up (pw_up (pw_up m3 2 3 (nI (pw_tB mm (pw_tE mm (pw_cz mm s k e).1)))) 2 2 (pw_tT mm (pw_tE mm (pw_cz mm s k e).1))) 2 4 (nI (pw_tE mm (pw_tE mm (pw_cz mm s k e).1))))
            refine pw_ib_ne (tgt := 108) (off := 11) (by decide +kernel) (by decide) (fun h97 => ?_) (fun h97 => ?_)
            · refine pw_blk (pc' := 111) [.iinc 3 1] (by decide +kernel) ?_
              show pw_V x m_X2_read 3 Z 111 [(3, .int ((nI cl) + (nI 1))), (0, .ref 1), (1, .ref 4), (2, .int (pw_b (dg)))] [] (pw_up (pw_up (pw_up m3 2 3 (nI (pw_tB mm (pw_tE mm (pw_cz mm s k e).1)))) 2 2 (pw_tT mm (pw_tE mm (pw_cz mm s k e).1))) 2 4 (nI (pw_tE mm (pw_tE mm (pw_cz mm s k e).1))))
              rw [show (nI cl) + (nI 1) = nI (cl + 1) from nI_add _ _]
              refine pw_goto (tgt := 25) (off := -86) (by decide +kernel) (by decide) ?_
              refine pw_blk (pc' := 28) [.iload 3, .iconst (14)] (by decide +kernel) ?_
              show pw_V x m_X2_read 3 Z 28 [(3, .int (nI (cl + 1))), (0, .ref 1), (1, .ref 4), (2, .int (pw_b (dg)))] [.int (nI 14), .int (nI (cl + 1))] (pw_up (pw_up (pw_up m3 2 3 (nI (pw_tB mm (pw_tE mm (pw_cz mm s k e).1)))) 2 2 (pw_tT mm (pw_tE mm (pw_cz mm s k e).1))) 2 4 (nI (pw_tE mm (pw_tE mm (pw_cz mm s k e).1))))
              refine pw_in_gt (tgt := 114) (off := 86) (by omega) (by omega) (by decide +kernel) (by decide) (fun h28 => ?_) (fun h28 => ?_)
              · refine pw_blk (pc' := 121) [.aload 0, .getfield 200, .getfield 303] (by decide +kernel) ?_
                show pw_V x m_X2_read 3 Z 121 [(3, .int (nI (cl + 1))), (0, .ref 1), (1, .ref 4), (2, .int (pw_b (dg)))] [.int (nI (pw_tB mm (pw_tE mm (pw_cz mm s k e).1)))] (pw_up (pw_up (pw_up m3 2 3 (nI (pw_tB mm (pw_tE mm (pw_cz mm s k e).1)))) 2 2 (pw_tT mm (pw_tE mm (pw_cz mm s k e).1))) 2 4 (nI (pw_tE mm (pw_tE mm (pw_cz mm s k e).1))))
                rw [← hZ]
                refine pw_ri (by decide +kernel) ?_
                have g1 : pw_rf mm 1 s k e = some (pw_tB mm (pw_tE mm (pw_cz mm s k e).1)) := by rw [pw_rf, hp]; dsimp only; rw [if_neg h85, if_neg (fun z => absurd z.2 (by omega))]
                have g3 : pw_RF mm = some (pw_tB mm (pw_tE mm (pw_cz mm s k e).1)) := hrf.trans g1
                exact ⟨by rw [g3]; rfl, fun c c1 c2 c3 => by rw [← q1 c c1 c2 c3]; simp only [pw_up, c2, if_false], q2.2, fun z c c1 c2 => by rw [show mm c = (if dg = true then G_o1 B p else mm) c from by rw [z]; rfl, ← q7 c c1 c2]; simp only [pw_up, show ¬ c = 2 by omega, if_false], fun z => by rw [g3] at z; cases z⟩
              · omega
            · refine pw_blk (pc' := 107) [.aload 0, .getfield 200, .getfield 303] (by decide +kernel) ?_
              show pw_V x m_X2_read 3 Z 107 [(0, .ref 1), (1, .ref 4), (2, .int (pw_b (dg))), (3, .int (nI cl))] [.int (nI (pw_tB mm (pw_tE mm (pw_cz mm s k e).1)))] (pw_up (pw_up (pw_up m3 2 3 (nI (pw_tB mm (pw_tE mm (pw_cz mm s k e).1)))) 2 2 (pw_tT mm (pw_tE mm (pw_cz mm s k e).1))) 2 4 (nI (pw_tE mm (pw_tE mm (pw_cz mm s k e).1))))
              rw [← hZ]
              refine pw_ri (by decide +kernel) ?_
              have g1 : pw_rf mm 1 s k e = some (pw_tB mm (pw_tE mm (pw_cz mm s k e).1)) := by rw [pw_rf, hp]; dsimp only; rw [if_neg h85, if_neg (fun z => absurd (z.1.symm.trans h97) (by decide))]
              have g3 : pw_RF mm = some (pw_tB mm (pw_tE mm (pw_cz mm s k e).1)) := hrf.trans g1
              exact ⟨by rw [g3]; rfl, fun c c1 c2 c3 => by rw [← q1 c c1 c2 c3]; simp only [pw_up, c2, if_false], q2.2, fun z c c1 c2 => by rw [show mm c = (if dg = true then G_o1 B p else mm) c from by rw [z]; rfl, ← q7 c c1 c2]; simp only [pw_up, show ¬ c = 2 by omega, if_false], fun z => by rw [g3] at z; cases z⟩
          · refine pw_blk (pc' := 89) [.iconst (-1)] (by decide +kernel) ?_
            show pw_V x m_X2_read 3 Z 89 [(0, .ref 1), (1, .ref 4), (2, .int (pw_b (dg))), (3, .int (nI cl))] [.int (-1)] (pw_up (pw_up (pw_up m3 2 3 (nI (pw_tB mm (pw_tE mm (pw_cz mm s k e).1)))) 2 2 (pw_tT mm (pw_tE mm (pw_cz mm s k e).1))) 2 4 (nI (pw_tE mm (pw_tE mm (pw_cz mm s k e).1))))
            rw [← hZ]
            refine pw_ri (by decide +kernel) ?_
            have g1 : pw_rf mm 1 s k e = none := by rw [pw_rf, hp]; dsimp only; rw [if_pos h85]
            have g2 : pw_cq mm 1 s k e = [p] := by rw [pw_cq, hp]; dsimp only; rw [if_pos h85]
            have g3 : pw_RF mm = none := hrf.trans g1
            refine ⟨by rw [g3]; rfl, fun c c1 c2 c3 => by rw [← q1 c c1 c2 c3]; simp only [pw_up, c2, if_false], q2.2, fun z c c1 c2 => by rw [show mm c = (if dg = true then G_o1 B p else mm) c from by rw [z]; rfl, ← q7 c c1 c2]; simp only [pw_up, show ¬ c = 2 by omega, if_false], fun _ => ⟨?_, fun z c c1 c2 => ?_⟩⟩
            · have g4 : (pw_CQ mm).length = cl := by have g5 := hln; rw [g2, List.length_singleton] at g5; omega
              rw [g4]; exact q8
            · have g4 : G_oq mm (pw_CQ mm) = G_o1 B p := hcs.trans (by rw [g2]; rfl)
              rw [g4, show G_o1 B p c = (if dg = true then G_o1 B p else mm) c from by rw [if_pos z], ← q7 c c1 c2]; simp only [pw_up, show ¬ c = 2 by omega, if_false]
        have qa : ∀ c, c ≠ 1 → c ≠ 2 → (c < 4 ∨ 10 < c) → m2 c = mm c := fun c c1 c2 c3 => by rw [r1 c c1 c2, pw_up_ne c1]; exact hfr c c1 c2 c3
        refine pw_blk (pc' := 52) [.iload 2] (by decide +kernel) ?_
        show pw_V x m_X2_read 3 Z 52 [(0, .ref 1), (1, .ref 4), (2, .int (pw_b (dg))), (3, .int (nI cl))] [.int (pw_b (dg))] m2
        refine pw_ib_eq (tgt := 71) (off := 19) (by decide +kernel) (by decide) (fun h52 => ?_) (fun h52 => ?_)
        · refine pw_lvp [0, 1, 2, 3] rfl ?_
          refine jn m2 qa (pw_tx_f (pw_tx_u htx (by decide) : pw_tx mm (pw_up m1 1 1 (nI cl))) (r1 3 (by omega) (by omega)) r2) r5 t5 t6 (fun z => absurd (z.symm.trans h52) (by decide)) (fun c c1 c2 => ?_) (r3.trans rfl)
          rw [r1 c (by omega) (by omega), pw_up_ne (by omega), hB c c1 c2, h52]
          rfl
        · have m24 : m1 4 = m2 4 := by rw [r1 4 (by omega) (by omega), pw_up_ne (by omega)]
          have o1 : 1 ≤ p.1 → p.1 ≤ 4 → ∃ sx, m2 1 5 = nI sx ∧ sx < s := fun w1 w2 => ⟨p.2.1, by rw [t3, if_neg]; exact pw_nbA w1 w2, pw_mfA w1 w2 (u3 (pw_nbB w1 w2)).2⟩
          have o2 : 5 ≤ p.1 → p.1 ≤ 7 → k < 6 := fun w1 w2 => u2 (decide_eq_true ⟨w1, w2⟩)
          have o3 : p.1 = 8 → ∃ ax bx, m2 1 5 = nI ax ∧ m2 1 6 = nI bx ∧ ax < k ∧ bx < k := fun w1 => by rw [w1] at t3 t4 u3 u4; exact ⟨p.2.1, p.2.2, t3, t4, (u3 (by decide)).2, u4 (by decide)⟩
          refine pw_blk (pc' := 68) [.aload 1, .aload 0, .getfield 204, .aload 0, .getfield 205, .aload 0, .getfield 206] (by decide +kernel) ?_
          show pw_V x m_X2_read 3 Z 68 [(0, .ref 1), (1, .ref 4), (2, .int (pw_b (dg))), (3, .int (nI cl))] [.int (m2 1 6), .int (m2 1 5), .int (m2 1 4), .ref 4] m2
          rw [show m2 1 4 = nI (p.1) from t2]
          refine pw_cV (vs := [.int (nI (p.1)), .int (m2 1 5), .int (m2 1 6)]) (rest := []) k_X5_obey (c_obey p.1 u1 (m2 1 5) (m2 1 6) m2 s k (by rw [← m24]; exact (hT h52).1) hs8 (by rw [← m24]; exact (hT h52).2) hk6 o1 o2 o3) l_2_51 rfl rfl rfl rfl (by omega) (Nat.le_of_ble_eq_true rfl) (by decide +kernel) ?_
          rintro _ m1 ⟨rfl, e1⟩
          rw [e1]
          clear e1 m1
          show pw_V x m_X2_read 3 Z 71 [(0, .ref 1), (1, .ref 4), (2, .int (pw_b (dg))), (3, .int (nI cl))] [] (G_ob m2 p.1 (m2 1 5) (m2 1 6))
          refine pw_lvp [0, 1, 2, 3] rfl ?_
          rw [t3, t4, G_ob_nb u1]
          refine jn _ (fun c c1 c2 c3 => by rw [G_ob_o u1 c3]; exact qa c c1 c2 c3) (pw_tx_f (pw_tx_f (pw_tx_u htx (by decide) : pw_tx mm (pw_up m1 1 1 (nI cl))) (r1 3 (by omega) (by omega)) r2) (G_ob_o u1 (by omega)) (by rw [G_ob_o u1 (by omega)])) (by rw [G_ob_o u1 (by omega)]; exact r5) (by rw [G_ob_o u1 (by omega)]; exact t5) (by rw [G_ob_o u1 (by omega)]; exact t6) (fun z => G_ob_n u1 (by rw [← m24]; exact (hT z).1) (by rw [← m24]; exact (hT z).2) hk6) (fun c c1 c2 => ?_) (by rw [G_ob_o u1 (by omega)]; exact r3.trans rfl)
          rw [if_pos h52]
          exact G_ob_c u1 (fun d d1 d2 => by rw [r1 d (by omega) (by omega), pw_up_ne (by omega), hB d d1 d2, h52]; rfl) c1 c2
      · refine pw_blk (pc' := 50) [.aload 0, .getfield 200, .getfield 303] (by decide +kernel) ?_
        show pw_V x m_X2_read 3 Z 50 [(0, .ref 1), (1, .ref 4), (2, .int (pw_b (dg))), (3, .int (nI cl))] [.int (m2 2 3)] m2
        rw [show m2 2 3 = nI (pw_tB mm (pw_cz mm s k e).1) from r4]
        rw [← hZ]
        refine pw_ri (by decide +kernel) ?_
        have hn : (pw_cz mm s k e).2 = none := by cases hq : (pw_cz mm s k e).2 with | none => rfl | some p => rw [hq] at h40; cases h40
        have g1 : pw_rf mm 1 s k e = some (pw_tB mm (pw_cz mm s k e).1) := by rw [pw_rf, hn]
        have g3 : pw_RF mm = some (pw_tB mm (pw_cz mm s k e).1) := hrf.trans g1
        refine ⟨by rw [g3]; rfl, fun c c1 c2 c3 => by rw [r1 c c1 c2, pw_up_ne c1]; exact hfr c c1 c2 c3, r2.trans htx.2, fun z c c1 c2 => ?_, fun z => by rw [g3] at z; cases z⟩
        rw [r1 c (by omega) (by omega), pw_up_ne (by omega), hB c c1 c2, z]
        rfl
  | succ f ih =>
    intro cl s k e m1 B hcl hfr htx he he2 hs hk hs8 hk6 hT hB hrf hcs hln
    refine pw_blk (pc' := 28) [.iload 3, .iconst (14)] (by decide +kernel) ?_
    show pw_V x m_X2_read 3 Z 28 [(0, .ref 1), (1, .ref 4), (2, .int (pw_b (dg))), (3, .int (nI cl))] [.int (nI 14), .int (nI cl)] m1
    refine pw_in_gt (tgt := 114) (off := 86) (by omega) (by omega) (by decide +kernel) (by decide) (fun h28 => ?_) (fun h28 => ?_)
    · omega
    · refine pw_blk (pc' := 37) [.aload 0, .iload 3, .putfield 201, .aload 0] (by decide +kernel) ?_
      show pw_V x m_X2_read 3 Z 37 [(0, .ref 1), (1, .ref 4), (2, .int (pw_b (dg))), (3, .int (nI cl))] [.ref 1] (pw_up m1 1 1 (nI cl))
      refine pw_cV (vs := []) (rest := []) k_X2_readClause (c_readClause (A := mm) (pw_up m1 1 1 (nI cl)) (pw_tx_u htx (by decide)) hx bwr s k e he he2 hs hk hs8 hk6) l_2_35 rfl rfl rfl rfl (by omega) (Nat.le_of_ble_eq_true rfl) (by decide +kernel) ?_
      rintro _ m2 ⟨rfl, hrc⟩
      show pw_V x m_X2_read 3 Z 40 [(0, .ref 1), (1, .ref 4), (2, .int (pw_b (dg))), (3, .int (nI cl))] [.int (pw_b ((pw_cz mm s k e).2.isSome))] m2
      obtain ⟨r1, r2, r3, r4, r5, r6⟩ := hrc
      refine pw_ib_ne (tgt := 51) (off := 11) (by decide +kernel) (by decide) (fun h40 => ?_) (fun h40 => ?_)
      · obtain ⟨p, hp⟩ := Option.isSome_iff_exists.mp h40
        obtain ⟨u1, u2, u3, u4, u5⟩ := pw_cz_b hp hs8 hk6
        obtain ⟨v1, v2⟩ := pw_cz_n hp hs8 hk6
        obtain ⟨t1, t2, t3, t4, t5, t6⟩ := r6 p.1 p.2.1 p.2.2 hp
        have y1 := pw_tb1 (A := mm) (pw_cz_e (s := s) (k := k) he2)
        have y2 := pw_tb1 (A := mm) y1.2.2
        have jn : ∀ m3 : pw_m, (∀ c, c ≠ 1 → c ≠ 2 → (c < 4 ∨ 10 < c) → m3 c = mm c) → pw_tx mm m3 → m3 2 4 = nI (pw_tE mm (pw_cz mm s k e).1) → m3 1 2 = nI (pw_s2_ s p.1 p.2.1) → m3 1 3 = nI (pw_k2_ k p.1) → (dg = true → m3 4 0 = nI (pw_s2_ s p.1 p.2.1) ∧ m3 4 1 = nI (pw_k2_ k p.1)) → (∀ c, 4 ≤ c → c ≤ 10 → m3 c = (if dg = true then G_o1 B p else mm) c) → m3 1 1 = nI cl → pw_V x m_X2_read 3 Z 71 [(0, .ref 1), (1, .ref 4), (2, .int (pw_b (dg))), (3, .int (nI cl))] [] m3 := by
          intro m3 q1 q2 q3 q4 q5 q6 q7 q8
          refine pw_blk (pc' := 75) [.aload 0, .getfield 200] (by decide +kernel) ?_
          show pw_V x m_X2_read 3 Z 75 [(0, .ref 1), (1, .ref 4), (2, .int (pw_b (dg))), (3, .int (nI cl))] [.ref 2] m3
          refine pw_cV (vs := []) (rest := []) k_X3_advance (c_adv (A := mm) m3 q2 hx bwr (pw_tE mm (pw_cz mm s k e).1) q3 y1.2.2) l_2_55 rfl rfl rfl rfl (by omega) (Nat.le_of_ble_eq_true rfl) (by decide +kernel) ?_
          rintro _ m1 ⟨rfl, e1⟩
          rw [e1]
          clear e1 m1
          show pw_V x m_X2_read 3 Z 78 [(0, .ref 1), (1, .ref 4), (2, .int (pw_b (dg))), (3, .int (nI cl))] [] (pw_up (pw_up (pw_up m3 2 3 (nI (pw_tB mm (pw_tE mm (pw_cz mm s k e).1)))) 2 2 (pw_tT mm (pw_tE mm (pw_cz mm s k e).1))) 2 4 (nI (pw_tE mm (pw_tE mm (pw_cz mm s k e).1))))
          refine pw_blk (pc' := 85) [.aload 0, .getfield 200, .getfield 302] (by decide +kernel) ?_
          show pw_V x m_X2_read 3 Z 85 [(0, .ref 1), (1, .ref 4), (2, .int (pw_b (dg))), (3, .int (nI cl))] [.int (pw_tT mm (pw_tE mm (pw_cz mm s k e).1))] (pw_up (pw_up (pw_up m3 2 3 (nI (pw_tB mm (pw_tE mm (pw_cz mm s k e).1)))) 2 2 (pw_tT mm (pw_tE mm (pw_cz mm s k e).1))) 2 4 (nI (pw_tE mm (pw_tE mm (pw_cz mm s k e).1))))
          refine pw_if_ne (tgt := 90) (off := 5) (by decide +kernel) (by decide) (fun h85 => ?_) (fun h85 => ?_)
          · refine pw_blk (pc' := 94) [.aload 0, .getfield 200] (by decide +kernel) ?_
            show pw_V x m_X2_read 3 Z 94 [(0, .ref 1), (1, .ref 4), (2, .int (pw_b (dg))), (3, .int (nI cl))] [.ref 2] (pw_up (pw_up (pw_up m3 2 3 (nI (pw_tB mm (pw_tE mm (pw_cz mm s k e).1)))) 2 2 (pw_tT mm (pw_tE mm (pw_cz mm s k e).1))) 2 4 (nI (pw_tE mm (pw_tE mm (pw_cz mm s k e).1))))
            refine pw_cV (vs := []) (rest := []) k_X3_isSemicolon (c_semi (A := mm) (pw_up (pw_up (pw_up m3 2 3 (nI (pw_tB mm (pw_tE mm (pw_cz mm s k e).1)))) 2 2 (pw_tT mm (pw_tE mm (pw_cz mm s k e).1))) 2 4 (nI (pw_tE mm (pw_tE mm (pw_cz mm s k e).1)))) (pw_tx_u (pw_tx_u (pw_tx_u q2 (by decide)) (by decide)) (by decide)) hx bwr (pw_tE mm (pw_cz mm s k e).1) rfl rfl y1.2.2) l_2_61 rfl rfl rfl rfl (by omega) (Nat.le_of_ble_eq_true rfl) (by decide +kernel) ?_
            rintro _ m1 ⟨rfl, e1⟩
            rw [e1]
            clear e1 m1
            show pw_V x m_X2_read 3 Z 97 [(0, .ref 1), (1, .ref 4), (2, .int (pw_b (dg))), (3, .int (nI cl))] [.int (pw_b (pw_tS mm (pw_tE mm (pw_cz mm s k e).1)))] (pw_up (pw_up (pw_up m3 2 3 (nI (pw_tB mm (pw_tE mm (pw_cz mm s k e).1)))) 2 2 (pw_tT mm (pw_tE mm (pw_cz mm s k e).1))) 2 4 (nI (pw_tE mm (pw_tE mm (pw_cz mm s k e).1))))
            refine pw_ib_ne (tgt := 108) (off := 11) (by decide +kernel) (by decide) (fun h97 => ?_) (fun h97 => ?_)
            · have g1 : pw_rf mm (f + 2) s k e = pw_rf mm (f + 1) (pw_s2_ s p.1 p.2.1) (pw_k2_ k p.1) (pw_tE mm (pw_tE mm (pw_cz mm s k e).1)) := by rw [pw_rf, hp]; dsimp only; rw [if_neg h85, if_pos ⟨h97, by omega⟩]
              have g2 : pw_cq mm (f + 2) s k e = p :: pw_cq mm (f + 1) (pw_s2_ s p.1 p.2.1) (pw_k2_ k p.1) (pw_tE mm (pw_tE mm (pw_cz mm s k e).1)) := by rw [pw_cq, hp]; dsimp only; rw [if_neg h85, if_pos ⟨h97, by omega⟩]
              refine pw_blk (pc' := 111) [.iinc 3 1] (by decide +kernel) ?_
              show pw_V x m_X2_read 3 Z 111 [(3, .int ((nI cl) + (nI 1))), (0, .ref 1), (1, .ref 4), (2, .int (pw_b (dg)))] [] (pw_up (pw_up (pw_up m3 2 3 (nI (pw_tB mm (pw_tE mm (pw_cz mm s k e).1)))) 2 2 (pw_tT mm (pw_tE mm (pw_cz mm s k e).1))) 2 4 (nI (pw_tE mm (pw_tE mm (pw_cz mm s k e).1))))
              rw [show (nI cl) + (nI 1) = nI (cl + 1) from nI_add _ _]
              refine pw_goto (tgt := 25) (off := -86) (by decide +kernel) (by decide) ?_
              refine pw_lvp [1, 2, 3, 0] rfl ?_
              refine ih (cl + 1) (pw_s2_ s p.1 p.2.1) (pw_k2_ k p.1) (pw_tE mm (pw_tE mm (pw_cz mm s k e).1)) (pw_up (pw_up (pw_up m3 2 3 (nI (pw_tB mm (pw_tE mm (pw_cz mm s k e).1)))) 2 2 (pw_tT mm (pw_tE mm (pw_cz mm s k e).1))) 2 4 (nI (pw_tE mm (pw_tE mm (pw_cz mm s k e).1)))) (G_o1 B p) (by omega) (fun c c1 c2 c3 => ?_) (pw_tx_u (pw_tx_u (pw_tx_u q2 (by decide)) (by decide)) (by decide)) rfl y2.2.2 q4 q5 v1 v2 q6 (fun c c1 c2 => ?_) (hrf.trans g1) (hcs.trans (by rw [g2]; rfl)) (hln.trans (by rw [g2, List.length_cons]; omega))
              · rw [← q1 c c1 c2 c3]; simp only [pw_up, c2, if_false]
              · rw [← q7 c c1 c2]; simp only [pw_up, show ¬ c = 2 by omega, if_false]
            · refine pw_blk (pc' := 107) [.aload 0, .getfield 200, .getfield 303] (by decide +kernel) ?_
              show pw_V x m_X2_read 3 Z 107 [(0, .ref 1), (1, .ref 4), (2, .int (pw_b (dg))), (3, .int (nI cl))] [.int (nI (pw_tB mm (pw_tE mm (pw_cz mm s k e).1)))] (pw_up (pw_up (pw_up m3 2 3 (nI (pw_tB mm (pw_tE mm (pw_cz mm s k e).1)))) 2 2 (pw_tT mm (pw_tE mm (pw_cz mm s k e).1))) 2 4 (nI (pw_tE mm (pw_tE mm (pw_cz mm s k e).1))))
              rw [← hZ]
              refine pw_ri (by decide +kernel) ?_
              have g1 : pw_rf mm (f + 2) s k e = some (pw_tB mm (pw_tE mm (pw_cz mm s k e).1)) := by rw [pw_rf, hp]; dsimp only; rw [if_neg h85, if_neg (fun z => absurd (z.1.symm.trans h97) (by decide))]
              have g3 : pw_RF mm = some (pw_tB mm (pw_tE mm (pw_cz mm s k e).1)) := hrf.trans g1
              exact ⟨by rw [g3]; rfl, fun c c1 c2 c3 => by rw [← q1 c c1 c2 c3]; simp only [pw_up, c2, if_false], q2.2, fun z c c1 c2 => by rw [show mm c = (if dg = true then G_o1 B p else mm) c from by rw [z]; rfl, ← q7 c c1 c2]; simp only [pw_up, show ¬ c = 2 by omega, if_false], fun z => by rw [g3] at z; cases z⟩
          · refine pw_blk (pc' := 89) [.iconst (-1)] (by decide +kernel) ?_
            show pw_V x m_X2_read 3 Z 89 [(0, .ref 1), (1, .ref 4), (2, .int (pw_b (dg))), (3, .int (nI cl))] [.int (-1)] (pw_up (pw_up (pw_up m3 2 3 (nI (pw_tB mm (pw_tE mm (pw_cz mm s k e).1)))) 2 2 (pw_tT mm (pw_tE mm (pw_cz mm s k e).1))) 2 4 (nI (pw_tE mm (pw_tE mm (pw_cz mm s k e).1))))
            rw [← hZ]
            refine pw_ri (by decide +kernel) ?_
            have g1 : pw_rf mm (f + 2) s k e = none := by rw [pw_rf, hp]; dsimp only; rw [if_pos h85]
            have g2 : pw_cq mm (f + 2) s k e = [p] := by rw [pw_cq, hp]; dsimp only; rw [if_pos h85]
            have g3 : pw_RF mm = none := hrf.trans g1
            refine ⟨by rw [g3]; rfl, fun c c1 c2 c3 => by rw [← q1 c c1 c2 c3]; simp only [pw_up, c2, if_false], q2.2, fun z c c1 c2 => by rw [show mm c = (if dg = true then G_o1 B p else mm) c from by rw [z]; rfl, ← q7 c c1 c2]; simp only [pw_up, show ¬ c = 2 by omega, if_false], fun _ => ⟨?_, fun z c c1 c2 => ?_⟩⟩
            · have g4 : (pw_CQ mm).length = cl := by have g5 := hln; rw [g2, List.length_singleton] at g5; omega
              rw [g4]; exact q8
            · have g4 : G_oq mm (pw_CQ mm) = G_o1 B p := hcs.trans (by rw [g2]; rfl)
              rw [g4, show G_o1 B p c = (if dg = true then G_o1 B p else mm) c from by rw [if_pos z], ← q7 c c1 c2]; simp only [pw_up, show ¬ c = 2 by omega, if_false]
        have qa : ∀ c, c ≠ 1 → c ≠ 2 → (c < 4 ∨ 10 < c) → m2 c = mm c := fun c c1 c2 c3 => by rw [r1 c c1 c2, pw_up_ne c1]; exact hfr c c1 c2 c3
        refine pw_blk (pc' := 52) [.iload 2] (by decide +kernel) ?_
        show pw_V x m_X2_read 3 Z 52 [(0, .ref 1), (1, .ref 4), (2, .int (pw_b (dg))), (3, .int (nI cl))] [.int (pw_b (dg))] m2
        refine pw_ib_eq (tgt := 71) (off := 19) (by decide +kernel) (by decide) (fun h52 => ?_) (fun h52 => ?_)
        · refine pw_lvp [0, 1, 2, 3] rfl ?_
          refine jn m2 qa (pw_tx_f (pw_tx_u htx (by decide) : pw_tx mm (pw_up m1 1 1 (nI cl))) (r1 3 (by omega) (by omega)) r2) r5 t5 t6 (fun z => absurd (z.symm.trans h52) (by decide)) (fun c c1 c2 => ?_) (r3.trans rfl)
          rw [r1 c (by omega) (by omega), pw_up_ne (by omega), hB c c1 c2, h52]
          rfl
        · have m24 : m1 4 = m2 4 := by rw [r1 4 (by omega) (by omega), pw_up_ne (by omega)]
          have o1 : 1 ≤ p.1 → p.1 ≤ 4 → ∃ sx, m2 1 5 = nI sx ∧ sx < s := fun w1 w2 => ⟨p.2.1, by rw [t3, if_neg]; exact pw_nbA w1 w2, pw_mfA w1 w2 (u3 (pw_nbB w1 w2)).2⟩
          have o2 : 5 ≤ p.1 → p.1 ≤ 7 → k < 6 := fun w1 w2 => u2 (decide_eq_true ⟨w1, w2⟩)
          have o3 : p.1 = 8 → ∃ ax bx, m2 1 5 = nI ax ∧ m2 1 6 = nI bx ∧ ax < k ∧ bx < k := fun w1 => by rw [w1] at t3 t4 u3 u4; exact ⟨p.2.1, p.2.2, t3, t4, (u3 (by decide)).2, u4 (by decide)⟩
          refine pw_blk (pc' := 68) [.aload 1, .aload 0, .getfield 204, .aload 0, .getfield 205, .aload 0, .getfield 206] (by decide +kernel) ?_
          show pw_V x m_X2_read 3 Z 68 [(0, .ref 1), (1, .ref 4), (2, .int (pw_b (dg))), (3, .int (nI cl))] [.int (m2 1 6), .int (m2 1 5), .int (m2 1 4), .ref 4] m2
          rw [show m2 1 4 = nI (p.1) from t2]
          refine pw_cV (vs := [.int (nI (p.1)), .int (m2 1 5), .int (m2 1 6)]) (rest := []) k_X5_obey (c_obey p.1 u1 (m2 1 5) (m2 1 6) m2 s k (by rw [← m24]; exact (hT h52).1) hs8 (by rw [← m24]; exact (hT h52).2) hk6 o1 o2 o3) l_2_51 rfl rfl rfl rfl (by omega) (Nat.le_of_ble_eq_true rfl) (by decide +kernel) ?_
          rintro _ m1 ⟨rfl, e1⟩
          rw [e1]
          clear e1 m1
          show pw_V x m_X2_read 3 Z 71 [(0, .ref 1), (1, .ref 4), (2, .int (pw_b (dg))), (3, .int (nI cl))] [] (G_ob m2 p.1 (m2 1 5) (m2 1 6))
          refine pw_lvp [0, 1, 2, 3] rfl ?_
          rw [t3, t4, G_ob_nb u1]
          refine jn _ (fun c c1 c2 c3 => by rw [G_ob_o u1 c3]; exact qa c c1 c2 c3) (pw_tx_f (pw_tx_f (pw_tx_u htx (by decide) : pw_tx mm (pw_up m1 1 1 (nI cl))) (r1 3 (by omega) (by omega)) r2) (G_ob_o u1 (by omega)) (by rw [G_ob_o u1 (by omega)])) (by rw [G_ob_o u1 (by omega)]; exact r5) (by rw [G_ob_o u1 (by omega)]; exact t5) (by rw [G_ob_o u1 (by omega)]; exact t6) (fun z => G_ob_n u1 (by rw [← m24]; exact (hT z).1) (by rw [← m24]; exact (hT z).2) hk6) (fun c c1 c2 => ?_) (by rw [G_ob_o u1 (by omega)]; exact r3.trans rfl)
          rw [if_pos h52]
          exact G_ob_c u1 (fun d d1 d2 => by rw [r1 d (by omega) (by omega), pw_up_ne (by omega), hB d d1 d2, h52]; rfl) c1 c2
      · refine pw_blk (pc' := 50) [.aload 0, .getfield 200, .getfield 303] (by decide +kernel) ?_
        show pw_V x m_X2_read 3 Z 50 [(0, .ref 1), (1, .ref 4), (2, .int (pw_b (dg))), (3, .int (nI cl))] [.int (m2 2 3)] m2
        rw [show m2 2 3 = nI (pw_tB mm (pw_cz mm s k e).1) from r4]
        rw [← hZ]
        refine pw_ri (by decide +kernel) ?_
        have hn : (pw_cz mm s k e).2 = none := by cases hq : (pw_cz mm s k e).2 with | none => rfl | some p => rw [hq] at h40; cases h40
        have g1 : pw_rf mm (f + 2) s k e = some (pw_tB mm (pw_cz mm s k e).1) := by rw [pw_rf, hn]
        have g3 : pw_RF mm = some (pw_tB mm (pw_cz mm s k e).1) := hrf.trans g1
        refine ⟨by rw [g3]; rfl, fun c c1 c2 c3 => by rw [r1 c c1 c2, pw_up_ne c1]; exact hfr c c1 c2 c3, r2.trans htx.2, fun z c c1 c2 => ?_, fun z => by rw [g3] at z; cases z⟩
        rw [r1 c (by omega) (by omega), pw_up_ne (by omega), hB c c1 c2, z]
        rfl
