theorem pw_rf_b {A : pw_m} : ∀ f s k e b, e ≤ pw_g A 2 1 → pw_rf A f s k e = some b → b ≤ pw_g A 2 1 := by
  intro f
  induction f with
  | zero => intro s k e b _ h; cases h
  | succ f ih =>
    intro s k e b he h
    have h1 := pw_cz_e (s := s) (k := k) he
    have h2 := pw_tb1 h1
    have h3 := pw_tb1 h2.2.2
    rw [pw_rf] at h
    cases hp : (pw_cz A s k e).2 with
    | none =>
      rw [hp] at h
      cases h
      omega
    | some p =>
      rw [hp] at h
      dsimp only at h
      split at h
      · cases h
      · split at h
        · exact ih _ _ _ _ h3.2.2 h
        · cases h
          omega
theorem pw_RF_b {A : pw_m} (h : pw_ok A) {b : Nat} (q : pw_RF A = some b) : b ≤ 160 := Nat.le_trans (pw_rf_b 14 _ _ 0 b (Nat.zero_le _) q) (pw_b21 h)
theorem pw_rdfx {mm B : pw_m} (h : pw_rdp mm B false) : pw_fx mm B := ⟨fun c h1 h2 => by
  by_cases q : 4 ≤ c ∧ c ≤ 10
  · exact h.2.2.1 rfl c q.1 q.2
  · exact h.1 c h1 h2 (by omega), h.2.1⟩

set_option maxHeartbeats 4000000 in
set_option maxRecDepth 100000 in
theorem c_fault (mm : pw_m) (hok : pw_ok mm) : pw_Ct 4 yX7_fault m_X7_fault [.ref 0] mm (fun r m' => r = some (.int (pw_o (pw_RF mm))) ∧ pw_fx mm m') := by
  refine pw_ct (by decide +kernel) rfl (Nat.le_of_ble_eq_true rfl) (fun x => ?_)
  generalize hZ : pw_Z x _ = Z
  show pw_V x m_X7_fault 4 Z 0 [(0, .ref 0)] [] mm
  refine pw_blk (pc' := 9) [.aload 0, .getfield 700, .aload 0, .getfield 701, .iconst 0] (by decide +kernel) ?_
  show pw_V x m_X7_fault 4 Z 9 [(0, .ref 0)] [.int (nI 0), .ref 4, .ref 1] mm
  refine pw_cV (vs := [.ref 4, .int (nI 0)]) (rest := []) k_X2_read (c_read false mm hok) l_7_69 rfl rfl rfl rfl (by omega) (Nat.le_of_ble_eq_true rfl) (by decide +kernel) ?_
  rintro _ ma ⟨rfl, hrdma⟩
  show pw_V x m_X7_fault 4 Z 12 [(0, .ref 0)] [.int (pw_o (pw_RF mm))] ma
  have hfx : pw_fx mm ma := pw_rdfx hrdma
  have hoka := pw_fx_ok hfx hok
  have erf := pw_RF_c hfx
  have ecq := pw_CQ_c hfx
  rw [← hZ]
  refine pw_ri (by decide +kernel) ?_
  exact ⟨rfl, hfx⟩

set_option maxHeartbeats 4000000 in
set_option maxRecDepth 100000 in
theorem c_table (mm : pw_m) (hok : pw_ok mm) : pw_Ct 4 yX7_table m_X7_table [.ref 0] mm (fun r m' => r = some (.int (F_table mm)) ∧ pw_fx (G_table mm) m') := by
  refine pw_ct (by decide +kernel) rfl (Nat.le_of_ble_eq_true rfl) (fun x => ?_)
  generalize hZ : pw_Z x _ = Z
  show pw_V x m_X7_table 4 Z 0 [(0, .ref 0)] [] mm
  refine pw_blk (pc' := 9) [.aload 0, .getfield 700, .aload 0, .getfield 701, .iconst 0] (by decide +kernel) ?_
  show pw_V x m_X7_table 4 Z 9 [(0, .ref 0)] [.int (nI 0), .ref 4, .ref 1] mm
  refine pw_cV (vs := [.ref 4, .int (nI 0)]) (rest := []) k_X2_read (c_read false mm hok) l_7_69 rfl rfl rfl rfl (by omega) (Nat.le_of_ble_eq_true rfl) (by decide +kernel) ?_
  rintro _ ma ⟨rfl, hrdma⟩
  show pw_V x m_X7_table 4 Z 12 [(0, .ref 0)] [.int (pw_o (pw_RF mm))] ma
  have hfx : pw_fx mm ma := pw_rdfx hrdma
  have hoka := pw_fx_ok hfx hok
  have erf := pw_RF_c hfx
  have ecq := pw_CQ_c hfx
  refine pw_blk (pc' := 13) [.iconst (-1)] (by decide +kernel) ?_
  show pw_V x m_X7_table 4 Z 13 [(0, .ref 0)] [.int (-1), .int (pw_o (pw_RF mm))] ma
  rcases h13 : pw_RF mm with _ | s13
  · show pw_V x m_X7_table 4 Z 13 [(0, .ref 0)] [.int (-1), .int (-1)] ma
    refine pw_ic_eq (tgt := 19) (off := 6) (by decide +kernel) (by decide) (fun _ => ?_) (fun h => absurd rfl h)
    refine pw_blk (pc' := 28) [.aload 0, .getfield 700, .aload 0, .getfield 701, .iconst 1] (by decide +kernel) ?_
    show pw_V x m_X7_table 4 Z 28 [(0, .ref 0)] [.int (nI 1), .ref 4, .ref 1] ma
    refine pw_cV (vs := [.ref 4, .int (nI 1)]) (rest := []) k_X2_read (c_read true ma hoka) l_7_69 rfl rfl rfl rfl (by omega) (Nat.le_of_ble_eq_true rfl) (by decide +kernel) ?_
    rintro _ mb ⟨rfl, hrdmb⟩
    show pw_V x m_X7_table 4 Z 31 [(0, .ref 0)] [.int (pw_o (pw_RF ma))] mb
    obtain ⟨y1, y2, y3, y4⟩ := hrdmb
    refine pw_blk (pc' := 32) [.pop] (by decide +kernel) ?_
    show pw_V x m_X7_table 4 Z 32 [(0, .ref 0)] [] mb
    have h13a : pw_RF ma = none := erf.trans h13
    have y5 := (y4 h13a).1
    have y6 := (y4 h13a).2 rfl
    rw [ecq] at y5 y6
    have bn := pw_bn hok
    have bk := pw_bk hok
    have hT0 : pw_okT (G_oq mm (pw_CQ mm)) := pw_okT_oq 14 (pw_n mm) (pw_k mm) 0 mm hok.1 (pw_q40 hok) (pw_q41 hok) bn bk
    have oq : ∀ c, (c < 4 ∨ 10 < c) → G_oq mm (pw_CQ mm) c = mm c := G_oq_o 14 (pw_n mm) (pw_k mm) 0 mm bn bk
    have y7 : ∀ c, 4 ≤ c → c ≤ 10 → mb c = G_oq mm (pw_CQ mm) c := fun c c1 c2 => (y6 c c1 c2).trans (G_oq_c (A := mm) (B := ma) 14 (pw_n mm) (pw_k mm) 0 mm ma (fun d d1 d2 => hfx.1 d (by omega) (by omega)) bn bk c c1 c2)
    have y8 : ∀ c, c ≠ 1 → c ≠ 2 → mb c = G_oq mm (pw_CQ mm) c := fun c c1 c2 => by
      by_cases q : 4 ≤ c ∧ c ≤ 10
      · exact y7 c q.1 q.2
      · rw [y1 c c1 c2 (by omega), hfx.1 c c1 c2, oq c (by omega)]
    have z41 : mb 4 1 = nI (pw_k (G_oq mm (pw_CQ mm))) := by rw [y7 4 (by omega) (by omega)]; exact hT0.1.2.1
    have z46 : pw_k (G_oq mm (pw_CQ mm)) ≤ 6 := by have := hT0.1.2.2; unfold pw_k; omega
    refine pw_blk (pc' := 51) [.aload 0, .getfield 700, .getfield 200, .iconst 0, .putfield 301, .aload 0, .getfield 702, .aload 0, .getfield 701] (by decide +kernel) ?_
    show pw_V x m_X7_table 4 Z 51 [(0, .ref 0)] [.ref 4, .ref 42] (pw_up mb 2 1 (nI 0))
    refine pw_cV (vs := [.ref 4]) (rest := []) k_X0_begin (c_begin (pw_up mb 2 1 (nI 0)) (pw_k (G_oq mm (pw_CQ mm))) z41 z46) l_7_73 rfl rfl rfl rfl (by omega) (Nat.le_of_ble_eq_true rfl) (by decide +kernel) ?_
    rintro _ m1 ⟨rfl, e1⟩
    rw [e1]
    clear e1 m1
    show pw_V x m_X7_table 4 Z 54 [(0, .ref 0)] [] (G_bg (pw_up mb 2 1 (nI 0)) (pw_k (G_oq mm (pw_CQ mm))))
    refine pw_blk (pc' := 58) [.aload 0, .getfield 703] (by decide +kernel) ?_
    show pw_V x m_X7_table 4 Z 58 [(0, .ref 0)] [.ref 11] (G_bg (pw_up mb 2 1 (nI 0)) (pw_k (G_oq mm (pw_CQ mm))))
    refine pw_cV (vs := []) (rest := []) k_X1_clear (c_clear (G_bg (pw_up mb 2 1 (nI 0)) (pw_k (G_oq mm (pw_CQ mm))))) l_7_77 rfl rfl rfl rfl (by omega) (Nat.le_of_ble_eq_true rfl) (by decide +kernel) ?_
    rintro _ m1 ⟨rfl, e1⟩
    rw [e1]
    clear e1 m1
    show pw_V x m_X7_table 4 Z 61 [(0, .ref 0)] [] (pw_up (pw_up (G_bg (pw_up mb 2 1 (nI 0)) (pw_k (G_oq mm (pw_CQ mm)))) 11 2 (nI 0)) 11 3 (nI 0))
    refine pw_blk (pc' := 76) [.aload 0, .getfield 704, .iconst 0, .putfield 604, .aload 0, .getfield 700, .getfield 201] (by decide +kernel) ?_
    show pw_V x m_X7_table 4 Z 76 [(0, .ref 0)] [.int ((G_bg (pw_up mb 2 1 (nI 0)) (pw_k (G_oq mm (pw_CQ mm)))) 1 1)] (pw_up (pw_up (pw_up (G_bg (pw_up mb 2 1 (nI 0)) (pw_k (G_oq mm (pw_CQ mm)))) 11 2 (nI 0)) 11 3 (nI 0)) 14 4 (nI 0))
    rw [← hZ]
    refine pw_ri (by decide +kernel) ?_
    have hg : G_table mm = G_tab mm := by unfold G_table; rw [if_pos h13]
    have ev : (G_bg (pw_up mb 2 1 (nI 0)) (pw_k (G_oq mm (pw_CQ mm)))) 1 1 = nI (pw_CQ mm).length := by rw [G_bg_o (by omega), pw_up_ne (by omega)]; exact y5
    refine ⟨by rw [ev]; unfold F_table; rw [if_pos h13], fun c c1 c2 => ?_, ?_⟩
    · rw [hg]
      unfold G_tab
      exact pw_up_c (pw_up_c (pw_up_c (G_bg_c (pw_up_c (y8 c c1 c2)) (pw_up_c (y8 8 (by omega) (by omega))))))
    · rw [hg]
      unfold G_tab
      rw [pw_up_ne (by omega), pw_up_ne (by omega), pw_up_ne (by omega), G_bg_o (by omega), pw_up_eq, pw_up_ne (by omega), pw_up_ne (by omega), pw_up_ne (by omega), G_bg_o (by omega), pw_up_eq]
      rfl
  · show pw_V x m_X7_table 4 Z 13 [(0, .ref 0)] [.int (-1), .int (nI s13)] ma
    have b13 := pw_RF_b hok h13
    refine pw_ic_eq (tgt := 19) (off := 6) (by decide +kernel) (by decide) (fun h => absurd h (pw_n1 (by omega))) (fun _ => ?_)
    refine pw_blk (pc' := 18) [.iconst (-4)] (by decide +kernel) ?_
    show pw_V x m_X7_table 4 Z 18 [(0, .ref 0)] [.int (-4)] ma
    rw [← hZ]
    refine pw_ri (by decide +kernel) ?_
    exact ⟨by unfold F_table; rw [h13]; rfl, by unfold G_table; rw [h13]; exact hfx⟩
