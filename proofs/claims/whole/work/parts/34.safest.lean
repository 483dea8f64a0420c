def pw_frw (A B : pw_m) : Prop := (∀ c, c ≠ 14 → c ≠ 19 → B c = A c) ∧ B 14 4 = A 14 4
theorem pw_frw_s {A : pw_m} {z : pw_z} : pw_frw A (pw_svm A z) := ⟨fun c h1 h2 => pw_svm_o h1 h2, rfl⟩
theorem pw_frw_r {A : pw_m} : pw_frw A A := ⟨fun _ _ _ => rfl, rfl⟩
theorem pw_frw_ok {A B : pw_m} (h : pw_frw A B) (q : pw_ok A) : pw_ok B := pw_ok_f (fun c hc => h.1 c (by omega) (by omega)) (by rw [h.1 2 (by omega) (by omega)]) h.2 q
def F_worlds (A : pw_m) (w : Int32) : Int32 := if pw_inr w 3 then (if w = nI 0 then nI (pw_z3 A (pw_g A 42 0) none).1 else if w = nI 1 then nI (pw_z3 A (pw_g A 42 0) none).2.1 else nI (pw_z3 A (pw_g A 42 0) none).2.2.1) else -3
/-- in how many worlds, at most -/
theorem pw_fo_le {g : Nat → pw_z → pw_z} {p c : Nat} (hg : ∀ s z, (g s z).2.2.2 p ≤ z.2.2.2 p + c) : ∀ n z, (pw_fo g n z).2.2.2 p ≤ z.2.2.2 p + n * c := by
  intro n z
  induction n with
  | zero => simp [pw_fo]
  | succ n ih =>
    have h1 := hg n (pw_fo g n z)
    simp only [pw_fo]
    rw [Nat.succ_mul]
    omega
theorem pw_zs_le {A : pw_m} {dy : Nat} {gx : Option Nat} {st sp p : Nat} (t : Nat) (z : pw_z) : (pw_zs A dy gx st sp t z).2.2.2 p ≤ z.2.2.2 p + 1 := by
  unfold pw_zs
  split
  · omega
  · split
    · dsimp only
      split
      · rename_i h; subst h; split <;> omega
      · omega
    · omega
theorem pw_z3_le {A : pw_m} {dy : Nat} {gx : Option Nat} {p : Nat} (hn : pw_n A ≤ 8) (hk : pw_k A ≤ 6) : (pw_z3 A dy gx).2.2.2 p ≤ 448 := by
  have h := pw_fo_le (g := pw_z2 A dy gx) (p := p) (c := pw_n A * (pw_k A + 1)) (fun st z => pw_fo_le (g := pw_z1 A dy gx st) (p := p) (c := pw_k A + 1) (fun sp z => by have := pw_fo_le (g := pw_zs A dy gx st sp) (p := p) (c := 1) (fun t z => pw_zs_le t z) (pw_k A + 1) z; unfold pw_z1; omega) (pw_n A) z) (pw_n A) (0, 0, 0, fun _ => 0)
  have h1 : pw_n A * (pw_k A + 1) ≤ 8 * 7 := Nat.mul_le_mul hn (by omega)
  have h2 : pw_n A * (pw_n A * (pw_k A + 1)) ≤ 8 * 56 := Nat.mul_le_mul hn h1
  unfold pw_z3
  simp only at h
  omega
def pw_rk (A : pw_m) (k s : Nat) : Nat := if pw_g A 7 k = 1 then 0 else (pw_z3 A (pw_g A 42 0) (some k)).2.2.2 s
def pw_sf (A : pw_m) (k : Nat) : Nat → Option (Nat × Nat)
  | 0 => none
  | s + 1 => match pw_sf A k s with
    | none => if pw_fnow A k s then some (s, pw_rk A k s) else none
    | some p => if pw_fnow A k s && decide (pw_rk A k s < p.2) then some (s, pw_rk A k s) else some p
def F_safest (A : pw_m) (k w : Int32) : Int32 := if pw_inr k (pw_k A) then (if pw_inr w 2 then (if w = nI 0 then pw_o ((pw_sf A (pw_c k) (pw_n A)).map (·.1)) else pw_o ((pw_sf A (pw_c k) (pw_n A)).map (·.2))) else -3) else -2
theorem pw_rk_le {A : pw_m} {k s : Nat} (hn : pw_n A ≤ 8) (hk : pw_k A ≤ 6) : pw_rk A k s ≤ 448 := by
  unfold pw_rk
  split
  · omega
  · exact pw_z3_le hn hk
theorem pw_sf_b {A : pw_m} {k : Nat} (hn : pw_n A ≤ 8) (hk : pw_k A ≤ 6) : ∀ s p, pw_sf A k s = some p → p.1 < s ∧ p.2 ≤ 448 := by
  intro s
  induction s with
  | zero => intro p h; cases h
  | succ s ih =>
    intro p h
    have hr : pw_rk A k s ≤ 448 := pw_rk_le hn hk
    unfold pw_sf at h
    split at h
    · split at h
      · cases h; exact ⟨by omega, hr⟩
      · cases h
    · rename_i q hq
      split at h
      · cases h; exact ⟨by omega, hr⟩
      · have h9 := ih _ hq
        cases h
        exact ⟨by omega, h9.2⟩

set_option maxHeartbeats 4000000 in
set_option maxRecDepth 100000 in
theorem c_worlds (w : Int32) (mm : pw_m) (hok : pw_ok mm) : pw_Ct 4 yX7_worlds m_X7_worlds [.ref 0, .int w] mm (fun r m' => r = some (.int (F_worlds mm w)) ∧ pw_frw mm m') := by
  refine pw_ct (by decide +kernel) rfl (Nat.le_of_ble_eq_true rfl) (fun x => ?_)
  generalize hZ : pw_Z x _ = Z
  have bn := pw_bn hok
  have bk := pw_bk hok
  have bd := pw_b420 hok
  show pw_V x m_X7_worlds 4 Z 0 [(0, .ref 0), (1, .int w)] [] mm
  refine pw_blk (pc' := 1) [.iload 1] (by decide +kernel) ?_
  show pw_V x m_X7_worlds 4 Z 1 [(0, .ref 0), (1, .int w)] [.int w] mm
  refine pw_if_lt (tgt := 9) (off := 8) (by decide +kernel) (by decide) (fun h1 => ?_) (fun h1 => ?_)
  · refine pw_blk (pc' := 11) [.iconst (-3)] (by decide +kernel) ?_
    show pw_V x m_X7_worlds 4 Z 11 [(0, .ref 0), (1, .int w)] [.int (-3)] mm
    rw [← hZ]
    refine pw_ri (by decide +kernel) ?_
    exact ⟨by simp [F_worlds, pw_inr_f1 h1], pw_frw_r⟩
  · refine pw_blk (pc' := 6) [.iload 1, .iconst 2] (by decide +kernel) ?_
    show pw_V x m_X7_worlds 4 Z 6 [(0, .ref 0), (1, .int w)] [.int (nI 2), .int w] mm
    refine pw_ic_le (tgt := 12) (off := 6) (by decide +kernel) (by decide) (fun h6 => ?_) (fun h6 => ?_)
    · refine pw_blk (pc' := 28) [.aload 0, .getfield 704, .aload 0, .getfield 701, .aload 0, .getfield 702, .getfield 0, .iconst (-1)] (by decide +kernel) ?_
      show pw_V x m_X7_worlds 4 Z 28 [(0, .ref 0), (1, .int w)] [.int (-1), .int (mm 42 0), .ref 4, .ref 14] mm
      rw [show mm 42 0 = nI (pw_g mm 42 0) from pw_q420 hok]
      refine pw_cV (vs := [.ref 4, .int (nI (pw_g mm 42 0)), .int (-1)]) (rest := []) k_X6_survey (c_survey (pw_g mm 42 0) none mm hok bd (fun c hc => by cases hc)) l_7_224 rfl rfl rfl rfl (by omega) (Nat.le_of_ble_eq_true rfl) (by decide +kernel) ?_
      rintro _ m1 ⟨rfl, e1⟩
      rw [e1]
      clear e1 m1
      show pw_V x m_X7_worlds 4 Z 31 [(0, .ref 0), (1, .int w)] [] (pw_svm mm (pw_z3 mm (pw_g mm 42 0) none))
      refine pw_blk (pc' := 32) [.iload 1] (by decide +kernel) ?_
      show pw_V x m_X7_worlds 4 Z 32 [(0, .ref 0), (1, .int w)] [.int w] (pw_svm mm (pw_z3 mm (pw_g mm 42 0) none))
      refine pw_lsw (dflt := 44) (ps := #[(0, 28), (1, 36)]) (len := 28) (by decide +kernel) (by decide) ?_
      by_cases h32_0 : w = nI 0
      · refine ⟨28, 60, by rw [h32_0]; rfl, by decide, ?_⟩
        subst h32_0
        refine pw_blk (pc' := 67) [.aload 0, .getfield 704, .getfield 605] (by decide +kernel) ?_
        show pw_V x m_X7_worlds 4 Z 67 [(0, .ref 0), (1, .int (nI 0))] [.int ((pw_svm mm (pw_z3 mm (pw_g mm 42 0) none)) 14 5)] (pw_svm mm (pw_z3 mm (pw_g mm 42 0) none))
        rw [show (pw_svm mm (pw_z3 mm (pw_g mm 42 0) none)) 14 5 = nI ((pw_z3 mm (pw_g mm 42 0) none).1) from rfl]
        rw [← hZ]
        refine pw_ri (by decide +kernel) ?_
        exact ⟨by unfold F_worlds; rw [if_pos (pw_inr_y3 (n := 2) (by omega) h1 h6)]; rfl, pw_frw_s⟩
      by_cases h32_1 : w = nI 1
      · refine ⟨36, 68, by rw [h32_1]; rfl, by decide, ?_⟩
        subst h32_1
        refine pw_blk (pc' := 75) [.aload 0, .getfield 704, .getfield 606] (by decide +kernel) ?_
        show pw_V x m_X7_worlds 4 Z 75 [(0, .ref 0), (1, .int (nI 1))] [.int ((pw_svm mm (pw_z3 mm (pw_g mm 42 0) none)) 14 6)] (pw_svm mm (pw_z3 mm (pw_g mm 42 0) none))
        rw [show (pw_svm mm (pw_z3 mm (pw_g mm 42 0) none)) 14 6 = nI ((pw_z3 mm (pw_g mm 42 0) none).2.1) from rfl]
        rw [← hZ]
        refine pw_ri (by decide +kernel) ?_
        exact ⟨by unfold F_worlds; rw [if_pos (pw_inr_y3 (n := 2) (by omega) h1 h6), if_neg nz10]; rfl, pw_frw_s⟩
      refine ⟨44, 76, by rw [show (#[(0, 28), (1, 36)] : Array (Int × Int)).toList = [(0, 28), (1, 36)] from rfl, lv_osw h32_0 (by decide), lv_osw h32_1 (by decide)]; rfl, by decide, ?_⟩
      refine pw_blk (pc' := 83) [.aload 0, .getfield 704, .getfield 607] (by decide +kernel) ?_
      show pw_V x m_X7_worlds 4 Z 83 [(0, .ref 0), (1, .int w)] [.int ((pw_svm mm (pw_z3 mm (pw_g mm 42 0) none)) 14 7)] (pw_svm mm (pw_z3 mm (pw_g mm 42 0) none))
      rw [show (pw_svm mm (pw_z3 mm (pw_g mm 42 0) none)) 14 7 = nI ((pw_z3 mm (pw_g mm 42 0) none).2.2.1) from rfl]
      rw [← hZ]
      refine pw_ri (by decide +kernel) ?_
      exact ⟨by unfold F_worlds; rw [if_pos (pw_inr_y3 (n := 2) (by omega) h1 h6), if_neg h32_0, if_neg h32_1], pw_frw_s⟩
    · refine pw_blk (pc' := 11) [.iconst (-3)] (by decide +kernel) ?_
      show pw_V x m_X7_worlds 4 Z 11 [(0, .ref 0), (1, .int w)] [.int (-3)] mm
      rw [← hZ]
      refine pw_ri (by decide +kernel) ?_
      exact ⟨by simp [F_worlds, pw_inr_f3 (n := 2) (by omega) (Int32.not_le.mp h6)], pw_frw_r⟩

set_option maxHeartbeats 4000000 in
set_option maxRecDepth 100000 in
theorem c_safest (k w : Int32) (mm : pw_m) (hok : pw_ok mm) : pw_Ct 4 yX7_safest m_X7_safest [.ref 0, .int k, .int w] mm (fun r m' => r = some (.int (F_safest mm k w)) ∧ pw_frw mm m') := by
  refine pw_ct (by decide +kernel) rfl (Nat.le_of_ble_eq_true rfl) (fun x => ?_)
  generalize hZ : pw_Z x _ = Z
  have bn := pw_bn hok
  have bk := pw_bk hok
  have h0k := hok
  have bd := pw_b420 hok
  show pw_V x m_X7_safest 4 Z 0 [(0, .ref 0), (1, .int k), (2, .int w)] [] mm
  refine pw_blk (pc' := 2) [.aload 0, .iload 1] (by decide +kernel) ?_
  show pw_V x m_X7_safest 4 Z 2 [(0, .ref 0), (1, .int k), (2, .int w)] [.int k, .ref 0] mm
  refine pw_cV (vs := [.int k]) (rest := []) k_X7_isKnight (c_isKnight k mm hok) l_7_106 rfl rfl rfl rfl (by omega) (Nat.le_of_ble_eq_true rfl) (by decide +kernel) ?_
  rintro _ m1 ⟨rfl, e1⟩
  rw [e1]
  clear e1 m1
  show pw_V x m_X7_safest 4 Z 5 [(0, .ref 0), (1, .int k), (2, .int w)] [.int (pw_b (pw_inr k (pw_k mm)))] mm
  refine pw_ib_ne (tgt := 11) (off := 6) (by decide +kernel) (by decide) (fun h5 => ?_) (fun h5 => ?_)
  · obtain ⟨j5, b5, e5⟩ := pw_inr_t (by omega) h5
    subst e5
    refine pw_blk (pc' := 12) [.iload 2] (by decide +kernel) ?_
    show pw_V x m_X7_safest 4 Z 12 [(0, .ref 0), (1, .int (nI j5)), (2, .int w)] [.int w] mm
    refine pw_if_lt (tgt := 20) (off := 8) (by decide +kernel) (by decide) (fun h12 => ?_) (fun h12 => ?_)
    · refine pw_blk (pc' := 22) [.iconst (-3)] (by decide +kernel) ?_
      show pw_V x m_X7_safest 4 Z 22 [(0, .ref 0), (1, .int (nI j5)), (2, .int w)] [.int (-3)] mm
      rw [← hZ]
      refine pw_ri (by decide +kernel) ?_
      exact ⟨by unfold F_safest; rw [if_pos (show pw_inr (nI j5) (pw_k mm) = true from by rw [pw_inr_nI (show j5 < 2 ^ 31 by omega) (show pw_k mm < 2 ^ 31 by omega)]; exact decide_eq_true b5), if_neg (by rw [pw_inr_f1 h12]; decide)], pw_frw_r⟩
    · refine pw_blk (pc' := 17) [.iload 2, .iconst 1] (by decide +kernel) ?_
      show pw_V x m_X7_safest 4 Z 17 [(0, .ref 0), (1, .int (nI j5)), (2, .int w)] [.int (nI 1), .int w] mm
      refine pw_ic_le (tgt := 23) (off := 6) (by decide +kernel) (by decide) (fun h17 => ?_) (fun h17 => ?_)
      · refine pw_blk (pc' := 39) [.aload 0, .getfield 704, .aload 0, .getfield 701, .aload 0, .getfield 702, .getfield 0, .iload 1] (by decide +kernel) ?_
        show pw_V x m_X7_safest 4 Z 39 [(0, .ref 0), (1, .int (nI j5)), (2, .int w)] [.int (nI j5), .int (mm 42 0), .ref 4, .ref 14] mm
        rw [show mm 42 0 = nI (pw_g mm 42 0) from pw_q420 hok]
        refine pw_cV (vs := [.ref 4, .int (nI (pw_g mm 42 0)), .int (nI j5)]) (rest := []) k_X6_survey (c_survey (pw_g mm 42 0) (some j5) mm hok bd (fun c hc => by cases hc; omega)) l_7_224 rfl rfl rfl rfl (by omega) (Nat.le_of_ble_eq_true rfl) (by decide +kernel) ?_
        rintro _ m1 ⟨rfl, e1⟩
        rw [e1]
        clear e1 m1
        show pw_V x m_X7_safest 4 Z 42 [(0, .ref 0), (1, .int (nI j5)), (2, .int w)] [] (pw_svm mm (pw_z3 mm (pw_g mm 42 0) (some j5)))
        refine pw_blk (pc' := 50) [.iconst (-1), .istore 3, .iconst (-1), .istore 4, .iconst 0, .istore 5] (by decide +kernel) ?_
        show pw_V x m_X7_safest 4 Z 50 [(5, .int (nI 0)), (4, .int (-1)), (3, .int (-1)), (0, .ref 0), (1, .int (nI j5)), (2, .int w)] [] (pw_svm mm (pw_z3 mm (pw_g mm 42 0) (some j5)))
        refine pw_lvp [3, 4, 5, 2, 1, 0] rfl ?_
        suffices lo : ∀ sx : Nat, sx ≤ pw_n mm → pw_V x m_X7_safest 4 Z 50 [(0, .ref 0), (1, .int (nI j5)), (2, .int w), (3, .int (pw_o ((pw_sf mm j5 sx).map (·.1)))), (4, .int (pw_o ((pw_sf mm j5 sx).map (·.2)))), (5, .int (nI sx))] [] (pw_svm mm (pw_z3 mm (pw_g mm 42 0) (some j5))) from lo 0 (by omega)
        refine pw_dn (pw_n mm) (fun sx hsx ih => ?_)
        have b7 := pw_b7 hok (show j5 < 6 by omega)
        have br : pw_rk mm j5 sx ≤ 448 := pw_rk_le bn bk
        rcases hsf : pw_sf mm j5 sx with _ | ⟨pa, pb⟩
        · show pw_V x m_X7_safest 4 Z 50 [(0, .ref 0), (1, .int (nI j5)), (2, .int w), (3, .int (-1)), (4, .int (-1)), (5, .int (nI sx))] [] (pw_svm mm (pw_z3 mm (pw_g mm 42 0) (some j5)))
          refine pw_blk (pc' := 59) [.iload 5, .aload 0, .getfield 701, .getfield 500] (by decide +kernel) ?_
          show pw_V x m_X7_safest 4 Z 59 [(0, .ref 0), (1, .int (nI j5)), (2, .int w), (3, .int (-1)), (4, .int (-1)), (5, .int (nI sx))] [.int (mm 4 0), .int (nI sx)] (pw_svm mm (pw_z3 mm (pw_g mm 42 0) (some j5)))
          rw [show mm 4 0 = nI (pw_n mm) from pw_q40 hok]
          refine pw_in_ge (tgt := 126) (off := 67) (by omega) (by omega) (by decide +kernel) (by decide) (fun h59 => ?_) (fun h59 => ?_)
          · have es : sx = pw_n mm := by omega
            rw [es] at hsf
            refine pw_blk (pc' := 127) [.iload 2] (by decide +kernel) ?_
            show pw_V x m_X7_safest 4 Z 127 [(0, .ref 0), (1, .int (nI j5)), (2, .int w), (3, .int (-1)), (4, .int (-1)), (5, .int (nI sx))] [.int w] (pw_svm mm (pw_z3 mm (pw_g mm 42 0) (some j5)))
            refine pw_if_ne (tgt := 134) (off := 7) (by decide +kernel) (by decide) (fun h127 => ?_) (fun h127 => ?_)
            · refine pw_blk (pc' := 136) [.iload 4] (by decide +kernel) ?_
              show pw_V x m_X7_safest 4 Z 136 [(0, .ref 0), (1, .int (nI j5)), (2, .int w), (3, .int (-1)), (4, .int (-1)), (5, .int (nI sx))] [.int (-1)] (pw_svm mm (pw_z3 mm (pw_g mm 42 0) (some j5)))
              rw [← hZ]
              refine pw_ri (by decide +kernel) ?_
              exact ⟨by unfold F_safest; rw [if_pos (show pw_inr (nI j5) (pw_k mm) = true from by rw [pw_inr_nI (show j5 < 2 ^ 31 by omega) (show pw_k mm < 2 ^ 31 by omega)]; exact decide_eq_true b5), if_pos (pw_inr_y3 (n := 1) (by omega) h12 h17), if_neg (show ¬ w = nI 0 from h127), pw_c_nI (show j5 < 2 ^ 31 by omega), hsf]; rfl, pw_frw_s⟩
            · refine pw_blk (pc' := 131) [.iload 3] (by decide +kernel) ?_
              show pw_V x m_X7_safest 4 Z 131 [(0, .ref 0), (1, .int (nI j5)), (2, .int w), (3, .int (-1)), (4, .int (-1)), (5, .int (nI sx))] [.int (-1)] (pw_svm mm (pw_z3 mm (pw_g mm 42 0) (some j5)))
              refine pw_goto (tgt := 136) (off := 5) (by decide +kernel) (by decide) ?_
              rw [← hZ]
              refine pw_ri (by decide +kernel) ?_
              exact ⟨by unfold F_safest; rw [if_pos (show pw_inr (nI j5) (pw_k mm) = true from by rw [pw_inr_nI (show j5 < 2 ^ 31 by omega) (show pw_k mm < 2 ^ 31 by omega)]; exact decide_eq_true b5), if_pos (pw_inr_y3 (n := 1) (by omega) h12 h17), if_pos (show w = nI 0 from h127), pw_c_nI (show j5 < 2 ^ 31 by omega), hsf]; rfl, pw_frw_s⟩
          · refine pw_blk (pc' := 72) [.aload 0, .getfield 701, .getfield 504, .iload 1, .iaload, .iconst 1] (by decide +kernel) ?_
            refine ⟨j5, rfl, by omega, ?_⟩
            show pw_V x m_X7_safest 4 Z 72 [(0, .ref 0), (1, .int (nI j5)), (2, .int w), (3, .int (-1)), (4, .int (-1)), (5, .int (nI sx))] [.int (nI 1), .int (mm 7 j5)] (pw_svm mm (pw_z3 mm (pw_g mm 42 0) (some j5)))
            rw [show mm 7 j5 = nI (pw_g mm 7 j5) from pw_q7 hok (by omega)]
            refine pw_in_ne (tgt := 79) (off := 7) (by omega) (by omega) (by decide +kernel) (by decide) (fun h72 => ?_) (fun h72 => ?_)
            · refine pw_blk (pc' := 89) [.aload 0, .getfield 704, .getfield 608, .iload 5, .iaload] (by decide +kernel) ?_
              refine ⟨sx, rfl, by omega, ?_⟩
              show pw_V x m_X7_safest 4 Z 89 [(0, .ref 0), (1, .int (nI j5)), (2, .int w), (3, .int (-1)), (4, .int (-1)), (5, .int (nI sx))] [.int ((pw_svm mm (pw_z3 mm (pw_g mm 42 0) (some j5))) 19 sx)] (pw_svm mm (pw_z3 mm (pw_g mm 42 0) (some j5)))
              rw [show (pw_svm mm (pw_z3 mm (pw_g mm 42 0) (some j5))) 19 sx = nI ((pw_z3 mm (pw_g mm 42 0) (some j5)).2.2.2 sx) from pw_svm_r (by omega)]
              rw [show nI ((pw_z3 mm (pw_g mm 42 0) (some j5)).2.2.2 sx) = nI (pw_rk mm j5 sx) from by simp [pw_rk, h72]]
              show pw_V x m_X7_safest 4 Z 89 [(0, .ref 0), (1, .int (nI j5)), (2, .int w), (3, .int (-1)), (4, .int (-1)), (5, .int (nI sx))] [.int (nI (pw_rk mm j5 sx))] (pw_svm mm (pw_z3 mm (pw_g mm 42 0) (some j5)))
              refine pw_blk (pc' := 95) [.istore 6, .aload 0, .iload 1, .iload 5] (by decide +kernel) ?_
              show pw_V x m_X7_safest 4 Z 95 [(6, .int (nI (pw_rk mm j5 sx))), (0, .ref 0), (1, .int (nI j5)), (2, .int w), (3, .int (-1)), (4, .int (-1)), (5, .int (nI sx))] [.int (nI sx), .int (nI j5), .ref 0] (pw_svm mm (pw_z3 mm (pw_g mm 42 0) (some j5)))
              refine pw_cV (vs := [.int (nI j5), .int (nI sx)]) (rest := []) k_X7_fitsNow (c_fitsNow j5 sx (pw_svm mm (pw_z3 mm (pw_g mm 42 0) (some j5))) (pw_ok_svm h0k) (by omega) (by omega)) l_7_144 rfl rfl rfl rfl (by omega) (Nat.le_of_ble_eq_true rfl) (by decide +kernel) ?_
              rintro _ m1 ⟨rfl, e1⟩
              rw [e1]
              clear e1 m1
              show pw_V x m_X7_safest 4 Z 98 [(6, .int (nI (pw_rk mm j5 sx))), (0, .ref 0), (1, .int (nI j5)), (2, .int w), (3, .int (-1)), (4, .int (-1)), (5, .int (nI sx))] [.int (pw_b (pw_fnow mm j5 sx))] (pw_svm mm (pw_z3 mm (pw_g mm 42 0) (some j5)))
              refine pw_ib_eq (tgt := 120) (off := 22) (by decide +kernel) (by decide) (fun h98 => ?_) (fun h98 => ?_)
              · refine pw_blk (pc' := 123) [.iinc 5 1] (by decide +kernel) ?_
                show pw_V x m_X7_safest 4 Z 123 [(5, .int ((nI sx) + (nI 1))), (6, .int (nI (pw_rk mm j5 sx))), (0, .ref 0), (1, .int (nI j5)), (2, .int w), (3, .int (-1)), (4, .int (-1))] [] (pw_svm mm (pw_z3 mm (pw_g mm 42 0) (some j5)))
                rw [show (nI sx) + (nI 1) = nI (sx + 1) from nI_add _ _]
                refine pw_goto (tgt := 50) (off := -73) (by decide +kernel) (by decide) ?_
                have e9 : pw_sf mm j5 (sx + 1) = none := by simp [pw_sf, hsf, h98]
                have e8 := ih (by omega)
                rw [e9] at e8
                refine pw_lvp [2, 3, 4, 5, 6, 0] rfl ?_
                exact e8
              · refine pw_blk (pc' := 103) [.iload 3, .iconst (-1)] (by decide +kernel) ?_
                show pw_V x m_X7_safest 4 Z 103 [(6, .int (nI (pw_rk mm j5 sx))), (0, .ref 0), (1, .int (nI j5)), (2, .int w), (3, .int (-1)), (4, .int (-1)), (5, .int (nI sx))] [.int (-1), .int (-1)] (pw_svm mm (pw_z3 mm (pw_g mm 42 0) (some j5)))
                refine pw_ic_eq (tgt := 113) (off := 10) (by decide +kernel) (by decide) (fun _ => ?_) (fun h => absurd rfl h)
                refine pw_blk (pc' := 123) [.iload 5, .istore 3, .iload 6, .istore 4, .iinc 5 1] (by decide +kernel) ?_
                show pw_V x m_X7_safest 4 Z 123 [(5, .int ((nI sx) + (nI 1))), (4, .int (nI (pw_rk mm j5 sx))), (3, .int (nI sx)), (6, .int (nI (pw_rk mm j5 sx))), (0, .ref 0), (1, .int (nI j5)), (2, .int w)] [] (pw_svm mm (pw_z3 mm (pw_g mm 42 0) (some j5)))
                rw [show (nI sx) + (nI 1) = nI (sx + 1) from nI_add _ _]
                refine pw_goto (tgt := 50) (off := -73) (by decide +kernel) (by decide) ?_
                have e9 : pw_sf mm j5 (sx + 1) = some (sx, pw_rk mm j5 sx) := by simp [pw_sf, hsf, h98]
                have e8 := ih (by omega)
                rw [e9] at e8
                refine pw_lvp [4, 5, 6, 2, 1, 0] rfl ?_
                exact e8
            · refine pw_blk (pc' := 76) [.iconst 0] (by decide +kernel) ?_
              show pw_V x m_X7_safest 4 Z 76 [(0, .ref 0), (1, .int (nI j5)), (2, .int w), (3, .int (-1)), (4, .int (-1)), (5, .int (nI sx))] [.int (nI 0)] (pw_svm mm (pw_z3 mm (pw_g mm 42 0) (some j5)))
              refine pw_goto (tgt := 89) (off := 13) (by decide +kernel) (by decide) ?_
              rw [show nI 0 = nI (pw_rk mm j5 sx) from by simp [pw_rk, h72]]
              show pw_V x m_X7_safest 4 Z 89 [(0, .ref 0), (1, .int (nI j5)), (2, .int w), (3, .int (-1)), (4, .int (-1)), (5, .int (nI sx))] [.int (nI (pw_rk mm j5 sx))] (pw_svm mm (pw_z3 mm (pw_g mm 42 0) (some j5)))
              refine pw_blk (pc' := 95) [.istore 6, .aload 0, .iload 1, .iload 5] (by decide +kernel) ?_
              show pw_V x m_X7_safest 4 Z 95 [(6, .int (nI (pw_rk mm j5 sx))), (0, .ref 0), (1, .int (nI j5)), (2, .int w), (3, .int (-1)), (4, .int (-1)), (5, .int (nI sx))] [.int (nI sx), .int (nI j5), .ref 0] (pw_svm mm (pw_z3 mm (pw_g mm 42 0) (some j5)))
              refine pw_cV (vs := [.int (nI j5), .int (nI sx)]) (rest := []) k_X7_fitsNow (c_fitsNow j5 sx (pw_svm mm (pw_z3 mm (pw_g mm 42 0) (some j5))) (pw_ok_svm h0k) (by omega) (by omega)) l_7_144 rfl rfl rfl rfl (by omega) (Nat.le_of_ble_eq_true rfl) (by decide +kernel) ?_
              rintro _ m1 ⟨rfl, e1⟩
              rw [e1]
              clear e1 m1
              show pw_V x m_X7_safest 4 Z 98 [(6, .int (nI (pw_rk mm j5 sx))), (0, .ref 0), (1, .int (nI j5)), (2, .int w), (3, .int (-1)), (4, .int (-1)), (5, .int (nI sx))] [.int (pw_b (pw_fnow mm j5 sx))] (pw_svm mm (pw_z3 mm (pw_g mm 42 0) (some j5)))
              refine pw_ib_eq (tgt := 120) (off := 22) (by decide +kernel) (by decide) (fun h98 => ?_) (fun h98 => ?_)
              · refine pw_blk (pc' := 123) [.iinc 5 1] (by decide +kernel) ?_
                show pw_V x m_X7_safest 4 Z 123 [(5, .int ((nI sx) + (nI 1))), (6, .int (nI (pw_rk mm j5 sx))), (0, .ref 0), (1, .int (nI j5)), (2, .int w), (3, .int (-1)), (4, .int (-1))] [] (pw_svm mm (pw_z3 mm (pw_g mm 42 0) (some j5)))
                rw [show (nI sx) + (nI 1) = nI (sx + 1) from nI_add _ _]
                refine pw_goto (tgt := 50) (off := -73) (by decide +kernel) (by decide) ?_
                have e9 : pw_sf mm j5 (sx + 1) = none := by simp [pw_sf, hsf, h98]
                have e8 := ih (by omega)
                rw [e9] at e8
                refine pw_lvp [2, 3, 4, 5, 6, 0] rfl ?_
                exact e8
              · refine pw_blk (pc' := 103) [.iload 3, .iconst (-1)] (by decide +kernel) ?_
                show pw_V x m_X7_safest 4 Z 103 [(6, .int (nI (pw_rk mm j5 sx))), (0, .ref 0), (1, .int (nI j5)), (2, .int w), (3, .int (-1)), (4, .int (-1)), (5, .int (nI sx))] [.int (-1), .int (-1)] (pw_svm mm (pw_z3 mm (pw_g mm 42 0) (some j5)))
                refine pw_ic_eq (tgt := 113) (off := 10) (by decide +kernel) (by decide) (fun _ => ?_) (fun h => absurd rfl h)
                refine pw_blk (pc' := 123) [.iload 5, .istore 3, .iload 6, .istore 4, .iinc 5 1] (by decide +kernel) ?_
                show pw_V x m_X7_safest 4 Z 123 [(5, .int ((nI sx) + (nI 1))), (4, .int (nI (pw_rk mm j5 sx))), (3, .int (nI sx)), (6, .int (nI (pw_rk mm j5 sx))), (0, .ref 0), (1, .int (nI j5)), (2, .int w)] [] (pw_svm mm (pw_z3 mm (pw_g mm 42 0) (some j5)))
                rw [show (nI sx) + (nI 1) = nI (sx + 1) from nI_add _ _]
                refine pw_goto (tgt := 50) (off := -73) (by decide +kernel) (by decide) ?_
                have e9 : pw_sf mm j5 (sx + 1) = some (sx, pw_rk mm j5 sx) := by simp [pw_sf, hsf, h98]
                have e8 := ih (by omega)
                rw [e9] at e8
                refine pw_lvp [4, 5, 6, 2, 1, 0] rfl ?_
                exact e8
        · show pw_V x m_X7_safest 4 Z 50 [(0, .ref 0), (1, .int (nI j5)), (2, .int w), (3, .int (nI pa)), (4, .int (nI pb)), (5, .int (nI sx))] [] (pw_svm mm (pw_z3 mm (pw_g mm 42 0) (some j5)))
          obtain ⟨ba, bb⟩ := pw_sf_b bn bk sx _ hsf
          dsimp only at ba bb
          refine pw_blk (pc' := 59) [.iload 5, .aload 0, .getfield 701, .getfield 500] (by decide +kernel) ?_
          show pw_V x m_X7_safest 4 Z 59 [(0, .ref 0), (1, .int (nI j5)), (2, .int w), (3, .int (nI pa)), (4, .int (nI pb)), (5, .int (nI sx))] [.int (mm 4 0), .int (nI sx)] (pw_svm mm (pw_z3 mm (pw_g mm 42 0) (some j5)))
          rw [show mm 4 0 = nI (pw_n mm) from pw_q40 hok]
          refine pw_in_ge (tgt := 126) (off := 67) (by omega) (by omega) (by decide +kernel) (by decide) (fun h59 => ?_) (fun h59 => ?_)
          · have es : sx = pw_n mm := by omega
            rw [es] at hsf
            refine pw_blk (pc' := 127) [.iload 2] (by decide +kernel) ?_
            show pw_V x m_X7_safest 4 Z 127 [(0, .ref 0), (1, .int (nI j5)), (2, .int w), (3, .int (nI pa)), (4, .int (nI pb)), (5, .int (nI sx))] [.int w] (pw_svm mm (pw_z3 mm (pw_g mm 42 0) (some j5)))
            refine pw_if_ne (tgt := 134) (off := 7) (by decide +kernel) (by decide) (fun h127 => ?_) (fun h127 => ?_)
            · refine pw_blk (pc' := 136) [.iload 4] (by decide +kernel) ?_
              show pw_V x m_X7_safest 4 Z 136 [(0, .ref 0), (1, .int (nI j5)), (2, .int w), (3, .int (nI pa)), (4, .int (nI pb)), (5, .int (nI sx))] [.int (nI pb)] (pw_svm mm (pw_z3 mm (pw_g mm 42 0) (some j5)))
              rw [← hZ]
              refine pw_ri (by decide +kernel) ?_
              exact ⟨by unfold F_safest; rw [if_pos (show pw_inr (nI j5) (pw_k mm) = true from by rw [pw_inr_nI (show j5 < 2 ^ 31 by omega) (show pw_k mm < 2 ^ 31 by omega)]; exact decide_eq_true b5), if_pos (pw_inr_y3 (n := 1) (by omega) h12 h17), if_neg (show ¬ w = nI 0 from h127), pw_c_nI (show j5 < 2 ^ 31 by omega), hsf]; rfl, pw_frw_s⟩
            · refine pw_blk (pc' := 131) [.iload 3] (by decide +kernel) ?_
              show pw_V x m_X7_safest 4 Z 131 [(0, .ref 0), (1, .int (nI j5)), (2, .int w), (3, .int (nI pa)), (4, .int (nI pb)), (5, .int (nI sx))] [.int (nI pa)] (pw_svm mm (pw_z3 mm (pw_g mm 42 0) (some j5)))
              refine pw_goto (tgt := 136) (off := 5) (by decide +kernel) (by decide) ?_
              rw [← hZ]
              refine pw_ri (by decide +kernel) ?_
              exact ⟨by unfold F_safest; rw [if_pos (show pw_inr (nI j5) (pw_k mm) = true from by rw [pw_inr_nI (show j5 < 2 ^ 31 by omega) (show pw_k mm < 2 ^ 31 by omega)]; exact decide_eq_true b5), if_pos (pw_inr_y3 (n := 1) (by omega) h12 h17), if_pos (show w = nI 0 from h127), pw_c_nI (show j5 < 2 ^ 31 by omega), hsf]; rfl, pw_frw_s⟩
          · refine pw_blk (pc' := 72) [.aload 0, .getfield 701, .getfield 504, .iload 1, .iaload, .iconst 1] (by decide +kernel) ?_
            refine ⟨j5, rfl, by omega, ?_⟩
            show pw_V x m_X7_safest 4 Z 72 [(0, .ref 0), (1, .int (nI j5)), (2, .int w), (3, .int (nI pa)), (4, .int (nI pb)), (5, .int (nI sx))] [.int (nI 1), .int (mm 7 j5)] (pw_svm mm (pw_z3 mm (pw_g mm 42 0) (some j5)))
            rw [show mm 7 j5 = nI (pw_g mm 7 j5) from pw_q7 hok (by omega)]
            refine pw_in_ne (tgt := 79) (off := 7) (by omega) (by omega) (by decide +kernel) (by decide) (fun h72 => ?_) (fun h72 => ?_)
            · refine pw_blk (pc' := 89) [.aload 0, .getfield 704, .getfield 608, .iload 5, .iaload] (by decide +kernel) ?_
              refine ⟨sx, rfl, by omega, ?_⟩
              show pw_V x m_X7_safest 4 Z 89 [(0, .ref 0), (1, .int (nI j5)), (2, .int w), (3, .int (nI pa)), (4, .int (nI pb)), (5, .int (nI sx))] [.int ((pw_svm mm (pw_z3 mm (pw_g mm 42 0) (some j5))) 19 sx)] (pw_svm mm (pw_z3 mm (pw_g mm 42 0) (some j5)))
              rw [show (pw_svm mm (pw_z3 mm (pw_g mm 42 0) (some j5))) 19 sx = nI ((pw_z3 mm (pw_g mm 42 0) (some j5)).2.2.2 sx) from pw_svm_r (by omega)]
              rw [show nI ((pw_z3 mm (pw_g mm 42 0) (some j5)).2.2.2 sx) = nI (pw_rk mm j5 sx) from by simp [pw_rk, h72]]
              show pw_V x m_X7_safest 4 Z 89 [(0, .ref 0), (1, .int (nI j5)), (2, .int w), (3, .int (nI pa)), (4, .int (nI pb)), (5, .int (nI sx))] [.int (nI (pw_rk mm j5 sx))] (pw_svm mm (pw_z3 mm (pw_g mm 42 0) (some j5)))
              refine pw_blk (pc' := 95) [.istore 6, .aload 0, .iload 1, .iload 5] (by decide +kernel) ?_
              show pw_V x m_X7_safest 4 Z 95 [(6, .int (nI (pw_rk mm j5 sx))), (0, .ref 0), (1, .int (nI j5)), (2, .int w), (3, .int (nI pa)), (4, .int (nI pb)), (5, .int (nI sx))] [.int (nI sx), .int (nI j5), .ref 0] (pw_svm mm (pw_z3 mm (pw_g mm 42 0) (some j5)))
              refine pw_cV (vs := [.int (nI j5), .int (nI sx)]) (rest := []) k_X7_fitsNow (c_fitsNow j5 sx (pw_svm mm (pw_z3 mm (pw_g mm 42 0) (some j5))) (pw_ok_svm h0k) (by omega) (by omega)) l_7_144 rfl rfl rfl rfl (by omega) (Nat.le_of_ble_eq_true rfl) (by decide +kernel) ?_
              rintro _ m1 ⟨rfl, e1⟩
              rw [e1]
              clear e1 m1
              show pw_V x m_X7_safest 4 Z 98 [(6, .int (nI (pw_rk mm j5 sx))), (0, .ref 0), (1, .int (nI j5)), (2, .int w), (3, .int (nI pa)), (4, .int (nI pb)), (5, .int (nI sx))] [.int (pw_b (pw_fnow mm j5 sx))] (pw_svm mm (pw_z3 mm (pw_g mm 42 0) (some j5)))
              refine pw_ib_eq (tgt := 120) (off := 22) (by decide +kernel) (by decide) (fun h98 => ?_) (fun h98 => ?_)
              · refine pw_blk (pc' := 123) [.iinc 5 1] (by decide +kernel) ?_
                show pw_V x m_X7_safest 4 Z 123 [(5, .int ((nI sx) + (nI 1))), (6, .int (nI (pw_rk mm j5 sx))), (0, .ref 0), (1, .int (nI j5)), (2, .int w), (3, .int (nI pa)), (4, .int (nI pb))] [] (pw_svm mm (pw_z3 mm (pw_g mm 42 0) (some j5)))
                rw [show (nI sx) + (nI 1) = nI (sx + 1) from nI_add _ _]
                refine pw_goto (tgt := 50) (off := -73) (by decide +kernel) (by decide) ?_
                have e9 : pw_sf mm j5 (sx + 1) = some (pa, pb) := by simp [pw_sf, hsf, h98]
                have e8 := ih (by omega)
                rw [e9] at e8
                refine pw_lvp [2, 3, 4, 5, 6, 0] rfl ?_
                exact e8
              · refine pw_blk (pc' := 103) [.iload 3, .iconst (-1)] (by decide +kernel) ?_
                show pw_V x m_X7_safest 4 Z 103 [(6, .int (nI (pw_rk mm j5 sx))), (0, .ref 0), (1, .int (nI j5)), (2, .int w), (3, .int (nI pa)), (4, .int (nI pb)), (5, .int (nI sx))] [.int (-1), .int (nI pa)] (pw_svm mm (pw_z3 mm (pw_g mm 42 0) (some j5)))
                refine pw_ic_eq (tgt := 113) (off := 10) (by decide +kernel) (by decide) (fun h => absurd h (pw_n1 (by omega))) (fun _ => ?_)
                refine pw_blk (pc' := 110) [.iload 6, .iload 4] (by decide +kernel) ?_
                show pw_V x m_X7_safest 4 Z 110 [(6, .int (nI (pw_rk mm j5 sx))), (0, .ref 0), (1, .int (nI j5)), (2, .int w), (3, .int (nI pa)), (4, .int (nI pb)), (5, .int (nI sx))] [.int (nI pb), .int (nI (pw_rk mm j5 sx))] (pw_svm mm (pw_z3 mm (pw_g mm 42 0) (some j5)))
                refine pw_in_ge (tgt := 120) (off := 10) (by omega) (by omega) (by decide +kernel) (by decide) (fun h110 => ?_) (fun h110 => ?_)
                · refine pw_blk (pc' := 123) [.iinc 5 1] (by decide +kernel) ?_
                  show pw_V x m_X7_safest 4 Z 123 [(5, .int ((nI sx) + (nI 1))), (6, .int (nI (pw_rk mm j5 sx))), (0, .ref 0), (1, .int (nI j5)), (2, .int w), (3, .int (nI pa)), (4, .int (nI pb))] [] (pw_svm mm (pw_z3 mm (pw_g mm 42 0) (some j5)))
                  rw [show (nI sx) + (nI 1) = nI (sx + 1) from nI_add _ _]
                  refine pw_goto (tgt := 50) (off := -73) (by decide +kernel) (by decide) ?_
                  have e9 : pw_sf mm j5 (sx + 1) = some (pa, pb) := by simp [pw_sf, hsf, h98, h110, show ¬ pw_rk mm j5 sx < pb by omega]
                  have e8 := ih (by omega)
                  rw [e9] at e8
                  refine pw_lvp [2, 3, 4, 5, 6, 0] rfl ?_
                  exact e8
                · refine pw_blk (pc' := 123) [.iload 5, .istore 3, .iload 6, .istore 4, .iinc 5 1] (by decide +kernel) ?_
                  show pw_V x m_X7_safest 4 Z 123 [(5, .int ((nI sx) + (nI 1))), (4, .int (nI (pw_rk mm j5 sx))), (3, .int (nI sx)), (6, .int (nI (pw_rk mm j5 sx))), (0, .ref 0), (1, .int (nI j5)), (2, .int w)] [] (pw_svm mm (pw_z3 mm (pw_g mm 42 0) (some j5)))
                  rw [show (nI sx) + (nI 1) = nI (sx + 1) from nI_add _ _]
                  refine pw_goto (tgt := 50) (off := -73) (by decide +kernel) (by decide) ?_
                  have e9 : pw_sf mm j5 (sx + 1) = some (sx, pw_rk mm j5 sx) := by simp [pw_sf, hsf, h98, h110]
                  have e8 := ih (by omega)
                  rw [e9] at e8
                  refine pw_lvp [4, 5, 6, 2, 1, 0] rfl ?_
                  exact e8
            · refine pw_blk (pc' := 76) [.iconst 0] (by decide +kernel) ?_
              show pw_V x m_X7_safest 4 Z 76 [(0, .ref 0), (1, .int (nI j5)), (2, .int w), (3, .int (nI pa)), (4, .int (nI pb)), (5, .int (nI sx))] [.int (nI 0)] (pw_svm mm (pw_z3 mm (pw_g mm 42 0) (some j5)))
              refine pw_goto (tgt := 89) (off := 13) (by decide +kernel) (by decide) ?_
              rw [show nI 0 = nI (pw_rk mm j5 sx) from by simp [pw_rk, h72]]
              show pw_V x m_X7_safest 4 Z 89 [(0, .ref 0), (1, .int (nI j5)), (2, .int w), (3, .int (nI pa)), (4, .int (nI pb)), (5, .int (nI sx))] [.int (nI (pw_rk mm j5 sx))] (pw_svm mm (pw_z3 mm (pw_g mm 42 0) (some j5)))
              refine pw_blk (pc' := 95) [.istore 6, .aload 0, .iload 1, .iload 5] (by decide +kernel) ?_
              show pw_V x m_X7_safest 4 Z 95 [(6, .int (nI (pw_rk mm j5 sx))), (0, .ref 0), (1, .int (nI j5)), (2, .int w), (3, .int (nI pa)), (4, .int (nI pb)), (5, .int (nI sx))] [.int (nI sx), .int (nI j5), .ref 0] (pw_svm mm (pw_z3 mm (pw_g mm 42 0) (some j5)))
              refine pw_cV (vs := [.int (nI j5), .int (nI sx)]) (rest := []) k_X7_fitsNow (c_fitsNow j5 sx (pw_svm mm (pw_z3 mm (pw_g mm 42 0) (some j5))) (pw_ok_svm h0k) (by omega) (by omega)) l_7_144 rfl rfl rfl rfl (by omega) (Nat.le_of_ble_eq_true rfl) (by decide +kernel) ?_
              rintro _ m1 ⟨rfl, e1⟩
              rw [e1]
              clear e1 m1
              show pw_V x m_X7_safest 4 Z 98 [(6, .int (nI (pw_rk mm j5 sx))), (0, .ref 0), (1, .int (nI j5)), (2, .int w), (3, .int (nI pa)), (4, .int (nI pb)), (5, .int (nI sx))] [.int (pw_b (pw_fnow mm j5 sx))] (pw_svm mm (pw_z3 mm (pw_g mm 42 0) (some j5)))
              refine pw_ib_eq (tgt := 120) (off := 22) (by decide +kernel) (by decide) (fun h98 => ?_) (fun h98 => ?_)
              · refine pw_blk (pc' := 123) [.iinc 5 1] (by decide +kernel) ?_
                show pw_V x m_X7_safest 4 Z 123 [(5, .int ((nI sx) + (nI 1))), (6, .int (nI (pw_rk mm j5 sx))), (0, .ref 0), (1, .int (nI j5)), (2, .int w), (3, .int (nI pa)), (4, .int (nI pb))] [] (pw_svm mm (pw_z3 mm (pw_g mm 42 0) (some j5)))
                rw [show (nI sx) + (nI 1) = nI (sx + 1) from nI_add _ _]
                refine pw_goto (tgt := 50) (off := -73) (by decide +kernel) (by decide) ?_
                have e9 : pw_sf mm j5 (sx + 1) = some (pa, pb) := by simp [pw_sf, hsf, h98]
                have e8 := ih (by omega)
                rw [e9] at e8
                refine pw_lvp [2, 3, 4, 5, 6, 0] rfl ?_
                exact e8
              · refine pw_blk (pc' := 103) [.iload 3, .iconst (-1)] (by decide +kernel) ?_
                show pw_V x m_X7_safest 4 Z 103 [(6, .int (nI (pw_rk mm j5 sx))), (0, .ref 0), (1, .int (nI j5)), (2, .int w), (3, .int (nI pa)), (4, .int (nI pb)), (5, .int (nI sx))] [.int (-1), .int (nI pa)] (pw_svm mm (pw_z3 mm (pw_g mm 42 0) (some j5)))
                refine pw_ic_eq (tgt := 113) (off := 10) (by decide +kernel) (by decide) (fun h => absurd h (pw_n1 (by omega))) (fun _ => ?_)
                refine pw_blk (pc' := 110) [.iload 6, .iload 4] (by decide +kernel) ?_
                show pw_V x m_X7_safest 4 Z 110 [(6, .int (nI (pw_rk mm j5 sx))), (0, .ref 0), (1, .int (nI j5)), (2, .int w), (3, .int (nI pa)), (4, .int (nI pb)), (5, .int (nI sx))] [.int (nI pb), .int (nI (pw_rk mm j5 sx))] (pw_svm mm (pw_z3 mm (pw_g mm 42 0) (some j5)))
                refine pw_in_ge (tgt := 120) (off := 10) (by omega) (by omega) (by decide +kernel) (by decide) (fun h110 => ?_) (fun h110 => ?_)
                · refine pw_blk (pc' := 123) [.iinc 5 1] (by decide +kernel) ?_
                  show pw_V x m_X7_safest 4 Z 123 [(5, .int ((nI sx) + (nI 1))), (6, .int (nI (pw_rk mm j5 sx))), (0, .ref 0), (1, .int (nI j5)), (2, .int w), (3, .int (nI pa)), (4, .int (nI pb))] [] (pw_svm mm (pw_z3 mm (pw_g mm 42 0) (some j5)))
                  rw [show (nI sx) + (nI 1) = nI (sx + 1) from nI_add _ _]
                  refine pw_goto (tgt := 50) (off := -73) (by decide +kernel) (by decide) ?_
                  have e9 : pw_sf mm j5 (sx + 1) = some (pa, pb) := by simp [pw_sf, hsf, h98, h110, show ¬ pw_rk mm j5 sx < pb by omega]
                  have e8 := ih (by omega)
                  rw [e9] at e8
                  refine pw_lvp [2, 3, 4, 5, 6, 0] rfl ?_
                  exact e8
                · refine pw_blk (pc' := 123) [.iload 5, .istore 3, .iload 6, .istore 4, .iinc 5 1] (by decide +kernel) ?_
                  show pw_V x m_X7_safest 4 Z 123 [(5, .int ((nI sx) + (nI 1))), (4, .int (nI (pw_rk mm j5 sx))), (3, .int (nI sx)), (6, .int (nI (pw_rk mm j5 sx))), (0, .ref 0), (1, .int (nI j5)), (2, .int w)] [] (pw_svm mm (pw_z3 mm (pw_g mm 42 0) (some j5)))
                  rw [show (nI sx) + (nI 1) = nI (sx + 1) from nI_add _ _]
                  refine pw_goto (tgt := 50) (off := -73) (by decide +kernel) (by decide) ?_
                  have e9 : pw_sf mm j5 (sx + 1) = some (sx, pw_rk mm j5 sx) := by simp [pw_sf, hsf, h98, h110]
                  have e8 := ih (by omega)
                  rw [e9] at e8
                  refine pw_lvp [4, 5, 6, 2, 1, 0] rfl ?_
                  exact e8
      · refine pw_blk (pc' := 22) [.iconst (-3)] (by decide +kernel) ?_
        show pw_V x m_X7_safest 4 Z 22 [(0, .ref 0), (1, .int (nI j5)), (2, .int w)] [.int (-3)] mm
        rw [← hZ]
        refine pw_ri (by decide +kernel) ?_
        exact ⟨by unfold F_safest; rw [if_pos (show pw_inr (nI j5) (pw_k mm) = true from by rw [pw_inr_nI (show j5 < 2 ^ 31 by omega) (show pw_k mm < 2 ^ 31 by omega)]; exact decide_eq_true b5), if_neg (by rw [pw_inr_f3 (n := 1) (by omega) (Int32.not_le.mp h17)]; decide)], pw_frw_r⟩
  · refine pw_blk (pc' := 10) [.iconst (-2)] (by decide +kernel) ?_
    show pw_V x m_X7_safest 4 Z 10 [(0, .ref 0), (1, .int k), (2, .int w)] [.int (-2)] mm
    rw [← hZ]
    refine pw_ri (by decide +kernel) ?_
    exact ⟨by simp [F_safest, h5], pw_frw_r⟩
