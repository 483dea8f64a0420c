set_option maxHeartbeats 4000000 in
set_option maxRecDepth 100000 in
theorem c_fitsNow (k s : Nat) (mm : pw_m) (hok : pw_ok mm) (hk : k < 6) (hs : s < 8) : pw_Ct 1 yX7_fitsNow m_X7_fitsNow [.ref 0, .int (nI k), .int (nI s)] mm (fun r m' => r = some (.int (pw_b (pw_fnow mm k s))) ∧ m' = mm) := by
  refine pw_ct (by decide +kernel) rfl (Nat.le_of_ble_eq_true rfl) (fun x => ?_)
  generalize hZ : pw_Z x _ = Z
  have bn := pw_bn hok
  have bk := pw_bk hok
  have b43 := pw_b43 hok hk
  show pw_V x m_X7_fitsNow 1 Z 0 [(0, .ref 0), (1, .int (nI k)), (2, .int (nI s))] [] mm
  refine pw_blk (pc' := 15) [.aload 0, .getfield 701, .iload 1, .aload 0, .getfield 702, .getfield 2, .iload 1, .iaload, .iload 2] (by decide +kernel) ?_
  refine ⟨k, rfl, by omega, ?_⟩
  show pw_V x m_X7_fitsNow 1 Z 15 [(0, .ref 0), (1, .int (nI k)), (2, .int (nI s))] [.int (nI s), .int (mm 43 k), .int (nI k), .ref 4] mm
  rw [show mm 43 k = nI (pw_g mm 43 k) from pw_q43 hok (by omega)]
  refine pw_cV (vs := [.int (nI k), .int (nI (pw_g mm 43 k)), .int (nI s)]) (rest := []) k_X5_fits (c_fits k (pw_g mm 43 k) s mm hok (by omega) (by omega) (by omega)) l_7_250 rfl rfl rfl rfl (by decide) (Nat.le_of_ble_eq_true rfl) (by decide +kernel) ?_
  rintro _ m1 ⟨rfl, e1⟩
  rw [e1]
  clear e1 m1
  show pw_V x m_X7_fitsNow 1 Z 18 [(0, .ref 0), (1, .int (nI k)), (2, .int (nI s))] [.int (pw_b (pw_fit mm k (pw_g mm 43 k) s))] mm
  rw [← hZ]
  refine pw_rz (by decide +kernel) (pw_b01 _) ?_
  exact ⟨rfl, rfl⟩

set_option maxHeartbeats 4000000 in
set_option maxRecDepth 100000 in
theorem c_isInPeril (k s : Nat) (mm : pw_m) (hok : pw_ok mm) (hk : k < 6) (hs : s < 8) : pw_Ct 2 yX7_isInPeril m_X7_isInPeril [.ref 0, .int (nI k), .int (nI s)] mm (fun r m' => r = some (.int (pw_b (pw_inp mm k s))) ∧ m' = mm) := by
  refine pw_ct (by decide +kernel) rfl (Nat.le_of_ble_eq_true rfl) (fun x => ?_)
  generalize hZ : pw_Z x _ = Z
  have bn := pw_bn hok
  have bk := pw_bk hok
  have b8 := pw_b48 hok
  have bd := pw_b420 hok
  have bm := pw_mulb (pw_b49 hok) bd
  have b7 := pw_b7 hok hk
  show pw_V x m_X7_isInPeril 2 Z 0 [(0, .ref 0), (1, .int (nI k)), (2, .int (nI s))] [] mm
  refine pw_blk (pc' := 11) [.aload 0, .getfield 701, .aload 0, .getfield 702, .getfield 0] (by decide +kernel) ?_
  show pw_V x m_X7_isInPeril 2 Z 11 [(0, .ref 0), (1, .int (nI k)), (2, .int (nI s))] [.int (mm 42 0), .ref 4] mm
  rw [show mm 42 0 = nI (pw_g mm 42 0) from pw_q420 hok]
  refine pw_cV (vs := [.int (nI (pw_g mm 42 0))]) (rest := []) k_X5_perilOn (c_perilOn mm hok) l_7_103 rfl rfl rfl rfl (by decide) (Nat.le_of_ble_eq_true rfl) (by decide +kernel) ?_
  rintro _ m1 ⟨rfl, e1⟩
  rw [e1]
  clear e1 m1
  show pw_V x m_X7_isInPeril 2 Z 14 [(0, .ref 0), (1, .int (nI k)), (2, .int (nI s))] [.int (pw_o (pw_pon mm))] mm
  refine pw_blk (pc' := 15) [.iload 2] (by decide +kernel) ?_
  show pw_V x m_X7_isInPeril 2 Z 15 [(0, .ref 0), (1, .int (nI k)), (2, .int (nI s))] [.int (nI s), .int (pw_o (pw_pon mm))] mm
  refine pw_on_ne (tgt := 46) (off := 31) (by decide +kernel) (by decide) (fun a ha => Nat.lt_trans (pw_pon_lt ha) (by omega)) (by omega) (fun h15 => ?_) (fun h15 => ?_)
  · refine pw_blk (pc' := 47) [.iconst 0] (by decide +kernel) ?_
    show pw_V x m_X7_isInPeril 2 Z 47 [(0, .ref 0), (1, .int (nI k)), (2, .int (nI s))] [.int (nI 0)] mm
    rw [← hZ]
    refine pw_rz (by decide +kernel) (Or.inl rfl) ?_
    refine ⟨?_, rfl⟩
    rw [show pw_inp mm k s = false from by simp [pw_inp, h15]]; rfl
  · refine pw_blk (pc' := 26) [.aload 0, .getfield 701, .getfield 510, .iload 1] (by decide +kernel) ?_
    show pw_V x m_X7_isInPeril 2 Z 26 [(0, .ref 0), (1, .int (nI k)), (2, .int (nI s))] [.int (nI k), .int (mm 4 10)] mm
    rw [show mm 4 10 = pw_o (pw_mt mm) from pw_q410 hok]
    refine pw_on_eq (tgt := 46) (off := 20) (by decide +kernel) (by decide) (fun a ha => Nat.lt_trans (pw_b410 hok ha) (by omega)) (by omega) (fun h26 => ?_) (fun h26 => ?_)
    · refine pw_blk (pc' := 47) [.iconst 0] (by decide +kernel) ?_
      show pw_V x m_X7_isInPeril 2 Z 47 [(0, .ref 0), (1, .int (nI k)), (2, .int (nI s))] [.int (nI 0)] mm
      rw [← hZ]
      refine pw_rz (by decide +kernel) (Or.inl rfl) ?_
      refine ⟨?_, rfl⟩
      rw [show pw_inp mm k s = false from by simp [pw_inp, h15, h26]]; rfl
    · refine pw_blk (pc' := 39) [.aload 0, .getfield 701, .getfield 504, .iload 1, .iaload, .iconst 1] (by decide +kernel) ?_
      refine ⟨k, rfl, by omega, ?_⟩
      show pw_V x m_X7_isInPeril 2 Z 39 [(0, .ref 0), (1, .int (nI k)), (2, .int (nI s))] [.int (nI 1), .int (mm 7 k)] mm
      rw [show mm 7 k = nI (pw_g mm 7 k) from pw_q7 hok (by omega)]
      refine pw_in_eq (tgt := 46) (off := 7) (by omega) (by omega) (by decide +kernel) (by decide) (fun h39 => ?_) (fun h39 => ?_)
      · refine pw_blk (pc' := 47) [.iconst 0] (by decide +kernel) ?_
        show pw_V x m_X7_isInPeril 2 Z 47 [(0, .ref 0), (1, .int (nI k)), (2, .int (nI s))] [.int (nI 0)] mm
        rw [← hZ]
        refine pw_rz (by decide +kernel) (Or.inl rfl) ?_
        refine ⟨?_, rfl⟩
        rw [show pw_inp mm k s = false from by simp [pw_inp, h15, h26, h39]]; rfl
      · refine pw_blk (pc' := 43) [.iconst 1] (by decide +kernel) ?_
        show pw_V x m_X7_isInPeril 2 Z 43 [(0, .ref 0), (1, .int (nI k)), (2, .int (nI s))] [.int (nI 1)] mm
        refine pw_goto (tgt := 47) (off := 4) (by decide +kernel) (by decide) ?_
        rw [← hZ]
        refine pw_rz (by decide +kernel) (Or.inr rfl) ?_
        refine ⟨?_, rfl⟩
        rw [show pw_inp mm k s = true from by simp [pw_inp, h15, h26, h39]]; rfl

def pw_en2 (A : pw_m) (p q : Option Nat) : Bool := match p with
  | none => false
  | some i => pw_en A i q

set_option maxHeartbeats 4000000 in
set_option maxRecDepth 100000 in
theorem c_areEnemies (p q : Option Nat) (mm : pw_m) (hok : pw_ok mm) (hp : ∀ c, p = some c → c < 6) (hq : ∀ c, q = some c → c < 6) : pw_Ct 1 yX7_areEnemies m_X7_areEnemies [.ref 0, .int (pw_o (p)), .int (pw_o (q))] mm (fun r m' => r = some (.int (pw_b (pw_en2 mm p q))) ∧ m' = mm) := by
  refine pw_ct (by decide +kernel) rfl (Nat.le_of_ble_eq_true rfl) (fun x => ?_)
  generalize hZ : pw_Z x _ = Z
  have bn := pw_bn hok
  have bk := pw_bk hok
  show pw_V x m_X7_areEnemies 1 Z 0 [(0, .ref 0), (1, .int (pw_o (p))), (2, .int (pw_o (q)))] [] mm
  refine pw_blk (pc' := 2) [.iload 1, .iconst (-1)] (by decide +kernel) ?_
  show pw_V x m_X7_areEnemies 1 Z 2 [(0, .ref 0), (1, .int (pw_o (p))), (2, .int (pw_o (q)))] [.int (-1), .int (pw_o (p))] mm
  rcases h2 : p with _ | s2
  · show pw_V x m_X7_areEnemies 1 Z 2 [(0, .ref 0), (1, .int (-1)), (2, .int (pw_o (q)))] [.int (-1), .int (-1)] mm
    refine pw_ic_eq (tgt := 30) (off := 28) (by decide +kernel) (by decide) (fun _ => ?_) (fun h => absurd rfl h)
    refine pw_blk (pc' := 31) [.iconst 0] (by decide +kernel) ?_
    show pw_V x m_X7_areEnemies 1 Z 31 [(0, .ref 0), (1, .int (-1)), (2, .int (pw_o (q)))] [.int (nI 0)] mm
    rw [← hZ]
    refine pw_rz (by decide +kernel) (Or.inl rfl) ?_
    refine ⟨?_, rfl⟩
    simp [pw_en2, pw_en, pw_b, nI, h2]
  · show pw_V x m_X7_areEnemies 1 Z 2 [(0, .ref 0), (1, .int (nI s2)), (2, .int (pw_o (q)))] [.int (-1), .int (nI s2)] mm
    have b2 := hp _ h2
    refine pw_ic_eq (tgt := 30) (off := 28) (by decide +kernel) (by decide) (fun h => absurd h (pw_n1 (by omega))) (fun _ => ?_)
    refine pw_blk (pc' := 7) [.iload 2, .iconst (-1)] (by decide +kernel) ?_
    show pw_V x m_X7_areEnemies 1 Z 7 [(0, .ref 0), (1, .int (nI s2)), (2, .int (pw_o (q)))] [.int (-1), .int (pw_o (q))] mm
    rcases h7 : q with _ | s7
    · show pw_V x m_X7_areEnemies 1 Z 7 [(0, .ref 0), (1, .int (nI s2)), (2, .int (-1))] [.int (-1), .int (-1)] mm
      refine pw_ic_eq (tgt := 30) (off := 23) (by decide +kernel) (by decide) (fun _ => ?_) (fun h => absurd rfl h)
      refine pw_blk (pc' := 31) [.iconst 0] (by decide +kernel) ?_
      show pw_V x m_X7_areEnemies 1 Z 31 [(0, .ref 0), (1, .int (nI s2)), (2, .int (-1))] [.int (nI 0)] mm
      rw [← hZ]
      refine pw_rz (by decide +kernel) (Or.inl rfl) ?_
      refine ⟨?_, rfl⟩
      simp [pw_en2, pw_en, pw_b, nI, h2, h7]
    · show pw_V x m_X7_areEnemies 1 Z 7 [(0, .ref 0), (1, .int (nI s2)), (2, .int (nI s7))] [.int (-1), .int (nI s7)] mm
      have b7 := hq _ h7
      refine pw_ic_eq (tgt := 30) (off := 23) (by decide +kernel) (by decide) (fun h => absurd h (pw_n1 (by omega))) (fun _ => ?_)
      refine pw_blk (pc' := 20) [.aload 0, .getfield 701, .getfield 507, .iload 1, .iaload, .iload 2] (by decide +kernel) ?_
      refine ⟨s2, rfl, by omega, ?_⟩
      show pw_V x m_X7_areEnemies 1 Z 20 [(0, .ref 0), (1, .int (nI s2)), (2, .int (nI s7))] [.int (nI s7), .int (mm 10 s2)] mm
      rw [show mm 10 s2 = nI (pw_g mm 10 s2) from pw_q10 hok (by omega)]
      refine pw_cS (vs := [.int (nI (pw_g mm 10 s2)), .int (nI s7)]) (rest := []) k_X7_has (c_has (nI (pw_g mm 10 s2)) (nI s7) mm) l_7_124 rfl (by decide) (Nat.le_of_ble_eq_true rfl) (by decide +kernel) ?_
      rintro _ m1 ⟨rfl, e1⟩
      rw [e1]
      clear e1 m1
      show pw_V x m_X7_areEnemies 1 Z 23 [(0, .ref 0), (1, .int (nI s2)), (2, .int (nI s7))] [.int (pw_b (pw_hs (nI (pw_g mm 10 s2)) (nI s7)))] mm
      rw [pw_hs_n (by have := pw_b10 hok (show s2 < 6 by omega); omega) (by omega)]
      refine pw_ib_eq (tgt := 30) (off := 7) (by decide +kernel) (by decide) (fun h23 => ?_) (fun h23 => ?_)
      · refine pw_blk (pc' := 31) [.iconst 0] (by decide +kernel) ?_
        show pw_V x m_X7_areEnemies 1 Z 31 [(0, .ref 0), (1, .int (nI s2)), (2, .int (nI s7))] [.int (nI 0)] mm
        rw [← hZ]
        refine pw_rz (by decide +kernel) (Or.inl rfl) ?_
        refine ⟨?_, rfl⟩
        simp [pw_en2, pw_en, pw_b, nI, h2, h7, h23]
      · refine pw_blk (pc' := 27) [.iconst 1] (by decide +kernel) ?_
        show pw_V x m_X7_areEnemies 1 Z 27 [(0, .ref 0), (1, .int (nI s2)), (2, .int (nI s7))] [.int (nI 1)] mm
        refine pw_goto (tgt := 31) (off := 4) (by decide +kernel) (by decide) ?_
        rw [← hZ]
        refine pw_rz (by decide +kernel) (Or.inr rfl) ?_
        refine ⟨?_, rfl⟩
        simp [pw_en2, pw_en, pw_b, nI, h2, h7, h23]

set_option maxHeartbeats 4000000 in
set_option maxRecDepth 100000 in
theorem c_whoSitsBehind (s : Nat) (mm : pw_m) (hok : pw_ok mm) (hs : s < pw_n mm) : pw_Ct 1 yX7_whoSitsBehind m_X7_whoSitsBehind [.ref 0, .int (nI s)] mm (fun r m' => r = some (.int (pw_o (pw_si mm (pw_bh (pw_n mm) s)))) ∧ m' = mm) := by
  refine pw_ct (by decide +kernel) rfl (Nat.le_of_ble_eq_true rfl) (fun x => ?_)
  generalize hZ : pw_Z x _ = Z
  have bn := pw_bn hok
  have bk := pw_bk hok
  have bb := pw_bh_lt hs
  show pw_V x m_X7_whoSitsBehind 1 Z 0 [(0, .ref 0), (1, .int (nI s))] [] mm
  refine pw_blk (pc' := 12) [.aload 0, .getfield 702, .iload 1, .aload 0, .getfield 701, .getfield 500] (by decide +kernel) ?_
  show pw_V x m_X7_whoSitsBehind 1 Z 12 [(0, .ref 0), (1, .int (nI s))] [.int (mm 4 0), .int (nI s), .ref 42] mm
  rw [show mm 4 0 = nI (pw_n mm) from pw_q40 hok]
  refine pw_cS (vs := [.int (nI s), .int (nI (pw_n mm))]) (rest := [.ref 42]) k_X7_behind (c_behind s (pw_n mm) (by omega) (by omega) mm) l_7_271 rfl (by decide) (Nat.le_of_ble_eq_true rfl) (by decide +kernel) ?_
  rintro _ m1 ⟨rfl, e1⟩
  rw [e1]
  clear e1 m1
  show pw_V x m_X7_whoSitsBehind 1 Z 15 [(0, .ref 0), (1, .int (nI s))] [.int (nI (pw_bh (pw_n mm) s)), .ref 42] mm
  refine pw_cV (vs := [.int (nI (pw_bh (pw_n mm) s))]) (rest := []) k_X0_whoSitsOn (c_whoSitsOn (pw_bh (pw_n mm) s) mm hok (by omega)) l_7_96 rfl rfl rfl rfl (by decide) (Nat.le_of_ble_eq_true rfl) (by decide +kernel) ?_
  rintro _ m1 ⟨rfl, e1⟩
  rw [e1]
  clear e1 m1
  show pw_V x m_X7_whoSitsBehind 1 Z 18 [(0, .ref 0), (1, .int (nI s))] [.int (pw_o (pw_si mm (pw_bh (pw_n mm) s)))] mm
  rw [← hZ]
  refine pw_ri (by decide +kernel) ?_
  exact ⟨rfl, rfl⟩

set_option maxHeartbeats 4000000 in
set_option maxRecDepth 100000 in
theorem c_whoIsWrong (mm : pw_m) (hok : pw_ok mm) : pw_Ct 3 yX7_whoIsWrong m_X7_whoIsWrong [.ref 0] mm (fun r m' => r = some (.int (nI (pw_wrs mm))) ∧ m' = mm) := by
  refine pw_ct (by decide +kernel) rfl (Nat.le_of_ble_eq_true rfl) (fun x => ?_)
  generalize hZ : pw_Z x _ = Z
  have bn := pw_bn hok
  have bk := pw_bk hok
  have loop : ∀ i : Nat, i ≤ pw_k mm → pw_V x m_X7_whoIsWrong 3 Z 4 [(0, .ref 0), (1, .int (nI (pw_ob (pw_wr mm) i))), (2, .int (nI i))] [] mm := by
    refine pw_dn (pw_k mm) (fun i hi ih => ?_)
    refine pw_blk (pc' := 12) [.iload 2, .aload 0, .getfield 701, .getfield 501] (by decide +kernel) ?_
    show pw_V x m_X7_whoIsWrong 3 Z 12 [(0, .ref 0), (1, .int (nI (pw_ob (pw_wr mm) i))), (2, .int (nI i))] [.int (mm 4 1), .int (nI i)] mm
    rw [show mm 4 1 = nI (pw_k mm) from pw_q41 hok]
    refine pw_in_ge (tgt := 60) (off := 48) (by omega) (by omega) (by decide +kernel) (by decide) (fun h12 => ?_) (fun h12 => ?_)
    · refine pw_blk (pc' := 61) [.iload 1] (by decide +kernel) ?_
      show pw_V x m_X7_whoIsWrong 3 Z 61 [(0, .ref 0), (1, .int (nI (pw_ob (pw_wr mm) i))), (2, .int (nI i))] [.int (nI (pw_ob (pw_wr mm) i))] mm
      rw [← hZ]
      refine pw_ri (by decide +kernel) ?_
      have e : i = pw_k mm := by omega
      subst e
      exact ⟨rfl, rfl⟩
    · refine pw_blk (pc' := 27) [.aload 0, .getfield 702, .getfield 4, .iload 2, .iaload, .istore 3, .iload 3, .iconst (-1)] (by decide +kernel) ?_
      refine ⟨i, rfl, by omega, ?_⟩
      show pw_V x m_X7_whoIsWrong 3 Z 27 [(3, .int (mm 45 i)), (0, .ref 0), (1, .int (nI (pw_ob (pw_wr mm) i))), (2, .int (nI i))] [.int (-1), .int (mm 45 i)] mm
      rw [show mm 45 i = pw_o (pw_pl mm i) from pw_q45 hok (by omega)]
      rcases h27 : pw_pl mm i with _ | s27
      · show pw_V x m_X7_whoIsWrong 3 Z 27 [(3, .int (-1)), (0, .ref 0), (1, .int (nI (pw_ob (pw_wr mm) i))), (2, .int (nI i))] [.int (-1), .int (-1)] mm
        refine pw_ic_eq (tgt := 54) (off := 27) (by decide +kernel) (by decide) (fun _ => ?_) (fun h => absurd rfl h)
        refine pw_blk (pc' := 57) [.iinc 2 1] (by decide +kernel) ?_
        show pw_V x m_X7_whoIsWrong 3 Z 57 [(2, .int ((nI i) + (nI 1))), (3, .int (-1)), (0, .ref 0), (1, .int (nI (pw_ob (pw_wr mm) i)))] [] mm
        rw [show (nI i) + (nI 1) = nI (i + 1) from nI_add _ _]
        refine pw_goto (tgt := 4) (off := -53) (by decide +kernel) (by decide) ?_
        rw [show (pw_ob (pw_wr mm) i) = (pw_ob (pw_wr mm) (i + 1)) from by simp [pw_ob, pw_wr, h12, h27]]
        refine pw_lvp [2, 3, 0] rfl ?_
        exact ih (by omega)
      · show pw_V x m_X7_whoIsWrong 3 Z 27 [(3, .int (nI s27)), (0, .ref 0), (1, .int (nI (pw_ob (pw_wr mm) i))), (2, .int (nI i))] [.int (-1), .int (nI s27)] mm
        have b27 := pw_b45 hok (show i < 6 by omega) h27
        refine pw_ic_eq (tgt := 54) (off := 27) (by decide +kernel) (by decide) (fun h => absurd h (pw_n1 (by omega))) (fun _ => ?_)
        refine pw_blk (pc' := 33) [.aload 0, .iload 2, .iload 3] (by decide +kernel) ?_
        show pw_V x m_X7_whoIsWrong 3 Z 33 [(3, .int (nI s27)), (0, .ref 0), (1, .int (nI (pw_ob (pw_wr mm) i))), (2, .int (nI i))] [.int (nI s27), .int (nI i), .ref 0] mm
        refine pw_cV (vs := [.int (nI i), .int (nI s27)]) (rest := []) k_X7_fitsNow (c_fitsNow i s27 mm hok (by omega) (by omega)) l_7_144 rfl rfl rfl rfl (by decide) (Nat.le_of_ble_eq_true rfl) (by decide +kernel) ?_
        rintro _ m1 ⟨rfl, e1⟩
        rw [e1]
        clear e1 m1
        show pw_V x m_X7_whoIsWrong 3 Z 36 [(3, .int (nI s27)), (0, .ref 0), (1, .int (nI (pw_ob (pw_wr mm) i))), (2, .int (nI i))] [.int (pw_b (pw_fnow mm i s27))] mm
        refine pw_ib_eq (tgt := 48) (off := 12) (by decide +kernel) (by decide) (fun h36 => ?_) (fun h36 => ?_)
        · refine pw_blk (pc' := 57) [.iload 1, .iconst 1, .iload 2, .ishl, .ior, .istore 1, .iinc 2 1] (by decide +kernel) ?_
          show pw_V x m_X7_whoIsWrong 3 Z 57 [(2, .int ((nI i) + (nI 1))), (1, .int ((nI (pw_ob (pw_wr mm) i)) ||| ((nI 1) <<< ((nI i) &&& 31)))), (3, .int (nI s27)), (0, .ref 0)] [] mm
          rw [show (nI i) + (nI 1) = nI (i + 1) from nI_add _ _]
          rw [show (nI 1) <<< ((nI i) &&& 31) = nI (2 ^ i) from pw_shl1 (by omega)]
          rw [show (nI (pw_ob (pw_wr mm) i)) ||| (nI (2 ^ i)) = nI ((pw_ob (pw_wr mm) i) ||| (2 ^ i)) from fa_or _ _]
          refine pw_goto (tgt := 4) (off := -53) (by decide +kernel) (by decide) ?_
          rw [show ((pw_ob (pw_wr mm) i) ||| (2 ^ i)) = (pw_ob (pw_wr mm) (i + 1)) from by simp [pw_ob, pw_wr, h12, h27, h36]]
          refine pw_lvp [3, 1, 0] rfl ?_
          exact ih (by omega)
        · refine pw_blk (pc' := 42) [.aload 0, .iload 2, .iload 3] (by decide +kernel) ?_
          show pw_V x m_X7_whoIsWrong 3 Z 42 [(3, .int (nI s27)), (0, .ref 0), (1, .int (nI (pw_ob (pw_wr mm) i))), (2, .int (nI i))] [.int (nI s27), .int (nI i), .ref 0] mm
          refine pw_cV (vs := [.int (nI i), .int (nI s27)]) (rest := []) k_X7_isInPeril (c_isInPeril i s27 mm hok (by omega) (by omega)) l_7_268 rfl rfl rfl rfl (by decide) (Nat.le_of_ble_eq_true rfl) (by decide +kernel) ?_
          rintro _ m1 ⟨rfl, e1⟩
          rw [e1]
          clear e1 m1
          show pw_V x m_X7_whoIsWrong 3 Z 45 [(3, .int (nI s27)), (0, .ref 0), (1, .int (nI (pw_ob (pw_wr mm) i))), (2, .int (nI i))] [.int (pw_b (pw_inp mm i s27))] mm
          refine pw_ib_eq (tgt := 54) (off := 9) (by decide +kernel) (by decide) (fun h45 => ?_) (fun h45 => ?_)
          · refine pw_blk (pc' := 57) [.iinc 2 1] (by decide +kernel) ?_
            show pw_V x m_X7_whoIsWrong 3 Z 57 [(2, .int ((nI i) + (nI 1))), (3, .int (nI s27)), (0, .ref 0), (1, .int (nI (pw_ob (pw_wr mm) i)))] [] mm
            rw [show (nI i) + (nI 1) = nI (i + 1) from nI_add _ _]
            refine pw_goto (tgt := 4) (off := -53) (by decide +kernel) (by decide) ?_
            rw [show (pw_ob (pw_wr mm) i) = (pw_ob (pw_wr mm) (i + 1)) from by simp [pw_ob, pw_wr, h12, h27, h36, h45]]
            refine pw_lvp [2, 3, 0] rfl ?_
            exact ih (by omega)
          · refine pw_blk (pc' := 57) [.iload 1, .iconst 1, .iload 2, .ishl, .ior, .istore 1, .iinc 2 1] (by decide +kernel) ?_
            show pw_V x m_X7_whoIsWrong 3 Z 57 [(2, .int ((nI i) + (nI 1))), (1, .int ((nI (pw_ob (pw_wr mm) i)) ||| ((nI 1) <<< ((nI i) &&& 31)))), (3, .int (nI s27)), (0, .ref 0)] [] mm
            rw [show (nI i) + (nI 1) = nI (i + 1) from nI_add _ _]
            rw [show (nI 1) <<< ((nI i) &&& 31) = nI (2 ^ i) from pw_shl1 (by omega)]
            rw [show (nI (pw_ob (pw_wr mm) i)) ||| (nI (2 ^ i)) = nI ((pw_ob (pw_wr mm) i) ||| (2 ^ i)) from fa_or _ _]
            refine pw_goto (tgt := 4) (off := -53) (by decide +kernel) (by decide) ?_
            rw [show ((pw_ob (pw_wr mm) i) ||| (2 ^ i)) = (pw_ob (pw_wr mm) (i + 1)) from by simp [pw_ob, pw_wr, h12, h27, h36, h45]]
            refine pw_lvp [3, 1, 0] rfl ?_
            exact ih (by omega)
  show pw_V x m_X7_whoIsWrong 3 Z 0 [(0, .ref 0)] [] mm
  refine pw_blk (pc' := 4) [.iconst 0, .istore 1, .iconst 0, .istore 2] (by decide +kernel) ?_
  show pw_V x m_X7_whoIsWrong 3 Z 4 [(2, .int (nI 0)), (1, .int (nI 0)), (0, .ref 0)] [] mm
  refine pw_lvp [2, 1, 0] rfl ?_
  exact loop 0 (by omega)

def pw_kn (A : pw_m) (w j : Nat) : Bool := (pw_g A 42 1).testBit j && (pw_g A 44 j).testBit w

set_option maxHeartbeats 4000000 in
set_option maxRecDepth 100000 in
theorem c_whoKnows (w : Nat) (mm : pw_m) (hok : pw_ok mm) (hw : w < 4) : pw_Ct 1 yX7_whoKnows m_X7_whoKnows [.ref 0, .int (nI w)] mm (fun r m' => r = some (.int (nI (pw_ob (pw_kn mm w) (pw_k mm)))) ∧ m' = mm) := by
  refine pw_ct (by decide +kernel) rfl (Nat.le_of_ble_eq_true rfl) (fun x => ?_)
  generalize hZ : pw_Z x _ = Z
  have bn := pw_bn hok
  have bk := pw_bk hok
  have bt := pw_b421' hok
  have loop : ∀ i : Nat, i ≤ pw_k mm → pw_V x m_X7_whoKnows 1 Z 4 [(0, .ref 0), (1, .int (nI w)), (2, .int (nI (pw_ob (pw_kn mm w) i))), (3, .int (nI i))] [] mm := by
    refine pw_dn (pw_k mm) (fun i hi ih => ?_)
    refine pw_blk (pc' := 12) [.iload 3, .aload 0, .getfield 701, .getfield 501] (by decide +kernel) ?_
    show pw_V x m_X7_whoKnows 1 Z 12 [(0, .ref 0), (1, .int (nI w)), (2, .int (nI (pw_ob (pw_kn mm w) i))), (3, .int (nI i))] [.int (mm 4 1), .int (nI i)] mm
    rw [show mm 4 1 = nI (pw_k mm) from pw_q41 hok]
    refine pw_in_ge (tgt := 57) (off := 45) (by omega) (by omega) (by decide +kernel) (by decide) (fun h12 => ?_) (fun h12 => ?_)
    · refine pw_blk (pc' := 58) [.iload 2] (by decide +kernel) ?_
      show pw_V x m_X7_whoKnows 1 Z 58 [(0, .ref 0), (1, .int (nI w)), (2, .int (nI (pw_ob (pw_kn mm w) i))), (3, .int (nI i))] [.int (nI (pw_ob (pw_kn mm w) i))] mm
      rw [← hZ]
      refine pw_ri (by decide +kernel) ?_
      have e : i = pw_k mm := by omega
      subst e
      exact ⟨rfl, rfl⟩
    · refine pw_blk (pc' := 23) [.aload 0, .getfield 702, .getfield 1, .iload 3] (by decide +kernel) ?_
      show pw_V x m_X7_whoKnows 1 Z 23 [(0, .ref 0), (1, .int (nI w)), (2, .int (nI (pw_ob (pw_kn mm w) i))), (3, .int (nI i))] [.int (nI i), .int (mm 42 1)] mm
      rw [show mm 42 1 = nI (pw_g mm 42 1) from pw_q421 hok]
      refine pw_cS (vs := [.int (nI (pw_g mm 42 1)), .int (nI i)]) (rest := []) k_X7_has (c_has (nI (pw_g mm 42 1)) (nI i) mm) l_7_124 rfl (by decide) (Nat.le_of_ble_eq_true rfl) (by decide +kernel) ?_
      rintro _ m1 ⟨rfl, e1⟩
      rw [e1]
      clear e1 m1
      show pw_V x m_X7_whoKnows 1 Z 26 [(0, .ref 0), (1, .int (nI w)), (2, .int (nI (pw_ob (pw_kn mm w) i))), (3, .int (nI i))] [.int (pw_b (pw_hs (nI (pw_g mm 42 1)) (nI i)))] mm
      rw [pw_hs_n (by have := pw_b44 hok (show i < 6 by omega); omega) (by omega)]
      refine pw_ib_eq (tgt := 51) (off := 25) (by decide +kernel) (by decide) (fun h26 => ?_) (fun h26 => ?_)
      · refine pw_blk (pc' := 54) [.iinc 3 1] (by decide +kernel) ?_
        show pw_V x m_X7_whoKnows 1 Z 54 [(3, .int ((nI i) + (nI 1))), (0, .ref 0), (1, .int (nI w)), (2, .int (nI (pw_ob (pw_kn mm w) i)))] [] mm
        rw [show (nI i) + (nI 1) = nI (i + 1) from nI_add _ _]
        refine pw_goto (tgt := 4) (off := -50) (by decide +kernel) (by decide) ?_
        rw [show (pw_ob (pw_kn mm w) i) = (pw_ob (pw_kn mm w) (i + 1)) from by simp [pw_ob, pw_kn, h12, h26]]
        refine pw_lvp [1, 2, 3, 0] rfl ?_
        exact ih (by omega)
      · refine pw_blk (pc' := 39) [.aload 0, .getfield 702, .getfield 3, .iload 3, .iaload, .iload 1] (by decide +kernel) ?_
        refine ⟨i, rfl, by omega, ?_⟩
        show pw_V x m_X7_whoKnows 1 Z 39 [(0, .ref 0), (1, .int (nI w)), (2, .int (nI (pw_ob (pw_kn mm w) i))), (3, .int (nI i))] [.int (nI w), .int (mm 44 i)] mm
        rw [show mm 44 i = nI (pw_g mm 44 i) from pw_q44 hok (by omega)]
        refine pw_cS (vs := [.int (nI (pw_g mm 44 i)), .int (nI w)]) (rest := []) k_X7_has (c_has (nI (pw_g mm 44 i)) (nI w) mm) l_7_124 rfl (by decide) (Nat.le_of_ble_eq_true rfl) (by decide +kernel) ?_
        rintro _ m1 ⟨rfl, e1⟩
        rw [e1]
        clear e1 m1
        show pw_V x m_X7_whoKnows 1 Z 42 [(0, .ref 0), (1, .int (nI w)), (2, .int (nI (pw_ob (pw_kn mm w) i))), (3, .int (nI i))] [.int (pw_b (pw_hs (nI (pw_g mm 44 i)) (nI w)))] mm
        rw [pw_hs_n (by have := pw_b44 hok (show i < 6 by omega); omega) (by omega)]
        refine pw_ib_eq (tgt := 51) (off := 9) (by decide +kernel) (by decide) (fun h42 => ?_) (fun h42 => ?_)
        · refine pw_blk (pc' := 54) [.iinc 3 1] (by decide +kernel) ?_
          show pw_V x m_X7_whoKnows 1 Z 54 [(3, .int ((nI i) + (nI 1))), (0, .ref 0), (1, .int (nI w)), (2, .int (nI (pw_ob (pw_kn mm w) i)))] [] mm
          rw [show (nI i) + (nI 1) = nI (i + 1) from nI_add _ _]
          refine pw_goto (tgt := 4) (off := -50) (by decide +kernel) (by decide) ?_
          rw [show (pw_ob (pw_kn mm w) i) = (pw_ob (pw_kn mm w) (i + 1)) from by simp [pw_ob, pw_kn, h12, h26, h42]]
          refine pw_lvp [1, 2, 3, 0] rfl ?_
          exact ih (by omega)
        · refine pw_blk (pc' := 54) [.iload 2, .iconst 1, .iload 3, .ishl, .ior, .istore 2, .iinc 3 1] (by decide +kernel) ?_
          show pw_V x m_X7_whoKnows 1 Z 54 [(3, .int ((nI i) + (nI 1))), (2, .int ((nI (pw_ob (pw_kn mm w) i)) ||| ((nI 1) <<< ((nI i) &&& 31)))), (0, .ref 0), (1, .int (nI w))] [] mm
          rw [show (nI i) + (nI 1) = nI (i + 1) from nI_add _ _]
          rw [show (nI 1) <<< ((nI i) &&& 31) = nI (2 ^ i) from pw_shl1 (by omega)]
          rw [show (nI (pw_ob (pw_kn mm w) i)) ||| (nI (2 ^ i)) = nI ((pw_ob (pw_kn mm w) i) ||| (2 ^ i)) from fa_or _ _]
          refine pw_goto (tgt := 4) (off := -50) (by decide +kernel) (by decide) ?_
          rw [show ((pw_ob (pw_kn mm w) i) ||| (2 ^ i)) = (pw_ob (pw_kn mm w) (i + 1)) from by simp [pw_ob, pw_kn, h12, h26, h42]]
          refine pw_lvp [2, 3, 1, 0] rfl ?_
          exact ih (by omega)
  show pw_V x m_X7_whoKnows 1 Z 0 [(0, .ref 0), (1, .int (nI w))] [] mm
  refine pw_blk (pc' := 4) [.iconst 0, .istore 2, .iconst 0, .istore 3] (by decide +kernel) ?_
  show pw_V x m_X7_whoKnows 1 Z 4 [(3, .int (nI 0)), (2, .int (nI 0)), (0, .ref 0), (1, .int (nI w))] [] mm
  refine pw_lvp [2, 3, 1, 0] rfl ?_
  exact loop 0 (by omega)

def pw_qu (A : pw_m) (s : Nat) : Bool := pw_en2 A (pw_si A s) (pw_si A (pw_bh (pw_n A) s))
def pw_sm (f : Nat → Nat) : Nat → Nat
  | 0 => 0
  | n + 1 => pw_sm f n + f n
theorem pw_pc_le (b : Nat) : pw_pc b ≤ 8 := pw_ct_le
theorem pw_sm_le {f : Nat → Nat} {c n : Nat} (h : ∀ i, f i ≤ c) : pw_sm f n ≤ n * c := by
  induction n with
  | zero => simp [pw_sm]
  | succ n ih => simp only [pw_sm]; have := h n; rw [Nat.succ_mul]; omega
theorem pw_sm_congr {p q : Nat → Nat} {n : Nat} (h : ∀ i, i < n → p i = q i) : pw_sm p n = pw_sm q n := by
  induction n with
  | zero => rfl
  | succ n ih => simp only [pw_sm]; rw [ih (fun i hi => h i (by omega)), h n (by omega)]

set_option maxHeartbeats 4000000 in
set_option maxRecDepth 100000 in
theorem c_quarrels (mm : pw_m) (hok : pw_ok mm) : pw_Ct 2 yX7_quarrels m_X7_quarrels [.ref 0] mm (fun r m' => r = some (.int (nI (pw_ct_ (pw_qu mm) (pw_n mm)))) ∧ m' = mm) := by
  refine pw_ct (by decide +kernel) rfl (Nat.le_of_ble_eq_true rfl) (fun x => ?_)
  generalize hZ : pw_Z x _ = Z
  have bn := pw_bn hok
  have bk := pw_bk hok
  have loop : ∀ i : Nat, i ≤ pw_n mm → pw_V x m_X7_quarrels 2 Z 4 [(0, .ref 0), (1, .int (nI (pw_ct_ (pw_qu mm) i))), (2, .int (nI i))] [] mm := by
    refine pw_dn (pw_n mm) (fun i hi ih => ?_)
    have bc : pw_ct_ (pw_qu mm) i ≤ i := pw_ct_le
    refine pw_blk (pc' := 12) [.iload 2, .aload 0, .getfield 701, .getfield 500] (by decide +kernel) ?_
    show pw_V x m_X7_quarrels 2 Z 12 [(0, .ref 0), (1, .int (nI (pw_ct_ (pw_qu mm) i))), (2, .int (nI i))] [.int (mm 4 0), .int (nI i)] mm
    rw [show mm 4 0 = nI (pw_n mm) from pw_q40 hok]
    refine pw_in_ge (tgt := 44) (off := 32) (by omega) (by omega) (by decide +kernel) (by decide) (fun h12 => ?_) (fun h12 => ?_)
    · refine pw_blk (pc' := 45) [.iload 1] (by decide +kernel) ?_
      show pw_V x m_X7_quarrels 2 Z 45 [(0, .ref 0), (1, .int (nI (pw_ct_ (pw_qu mm) i))), (2, .int (nI i))] [.int (nI (pw_ct_ (pw_qu mm) i))] mm
      rw [← hZ]
      refine pw_ri (by decide +kernel) ?_
      have e : i = pw_n mm := by omega
      subst e
      exact ⟨rfl, rfl⟩
    · refine pw_blk (pc' := 21) [.aload 0, .aload 0, .getfield 702, .iload 2] (by decide +kernel) ?_
      show pw_V x m_X7_quarrels 2 Z 21 [(0, .ref 0), (1, .int (nI (pw_ct_ (pw_qu mm) i))), (2, .int (nI i))] [.int (nI i), .ref 42, .ref 0] mm
      refine pw_cV (vs := [.int (nI i)]) (rest := [.ref 0]) k_X0_whoSitsOn (c_whoSitsOn i mm hok (by omega)) l_7_96 rfl rfl rfl rfl (by decide) (Nat.le_of_ble_eq_true rfl) (by decide +kernel) ?_
      rintro _ m1 ⟨rfl, e1⟩
      rw [e1]
      clear e1 m1
      show pw_V x m_X7_quarrels 2 Z 24 [(0, .ref 0), (1, .int (nI (pw_ct_ (pw_qu mm) i))), (2, .int (nI i))] [.int (pw_o (pw_si mm i)), .ref 0] mm
      refine pw_blk (pc' := 26) [.aload 0, .iload 2] (by decide +kernel) ?_
      show pw_V x m_X7_quarrels 2 Z 26 [(0, .ref 0), (1, .int (nI (pw_ct_ (pw_qu mm) i))), (2, .int (nI i))] [.int (nI i), .ref 0, .int (pw_o (pw_si mm i)), .ref 0] mm
      refine pw_cV (vs := [.int (nI i)]) (rest := [.int (pw_o (pw_si mm i)), .ref 0]) k_X7_whoSitsBehind (c_whoSitsBehind i mm hok (by omega)) l_7_274 rfl rfl rfl rfl (by decide) (Nat.le_of_ble_eq_true rfl) (by decide +kernel) ?_
      rintro _ m1 ⟨rfl, e1⟩
      rw [e1]
      clear e1 m1
      show pw_V x m_X7_quarrels 2 Z 29 [(0, .ref 0), (1, .int (nI (pw_ct_ (pw_qu mm) i))), (2, .int (nI i))] [.int (pw_o (pw_si mm (pw_bh (pw_n mm) i))), .int (pw_o (pw_si mm i)), .ref 0] mm
      refine pw_cV (vs := [.int (pw_o (pw_si mm i)), .int (pw_o (pw_si mm (pw_bh (pw_n mm) i)))]) (rest := []) k_X7_areEnemies (c_areEnemies (pw_si mm i) (pw_si mm (pw_bh (pw_n mm) i)) mm hok (fun c hc => pw_si_lt hc) (fun c hc => pw_si_lt hc)) l_7_277 rfl rfl rfl rfl (by decide) (Nat.le_of_ble_eq_true rfl) (by decide +kernel) ?_
      rintro _ m1 ⟨rfl, e1⟩
      rw [e1]
      clear e1 m1
      show pw_V x m_X7_quarrels 2 Z 32 [(0, .ref 0), (1, .int (nI (pw_ct_ (pw_qu mm) i))), (2, .int (nI i))] [.int (pw_b (pw_en2 mm (pw_si mm i) (pw_si mm (pw_bh (pw_n mm) i))))] mm
      refine pw_ib_eq (tgt := 38) (off := 6) (by decide +kernel) (by decide) (fun h32 => ?_) (fun h32 => ?_)
      · refine pw_blk (pc' := 41) [.iinc 2 1] (by decide +kernel) ?_
        show pw_V x m_X7_quarrels 2 Z 41 [(2, .int ((nI i) + (nI 1))), (0, .ref 0), (1, .int (nI (pw_ct_ (pw_qu mm) i)))] [] mm
        rw [show (nI i) + (nI 1) = nI (i + 1) from nI_add _ _]
        refine pw_goto (tgt := 4) (off := -37) (by decide +kernel) (by decide) ?_
        rw [show (pw_ct_ (pw_qu mm) i) = (pw_ct_ (pw_qu mm) (i + 1)) from by simp [pw_ct_, pw_qu, h12, h32]]
        refine pw_lvp [1, 2, 0] rfl ?_
        exact ih (by omega)
      · refine pw_blk (pc' := 41) [.iinc 1 1, .iinc 2 1] (by decide +kernel) ?_
        show pw_V x m_X7_quarrels 2 Z 41 [(2, .int ((nI i) + (nI 1))), (1, .int ((nI (pw_ct_ (pw_qu mm) i)) + (nI 1))), (0, .ref 0)] [] mm
        rw [show (nI i) + (nI 1) = nI (i + 1) from nI_add _ _]
        rw [show (nI (pw_ct_ (pw_qu mm) i)) + (nI 1) = nI ((pw_ct_ (pw_qu mm) i) + 1) from nI_add _ _]
        refine pw_goto (tgt := 4) (off := -37) (by decide +kernel) (by decide) ?_
        rw [show ((pw_ct_ (pw_qu mm) i) + 1) = (pw_ct_ (pw_qu mm) (i + 1)) from by simp [pw_ct_, pw_qu, h12, h32]]
        refine pw_lvp [2, 1, 0] rfl ?_
        exact ih (by omega)
  show pw_V x m_X7_quarrels 2 Z 0 [(0, .ref 0)] [] mm
  refine pw_blk (pc' := 4) [.iconst 0, .istore 1, .iconst 0, .istore 2] (by decide +kernel) ?_
  show pw_V x m_X7_quarrels 2 Z 4 [(2, .int (nI 0)), (1, .int (nI 0)), (0, .ref 0)] [] mm
  refine pw_lvp [2, 1, 0] rfl ?_
  exact loop 0 (by omega)

set_option maxHeartbeats 4000000 in
set_option maxRecDepth 100000 in
theorem c_pairs (mm : pw_m) (hok : pw_ok mm) : pw_Ct 1 yX5_pairsOfEnemies m_X5_pairsOfEnemies [.ref 4] mm (fun r m' => r = some (.int (nI (pw_sm (fun j => pw_pc (pw_g mm 10 j)) (pw_k mm) / 2))) ∧ m' = mm) := by
  refine pw_ct (by decide +kernel) rfl (Nat.le_of_ble_eq_true rfl) (fun x => ?_)
  generalize hZ : pw_Z x _ = Z
  have bn := pw_bn hok
  have bk := pw_bk hok
  have loop : ∀ i : Nat, i ≤ pw_k mm → pw_V x m_X5_pairsOfEnemies 1 Z 4 [(0, .ref 4), (1, .int (nI (pw_sm (fun j => pw_pc (pw_g mm 10 j)) i))), (2, .int (nI i))] [] mm := by
    refine pw_dn (pw_k mm) (fun i hi ih => ?_)
    have bc : pw_sm (fun j => pw_pc (pw_g mm 10 j)) i ≤ i * 8 := pw_sm_le (fun _ => pw_pc_le _)
    refine pw_blk (pc' := 9) [.iload 2, .aload 0, .getfield 501] (by decide +kernel) ?_
    show pw_V x m_X5_pairsOfEnemies 1 Z 9 [(0, .ref 4), (1, .int (nI (pw_sm (fun j => pw_pc (pw_g mm 10 j)) i))), (2, .int (nI i))] [.int (mm 4 1), .int (nI i)] mm
    rw [show mm 4 1 = nI (pw_k mm) from pw_q41 hok]
    refine pw_in_ge (tgt := 30) (off := 21) (by omega) (by omega) (by decide +kernel) (by decide) (fun h9 => ?_) (fun h9 => ?_)
    · refine pw_blk (pc' := 33) [.iload 1, .iconst 2, .idiv] (by decide +kernel) ?_
      refine ⟨(show ¬ nI 2 = 0 from nI_ne0 (by omega) (by omega)), ?_⟩
      show pw_V x m_X5_pairsOfEnemies 1 Z 33 [(0, .ref 4), (1, .int (nI (pw_sm (fun j => pw_pc (pw_g mm 10 j)) i))), (2, .int (nI i))] [.int ((nI (pw_sm (fun j => pw_pc (pw_g mm 10 j)) i)) / (nI 2))] mm
      rw [show (nI (pw_sm (fun j => pw_pc (pw_g mm 10 j)) i)) / (nI 2) = nI ((pw_sm (fun j => pw_pc (pw_g mm 10 j)) i) / 2) from pk_div (by omega) (by omega) (by omega)]
      rw [← hZ]
      refine pw_ri (by decide +kernel) ?_
      have e : i = pw_k mm := by omega
      subst e
      exact ⟨rfl, rfl⟩
    · refine pw_blk (pc' := 19) [.iload 1, .aload 0, .getfield 507, .iload 2, .iaload] (by decide +kernel) ?_
      refine ⟨i, rfl, by omega, ?_⟩
      show pw_V x m_X5_pairsOfEnemies 1 Z 19 [(0, .ref 4), (1, .int (nI (pw_sm (fun j => pw_pc (pw_g mm 10 j)) i))), (2, .int (nI i))] [.int (mm 10 i), .int (nI (pw_sm (fun j => pw_pc (pw_g mm 10 j)) i))] mm
      rw [show mm 10 i = nI (pw_g mm 10 i) from pw_q10 hok (by omega)]
      refine pw_cS (vs := [.int (nI (pw_g mm 10 i))]) (rest := [.int (nI (pw_sm (fun j => pw_pc (pw_g mm 10 j)) i))]) k_J6_bitCount_0f7a4 (c_bitCount (nI (pw_g mm 10 i)) mm) l_5_64 rfl (by decide) (Nat.le_of_ble_eq_true rfl) (by decide +kernel) ?_
      rintro _ m1 ⟨rfl, e1⟩
      rw [e1]
      clear e1 m1
      show pw_V x m_X5_pairsOfEnemies 1 Z 22 [(0, .ref 4), (1, .int (nI (pw_sm (fun j => pw_pc (pw_g mm 10 j)) i))), (2, .int (nI i))] [.int (pw_bc (nI (pw_g mm 10 i))), .int (nI (pw_sm (fun j => pw_pc (pw_g mm 10 j)) i))] mm
      rw [pw_bcN _ (by have := pw_b10 hok (show i < 6 by omega); omega)]
      refine pw_blk (pc' := 27) [.iadd, .istore 1, .iinc 2 1] (by decide +kernel) ?_
      show pw_V x m_X5_pairsOfEnemies 1 Z 27 [(2, .int ((nI i) + (nI 1))), (1, .int ((nI (pw_sm (fun j => pw_pc (pw_g mm 10 j)) i)) + (nI (pw_pc (pw_g mm 10 i))))), (0, .ref 4)] [] mm
      rw [show (nI i) + (nI 1) = nI (i + 1) from nI_add _ _]
      rw [show (nI (pw_sm (fun j => pw_pc (pw_g mm 10 j)) i)) + (nI (pw_pc (pw_g mm 10 i))) = nI ((pw_sm (fun j => pw_pc (pw_g mm 10 j)) i) + (pw_pc (pw_g mm 10 i))) from nI_add _ _]
      refine pw_goto (tgt := 4) (off := -23) (by decide +kernel) (by decide) ?_
      rw [show ((pw_sm (fun j => pw_pc (pw_g mm 10 j)) i) + (pw_pc (pw_g mm 10 i))) = (pw_sm (fun j => pw_pc (pw_g mm 10 j)) (i + 1)) from by simp [pw_sm, h9]]
      refine pw_lvp [2, 1, 0] rfl ?_
      exact ih (by omega)
  show pw_V x m_X5_pairsOfEnemies 1 Z 0 [(0, .ref 4)] [] mm
  refine pw_blk (pc' := 4) [.iconst 0, .istore 1, .iconst 0, .istore 2] (by decide +kernel) ?_
  show pw_V x m_X5_pairsOfEnemies 1 Z 4 [(2, .int (nI 0)), (1, .int (nI 0)), (0, .ref 4)] [] mm
  refine pw_lvp [2, 1, 0] rfl ?_
  exact loop 0 (by omega)
