/-! the evenings that are remembered, kept, taken back: ring and row -/
section MVR
variable {A A' B B' : pw_m}
theorem MV.u (h : MV A B) (hu : MVU A' B') (hA : ∀ c, (3 ≤ c ∧ c ≤ 10) ∨ (15 ≤ c ∧ c ≤ 18) ∨ (42 ≤ c ∧ c ≤ 45) → A' c = A c) (h2 : A' 2 1 = A 2 1) (h14 : A' 14 4 = A 14 4) (hB : ∀ c, (27 ≤ c ∧ c ≤ 30) ∨ c = 34 ∨ c = 35 → B' c = B c) (h26 : ∀ j, j ≠ 9 → B' 26 j = B 26 j) : MV A' B' := by
  obtain ⟨a, b, c, d, e, f⟩ := h
  exact ⟨a.c (fun c q1 q2 => hA c (by omega)) (fun j _ => h26 j (by omega)) (fun c _ _ => hB c (by omega)), b.c (fun c q1 q2 => hA c (by omega)) (hB 30 (by omega)), hu, d.c h14 (fun c q1 q2 => hA c (by omega)) (h26 13 (by omega)) (hB 34 (by omega)), e.c h2 (hA 3 (by omega)) (h26 16 (by omega)) (hB 35 (by omega)), by rw [h26 33 (by omega)]; exact f⟩
theorem MV.e (h : MV A B) (he : MVE A' B') (hA : ∀ c, c < 42 ∨ 45 < c → A' c = A c) (hB : ∀ c, c ≠ 30 → B' c = B c) : MV A' B' := by
  obtain ⟨a, b, c, d, e, f⟩ := h
  exact ⟨a.c (fun c q1 q2 => hA c (by omega)) (fun j _ => by rw [hB 26 (by omega)]) (fun c _ _ => hB c (by omega)), he, c.c (fun k _ _ => by rw [hA 11 (by omega)]) (fun c q1 q2 => hA c (by omega)) (by rw [hB 26 (by omega)]) (fun c q1 q2 => hB c (by omega)), d.c (by rw [hA 14 (by omega)]) (fun c q1 q2 => hA c (by omega)) (by rw [hB 26 (by omega)]) (hB 34 (by omega)), e.c (by rw [hA 2 (by omega)]) (hA 3 (by omega)) (by rw [hB 26 (by omega)]) (hB 35 (by omega)), by rw [hB 26 (by omega)]; exact f⟩
/-- a row of six in an evening's row -/
theorem MVE.mk6 (h0 : B 30 0 = A 42 0) (h1 : B 30 1 = A 42 1) (hr : ∀ i, i < 6 → B 30 (2 + i) = A 43 i ∧ B 30 (8 + i) = A 44 i ∧ B 30 (14 + i) = A 45 i) : MVE A B := by
  intro k hk
  by_cases q0 : k = 0
  · subst q0; exact h0
  by_cases q1 : k = 1
  · subst q1; exact h1
  by_cases q2 : k < 8
  · obtain ⟨i, rfl⟩ : ∃ i, k = 2 + i := ⟨k - 2, by omega⟩
    rw [pw_es_r (by omega)]; exact (hr i (by omega)).1
  by_cases q3 : k < 14
  · obtain ⟨i, rfl⟩ : ∃ i, k = 8 + i := ⟨k - 8, by omega⟩
    rw [pw_es_n (by omega)]; exact (hr i (by omega)).2.1
  · obtain ⟨i, rfl⟩ : ∃ i, k = 14 + i := ⟨k - 14, by omega⟩
    rw [pw_es_p (by omega)]; exact (hr i (by omega)).2.2
theorem MVE.r (h : MVE A B) : B 30 0 = A 42 0 ∧ B 30 1 = A 42 1 ∧ ∀ i, i < 6 → B 30 (2 + i) = A 43 i ∧ B 30 (8 + i) = A 44 i ∧ B 30 (14 + i) = A 45 i :=
  ⟨h 0 (by omega), h 1 (by omega), fun i hi => ⟨(h (2 + i) (by omega)).trans (pw_es_r hi), (h (8 + i) (by omega)).trans (pw_es_n hi), (h (14 + i) (by omega)).trans (pw_es_p hi)⟩⟩
theorem mv_sit (hv : MV A B) {i : Nat} (hi : i < 6) (v : Int32) : MV (pw_up A 45 i v) (pw_up B 30 (14 + i) v) := by
  obtain ⟨r0, r1, r2⟩ := hv.2.1.r
  refine hv.e (MVE.mk6 ?_ ?_ (fun j hj => ?_)) (fun c hc => pw_up_ne (by omega)) (fun c hc => pw_up_ne hc)
  · rw [pw_up_eq, pw_up_ne (by omega)]; unfold upd; rw [if_neg (by omega)]; exact r0
  · rw [pw_up_eq, pw_up_ne (by omega)]; unfold upd; rw [if_neg (by omega)]; exact r1
  · rw [pw_up_eq, pw_up_ne (by omega), pw_up_ne (by omega), pw_up_eq]
    unfold upd
    rw [if_neg (by omega), if_neg (by omega)]
    refine ⟨(r2 j hj).1, (r2 j hj).2.1, ?_⟩
    by_cases q : j = i
    · rw [if_pos (by omega), if_pos q]
    · rw [if_neg (by omega), if_neg q]; exact (r2 j hj).2.2
theorem mv_tell (hv : MV A B) {i : Nat} (hi : i < 6) (v : Int32) : MV (pw_up A 44 i v) (pw_up B 30 (8 + i) v) := by
  obtain ⟨r0, r1, r2⟩ := hv.2.1.r
  refine hv.e (MVE.mk6 ?_ ?_ (fun j hj => ?_)) (fun c hc => pw_up_ne (by omega)) (fun c hc => pw_up_ne hc)
  · rw [pw_up_eq, pw_up_ne (by omega)]; unfold upd; rw [if_neg (by omega)]; exact r0
  · rw [pw_up_eq, pw_up_ne (by omega)]; unfold upd; rw [if_neg (by omega)]; exact r1
  · rw [pw_up_eq, pw_up_ne (by omega), pw_up_eq, pw_up_ne (by omega)]
    unfold upd
    rw [if_neg (show ¬ 2 + j = 8 + i by omega), if_neg (show ¬ 14 + j = 8 + i by omega)]
    refine ⟨(r2 j hj).1, ?_, (r2 j hj).2.2⟩
    by_cases q : j = i
    · rw [if_pos (by omega), if_pos q]
    · rw [if_neg (by omega), if_neg q]; exact (r2 j hj).2.1
/-- all rise -/
def pw_rsM (B : pw_m) (e : Nat) : pw_m := fun c => if c = 30 then (fun k => if 14 ≤ k ∧ k < 14 + e then -1 else B 30 k) else B c
theorem pw_rsM_0 : pw_rsM B 0 = B := by
  funext c
  unfold pw_rsM
  by_cases h : c = 30
  · subst h; rw [if_pos rfl]; funext k; rw [if_neg (by omega)]
  · rw [if_neg h]
theorem pw_rsM_s {e : Nat} : pw_up (pw_rsM B e) 30 (14 + e) (-1) = pw_rsM B (e + 1) := by
  funext c
  by_cases h : c = 30
  · subst h
    rw [pw_up_eq]
    unfold pw_rsM upd
    rw [if_pos rfl, if_pos rfl]
    funext k
    by_cases q : k = 14 + e
    · rw [if_pos q, if_pos (by omega)]
    · rw [if_neg q]
      by_cases q2 : 14 ≤ k ∧ k < 14 + e
      · rw [if_pos q2, if_pos (by omega)]
      · rw [if_neg q2, if_neg (by omega)]
  · rw [pw_up_ne h]; unfold pw_rsM; rw [if_neg h, if_neg h]
theorem mv_rise (hv : MV A B) : MV (pw_rsI A 6) (pw_rsM B 6) := by
  obtain ⟨r0, r1, r2⟩ := hv.2.1.r
  have eA : ∀ c, c ≠ 45 → pw_rsI A 6 c = A c := fun c hc => by unfold pw_rsI; rw [if_neg hc]
  have eB : ∀ k, pw_rsM B 6 30 k = if 14 ≤ k ∧ k < 14 + 6 then -1 else B 30 k := fun k => by unfold pw_rsM; rw [if_pos rfl]
  refine hv.e (MVE.mk6 ?_ ?_ (fun j hj => ?_)) (fun c hc => eA c (by omega)) (fun c hc => by unfold pw_rsM; rw [if_neg hc])
  · rw [eB, eA 42 (by omega), if_neg (by omega)]; exact r0
  · rw [eB, eA 42 (by omega), if_neg (by omega)]; exact r1
  · rw [eB, eB, eB, eA 43 (by omega), eA 44 (by omega), if_neg (by omega), if_neg (by omega), if_pos (by omega)]
    refine ⟨(r2 j hj).1, (r2 j hj).2.1, ?_⟩
    unfold pw_rsI pw_c6
    rw [if_pos rfl, if_pos hj]
/-- the ring behind a remembering -/
theorem pw_gr2 (h : pw_ok A) : pw_g (pw_rem A) 11 2 = min 8 (pw_g A 11 2 + 1) := by
  have hu := pw_b112 h
  unfold pw_g at *; rw [pw_rem_2]; unfold pw_g; exact pw_c_nI (by omega)
theorem pw_gr4 (h : pw_ok A) : pw_g (pw_rem A) 11 4 = pw_nx (pw_g A 11 4) := by
  have hx := pw_b114 h
  have : pw_nx (pw_g A 11 4) < 8 := by unfold pw_nx; split <;> omega
  unfold pw_g at *; rw [pw_rem_4]; unfold pw_g; exact pw_c_nI (by omega)
theorem pw_rg_rem1 (h : pw_ok A) (ha : pw_g A 11 2 < 8) {i : Nat} (hi : i < pw_g A 11 2) : pw_rg (pw_rem A) i = pw_rg A i ∧ pw_rg A i ≠ pw_g A 11 4 := by
  have hx := pw_b114 h
  unfold pw_rg
  rw [pw_gr2 h, pw_gr4 h]
  unfold pw_nx
  constructor
  · split <;> omega
  · omega
theorem pw_rg_rem8 (h : pw_ok A) (ha : pw_g A 11 2 = 8) {i : Nat} (hi : i < 7) : pw_rg (pw_rem A) i = pw_rg A (i + 1) ∧ pw_rg A (i + 1) ≠ pw_g A 11 4 := by
  have hx := pw_b114 h
  unfold pw_rg
  rw [pw_gr2 h, pw_gr4 h, ha]
  unfold pw_nx
  constructor
  · split <;> omega
  · omega
theorem pw_rg_remL (h : pw_ok A) : pw_rg (pw_rem A) (min 8 (pw_g A 11 2 + 1) - 1) = pw_g A 11 4 := by
  have hx := pw_b114 h
  have hu := pw_b112 h
  unfold pw_rg
  rw [pw_gr2 h, pw_gr4 h]
  unfold pw_nx
  split <;> omega
theorem pw_es_ro (h : pw_ok A) {r k : Nat} (hr : r < 8) (hn : r ≠ pw_g A 11 4) : pw_es (pw_rem A) (46 + 4 * r) k = pw_es A (46 + 4 * r) k := by
  have hx := pw_b114 h
  exact pw_es_c (fun c q1 q2 => by rw [pw_rem_e (by omega), pw_cpI_o (by omega)])
theorem pw_es_rn (h : pw_ok A) {k : Nat} (hk : k < 20) : pw_es (pw_rem A) (46 + 4 * pw_g A 11 4) k = pw_es A 42 k := by
  have hx := pw_b114 h
  rw [← pw_es_cp (A := A) (d := 46 + 4 * pw_g A 11 4) (s := 42) hk]
  exact pw_es_c (fun c q1 q2 => pw_rem_e (by omega))
def pw_shI (B : pw_m) (e : Nat) : pw_m := fun c => if c = 31 then (fun k => if k < e then B 31 (k + 20) else B 31 k) else B c
def pw_cpS (B : pw_m) (a e : Nat) : pw_m := fun c => if c = 31 then (fun k => if 20 * a ≤ k ∧ k < 20 * a + e then B 30 (k - 20 * a) else B 31 k) else B c
theorem pw_shI_0 : pw_shI B 0 = B := by
  funext c
  unfold pw_shI
  by_cases h : c = 31
  · subst h; rw [if_pos rfl]; funext k; rw [if_neg (by omega)]
  · rw [if_neg h]
theorem pw_shI_s {e : Nat} : pw_up (pw_shI B e) 31 e (pw_shI B e 31 (e + 20)) = pw_shI B (e + 1) := by
  funext c
  by_cases h : c = 31
  · subst h
    rw [pw_up_eq]
    unfold pw_shI upd
    rw [if_pos rfl, if_pos rfl]
    funext k
    by_cases q : k = e
    · subst q; rw [if_pos rfl, if_neg (by omega), if_pos (by omega)]
    · rw [if_neg q]
      by_cases q2 : k < e
      · rw [if_pos q2, if_pos (by omega)]
      · rw [if_neg q2, if_neg (by omega)]
  · rw [pw_up_ne h]; unfold pw_shI; rw [if_neg h, if_neg h]
theorem pw_cpS_0 {a : Nat} : pw_cpS B a 0 = B := by
  funext c
  unfold pw_cpS
  by_cases h : c = 31
  · subst h; rw [if_pos rfl]; funext k; rw [if_neg (by omega)]
  · rw [if_neg h]
theorem pw_cpS_s {a e : Nat} : pw_up (pw_cpS B a e) 31 (20 * a + e) (pw_cpS B a e 30 e) = pw_cpS B a (e + 1) := by
  funext c
  by_cases h : c = 31
  · subst h
    rw [pw_up_eq]
    unfold pw_cpS upd
    rw [if_pos rfl, if_pos rfl, if_neg (by omega)]
    funext k
    by_cases q : k = 20 * a + e
    · subst q; rw [if_pos rfl, if_pos (by omega), show 20 * a + e - 20 * a = e by omega]
    · rw [if_neg q]
      by_cases q2 : 20 * a ≤ k ∧ k < 20 * a + e
      · rw [if_pos q2, if_pos (by omega)]
      · rw [if_neg q2, if_neg (by omega)]
  · rw [pw_up_ne h]; unfold pw_cpS; rw [if_neg h, if_neg h]
/-- what remembering leaves: by places -/
theorem mv_rem_mk (hv : MV A B) (hok : pw_ok A) (h9 : B' 26 9 = nI (min 8 (pw_g A 11 2 + 1))) (h26 : ∀ j, j ≠ 9 → B' 26 j = B 26 j) (hB : ∀ c, c ≠ 26 → c ≠ 31 → B' c = B c) (h31 : ∀ i, i < min 8 (pw_g A 11 2 + 1) → ∀ k, k < 20 → B' 31 (20 * i + k) = if i = min 8 (pw_g A 11 2 + 1) - 1 then B 30 k else if pw_g A 11 2 = 8 then B 31 (20 * (i + 1) + k) else B 31 (20 * i + k)) : MV (pw_rem A) B' := by
  have hx := pw_b114 hok
  have hu := pw_b112 hok
  refine hv.u ⟨?_, fun i hi k hk => ?_, fun j hj => ⟨?_, fun ht k hk => ?_⟩⟩ (fun c hc => pw_rem_o hx (by omega) (by omega)) (by rw [pw_rem_o hx (by omega) (by omega)]) (by rw [pw_rem_o hx (by omega) (by omega)]) (fun c hc => hB c (by omega) (by omega)) h26
  · rw [h9, pw_rem_2]
  · rw [pw_gr2 hok] at hi
    rw [h31 i hi k hk]
    by_cases q : i = min 8 (pw_g A 11 2 + 1) - 1
    · rw [if_pos q, q, pw_rg_remL hok, pw_es_rn hok hk]
      exact hv.2.1 k hk
    · rw [if_neg q]
      by_cases q8 : pw_g A 11 2 = 8
      · obtain ⟨e1, e2⟩ := pw_rg_rem8 hok q8 (i := i) (by omega)
        rw [if_pos q8, e1, pw_es_ro hok pw_rg_lt e2]
        exact hv.2.2.1.2.1 (i + 1) (by omega) k hk
      · obtain ⟨e1, e2⟩ := pw_rg_rem1 hok (by omega) (i := i) (by omega)
        rw [if_neg q8, e1, pw_es_ro hok pw_rg_lt e2]
        exact hv.2.2.1.2.1 i (by omega) k hk
  · rw [hB 33 (by omega) (by omega), (hv.2.2.1.2.2 j hj).1]
    unfold pw_g
    rw [pw_rem_3 hx]
  · unfold pw_g at ht
    rw [pw_rem_3 hx] at ht
    rw [hB 32 (by omega) (by omega), (hv.2.2.1.2.2 j hj).2 ht k hk]
    exact (pw_es_c (fun c q1 q2 => pw_rem_o hx (by omega) (by omega))).symm
theorem mv_rem1 (hv : MV A B) (hok : pw_ok A) (ha : pw_g A 11 2 < 8) : MV (pw_rem A) (pw_up (pw_cpS B (pw_g A 11 2) 20) 26 9 (nI (pw_g A 11 2 + 1))) := by
  have em : min 8 (pw_g A 11 2 + 1) = pw_g A 11 2 + 1 := by omega
  have oc : ∀ c, c ≠ 31 → pw_cpS B (pw_g A 11 2) 20 c = B c := fun c hc => by unfold pw_cpS; rw [if_neg hc]
  refine mv_rem_mk hv hok (by rw [em]; exact pw_up_gs) (fun j hj => by rw [pw_up_eq]; unfold upd; rw [if_neg hj, oc 26 (by omega)]) (fun c h1 h2 => by rw [pw_up_ne h1, oc c h2]) (fun i hi k hk => ?_)
  rw [em] at hi ⊢
  rw [pw_up_ne (by omega)]
  unfold pw_cpS
  rw [if_pos rfl]
  by_cases q : i = pw_g A 11 2 + 1 - 1
  · rw [if_pos q, if_pos (by omega), show 20 * i + k - 20 * pw_g A 11 2 = k by omega]
  · rw [if_neg q, if_neg (by omega), if_neg (by omega)]
theorem mv_rem8 (hv : MV A B) (hok : pw_ok A) (ha : pw_g A 11 2 = 8) : MV (pw_rem A) (pw_up (pw_cpS (pw_up (pw_shI B 140) 26 9 (nI 7)) 7 20) 26 9 (nI 8)) := by
  have em : min 8 (pw_g A 11 2 + 1) = 8 := by omega
  have os : ∀ c, c ≠ 31 → pw_shI B 140 c = B c := fun c hc => by unfold pw_shI; rw [if_neg hc]
  have oc : ∀ c, c ≠ 31 → pw_cpS (pw_up (pw_shI B 140) 26 9 (nI 7)) 7 20 c = pw_up (pw_shI B 140) 26 9 (nI 7) c := fun c hc => by unfold pw_cpS; rw [if_neg hc]
  refine mv_rem_mk hv hok (by rw [em]; exact pw_up_gs) (fun j hj => by rw [pw_up_eq]; unfold upd; rw [if_neg hj, oc 26 (by omega), pw_up_eq]; unfold upd; rw [if_neg hj, os 26 (by omega)]) (fun c h1 h2 => by rw [pw_up_ne h1, oc c h2, pw_up_ne h1, os c h2]) (fun i hi k hk => ?_)
  rw [em] at hi ⊢
  rw [pw_up_ne (by omega)]
  unfold pw_cpS
  rw [if_pos rfl]
  by_cases q : i = 8 - 1
  · rw [if_pos q, if_pos (by omega), show 20 * i + k - 20 * 7 = k by omega, pw_up_ne (by omega), os 30 (by omega)]
  · rw [if_neg q, if_neg (by omega), if_pos ha, pw_up_ne (by omega)]
    unfold pw_shI
    rw [if_pos rfl, if_pos (by omega), show 20 * i + k + 20 = 20 * (i + 1) + k by omega]
/-- undone -/
def pw_unI (B : pw_m) (a e : Nat) : pw_m := fun c => if c = 30 then (fun k => if k < e then B 31 (20 * a + k) else B 30 k) else B c
theorem pw_unI_0 {a : Nat} : pw_unI B a 0 = B := by
  funext c
  unfold pw_unI
  by_cases h : c = 30
  · subst h; rw [if_pos rfl]; funext k; rw [if_neg (by omega)]
  · rw [if_neg h]
theorem pw_unI_s {a e : Nat} : pw_up (pw_unI B a e) 30 e (pw_unI B a e 31 (20 * a + e)) = pw_unI B a (e + 1) := by
  funext c
  by_cases h : c = 30
  · subst h
    rw [pw_up_eq]
    unfold pw_unI upd
    rw [if_pos rfl, if_pos rfl, if_neg (by omega)]
    funext k
    by_cases q : k = e
    · subst q; rw [if_pos rfl, if_pos (by omega)]
    · rw [if_neg q]
      by_cases q2 : k < e
      · rw [if_pos q2, if_pos (by omega)]
      · rw [if_neg q2, if_neg (by omega)]
  · rw [pw_up_ne h]; unfold pw_unI; rw [if_neg h, if_neg h]
theorem mv_undo (hv : MV A B) (hok : pw_ok A) (h0 : 0 < pw_g A 11 2) : MV (pw_rec A) (pw_unI (pw_up B 26 9 (nI (pw_g A 11 2 - 1))) (pw_g A 11 2 - 1) 20) := by
  have hx := pw_b114 hok
  have hu := pw_b112 hok
  have hp : pw_px (pw_g A 11 4) < 8 := by unfold pw_px; split <;> omega
  have eo : ∀ c, c ≠ 11 → (c < 42 ∨ 46 ≤ c) → pw_rec A c = A c := fun c h1 h2 => by unfold pw_rec; rw [pw_up_ne h1, pw_cpI_o (by omega), pw_up_ne h1]
  have e2 : pw_rec A 11 2 = nI (pw_g A 11 2 - 1) := by unfold pw_rec; rw [pw_up_eq]; simp [upd]
  have e4 : pw_rec A 11 4 = nI (pw_px (pw_g A 11 4)) := by unfold pw_rec; rw [pw_up_eq, pw_cpI_o (by omega), pw_up_eq]; simp [upd]
  have e3 : pw_rec A 11 3 = A 11 3 := by unfold pw_rec; rw [pw_up_eq, pw_cpI_o (by omega), pw_up_eq]; simp [upd]
  have g2 : pw_g (pw_rec A) 11 2 = pw_g A 11 2 - 1 := by unfold pw_g; rw [e2]; exact pw_c_nI (by unfold pw_g at *; omega)
  have g4 : pw_g (pw_rec A) 11 4 = pw_px (pw_g A 11 4) := by unfold pw_g; rw [e4]; exact pw_c_nI (by unfold pw_g at *; omega)
  have er : pw_rg A (pw_g A 11 2 - 1) = pw_px (pw_g A 11 4) := by unfold pw_rg pw_px; split <;> omega
  have oB : ∀ c, c ≠ 26 → c ≠ 30 → pw_unI (pw_up B 26 9 (nI (pw_g A 11 2 - 1))) (pw_g A 11 2 - 1) 20 c = B c := fun c h1 h2 => by unfold pw_unI; rw [if_neg h2, pw_up_ne h1]
  have o26 : ∀ j, j ≠ 9 → pw_unI (pw_up B 26 9 (nI (pw_g A 11 2 - 1))) (pw_g A 11 2 - 1) 20 26 j = B 26 j := fun j hj => by unfold pw_unI; rw [if_neg (by omega), pw_up_eq]; unfold upd; rw [if_neg hj]
  have o9 : pw_unI (pw_up B 26 9 (nI (pw_g A 11 2 - 1))) (pw_g A 11 2 - 1) 20 26 9 = nI (pw_g A 11 2 - 1) := by unfold pw_unI; rw [if_neg (by omega)]; exact pw_up_gs
  obtain ⟨a, b, c, d, e, f⟩ := hv
  refine ⟨a.c (fun c q1 q2 => eo c (by omega) (by omega)) (fun j hj => o26 j (by omega)) (fun c q1 q2 => oB c (by omega) (by omega)), fun k hk => ?_, ⟨by rw [o9, e2], fun i hi k hk => ?_, fun j hj => ⟨?_, fun ht k hk => ?_⟩⟩, d.c (by rw [eo 14 (by omega) (by omega)]) (fun c q1 q2 => eo c (by omega) (by omega)) (o26 13 (by omega)) (oB 34 (by omega) (by omega)), e.c (by rw [eo 2 (by omega) (by omega)]) (eo 3 (by omega) (by omega)) (o26 16 (by omega)) (oB 35 (by omega) (by omega)), (o26 33 (by omega)).trans f⟩
  · have q1 : pw_es (pw_rec A) 42 k = pw_es A (46 + 4 * pw_px (pw_g A 11 4)) k := by
      have z1 : pw_es (pw_rec A) 42 k = pw_es (pw_cpI (pw_up A 11 4 (nI (pw_px (pw_g A 11 4)))) 42 (46 + 4 * pw_px (pw_g A 11 4)) 6) 42 k := pw_es_c (fun c h1 h2 => by unfold pw_rec; rw [pw_up_ne (by omega)])
      rw [z1, pw_es_cp hk]
      exact pw_es_c (fun c h1 h2 => pw_up_ne (by omega))
    rw [q1, ← er, ← c.2.1 (pw_g A 11 2 - 1) (by omega) k hk]
    unfold pw_unI
    rw [if_pos rfl, if_pos hk, pw_up_ne (by omega)]
  · rw [g2] at hi
    have e5 : pw_rg (pw_rec A) i = pw_rg A i := by unfold pw_rg; rw [g2, g4]; unfold pw_px; split <;> omega
    have := pw_rg_lt (A := A) (i := i)
    rw [oB 31 (by omega) (by omega), e5, c.2.1 i (by omega) k hk]
    exact (pw_es_c (fun c h1 h2 => eo c (by omega) (by omega))).symm
  · rw [oB 33 (by omega) (by omega), (c.2.2 j hj).1]
    unfold pw_g; rw [e3]
  · unfold pw_g at ht
    rw [e3] at ht
    rw [oB 32 (by omega) (by omega), (c.2.2 j hj).2 ht k hk]
    exact (pw_es_c (fun c h1 h2 => eo c (by omega) (by omega))).symm
/-- kept -/
def pw_keI (B : pw_m) (a e : Nat) : pw_m := fun c => if c = 32 then (fun k => if 20 * a ≤ k ∧ k < 20 * a + e then B 30 (k - 20 * a) else B 32 k) else B c
theorem pw_keI_0 {a : Nat} : pw_keI B a 0 = B := by
  funext c
  unfold pw_keI
  by_cases h : c = 32
  · subst h; rw [if_pos rfl]; funext k; rw [if_neg (by omega)]
  · rw [if_neg h]
theorem pw_keI_s {a e : Nat} : pw_up (pw_keI B a e) 32 (20 * a + e) (pw_keI B a e 30 e) = pw_keI B a (e + 1) := by
  funext c
  by_cases h : c = 32
  · subst h
    rw [pw_up_eq]
    unfold pw_keI upd
    rw [if_pos rfl, if_pos rfl, if_neg (by omega)]
    funext k
    by_cases q : k = 20 * a + e
    · subst q; rw [if_pos rfl, if_pos (by omega), show 20 * a + e - 20 * a = e by omega]
    · rw [if_neg q]
      by_cases q2 : 20 * a ≤ k ∧ k < 20 * a + e
      · rw [if_pos q2, if_pos (by omega)]
      · rw [if_neg q2, if_neg (by omega)]
  · rw [pw_up_ne h]; unfold pw_keI; rw [if_neg h, if_neg h]
theorem mv_keep (hv : MV A B) (hok : pw_ok A) {a : Nat} (ha : a < 2) : MV (pw_kp A a) (pw_up (pw_keI B a 20) 33 a (nI 1)) := by
  have h4 := pw_b113 hok
  have hb := pw_or4 h4 ha
  have eo : ∀ c, c ≠ 11 → (c < 78 + 4 * a ∨ 82 + 4 * a ≤ c) → pw_kp A a c = A c := fun c h1 h2 => by unfold pw_kp; rw [pw_up_ne h1, pw_cpI_o (by omega)]
  have e2 : ∀ k, k ≠ 3 → pw_kp A a 11 k = A 11 k := fun k hk => by unfold pw_kp; rw [pw_up_eq, pw_cpI_o (by omega)]; simp [upd, hk]
  have g3 : pw_g (pw_kp A a) 11 3 = pw_g A 11 3 ||| 2 ^ a := by unfold pw_g pw_kp; rw [pw_up_gs]; exact pw_c_nI (by unfold pw_g at *; omega)
  have g2 : pw_g (pw_kp A a) 11 2 = pw_g A 11 2 := by unfold pw_g; rw [e2 2 (by omega)]
  have oB : ∀ c, c ≠ 33 → c ≠ 32 → pw_up (pw_keI B a 20) 33 a (nI 1) c = B c := fun c h1 h2 => by rw [pw_up_ne h1]; unfold pw_keI; rw [if_neg h2]
  refine hv.u ⟨by rw [oB 26 (by omega) (by omega), e2 2 (by omega)]; exact hv.2.2.1.1, fun i hi k hk => ?_, fun j hj => ⟨?_, fun ht k hk => ?_⟩⟩ (fun c hc => eo c (by omega) (by omega)) (by rw [eo 2 (by omega) (by omega)]) (by rw [eo 14 (by omega) (by omega)]) (fun c hc => oB c (by omega) (by omega)) (fun j _ => by rw [oB 26 (by omega) (by omega)])
  · rw [g2] at hi
    have er : pw_rg (pw_kp A a) i = pw_rg A i := by unfold pw_rg pw_g; rw [e2 2 (by omega), e2 4 (by omega)]
    have := pw_rg_lt (A := A) (i := i)
    rw [oB 31 (by omega) (by omega), er, hv.2.2.1.2.1 i hi k hk]
    exact (pw_es_c (fun c h1 h2 => eo c (by omega) (by omega))).symm
  · rw [g3, Nat.testBit_or, Nat.testBit_two_pow, pw_up_eq]
    unfold upd
    by_cases q : j = a
    · subst q; rw [if_pos rfl]; simp [pw_b]; rfl
    · rw [if_neg q]
      have : pw_keI B a 20 33 j = B 33 j := by unfold pw_keI; rw [if_neg (by omega)]
      rw [this, (hv.2.2.1.2.2 j hj).1]
      simp [show ¬ a = j from fun z => q z.symm]
  · rw [pw_up_ne (by omega)]
    unfold pw_keI
    rw [if_pos rfl]
    by_cases q : j = a
    · subst q
      rw [if_pos (by omega), show 20 * j + k - 20 * j = k by omega, hv.2.1 k hk, ← pw_es_cp (A := A) (d := 78 + 4 * j) (s := 42) hk]
      exact (pw_es_c (fun c h1 h2 => by unfold pw_kp; rw [pw_up_ne (by omega)])).symm
    · rw [if_neg (by omega)]
      rw [g3, Nat.testBit_or, Nat.testBit_two_pow] at ht
      have ht2 : (pw_g A 11 3).testBit j = true ∨ a = j := by simpa using ht
      rw [(hv.2.2.1.2.2 j hj).2 (ht2.resolve_right (fun z => q z.symm)) k hk]
      exact (pw_es_c (fun c h1 h2 => eo c (by omega) (by omega))).symm
/-- back -/
def pw_baI (B : pw_m) (a e : Nat) : pw_m := fun c => if c = 30 then (fun k => if k < e then B 32 (20 * a + k) else B 30 k) else B c
theorem pw_baI_0 {a : Nat} : pw_baI B a 0 = B := by
  funext c
  unfold pw_baI
  by_cases h : c = 30
  · subst h; rw [if_pos rfl]; funext k; rw [if_neg (by omega)]
  · rw [if_neg h]
theorem pw_baI_s {a e : Nat} : pw_up (pw_baI B a e) 30 e (pw_baI B a e 32 (20 * a + e)) = pw_baI B a (e + 1) := by
  funext c
  by_cases h : c = 30
  · subst h
    rw [pw_up_eq]
    unfold pw_baI upd
    rw [if_pos rfl, if_pos rfl, if_neg (by omega)]
    funext k
    by_cases q : k = e
    · subst q; rw [if_pos rfl, if_pos (by omega)]
    · rw [if_neg q]
      by_cases q2 : k < e
      · rw [if_pos q2, if_pos (by omega)]
      · rw [if_neg q2, if_neg (by omega)]
  · rw [pw_up_ne h]; unfold pw_baI; rw [if_neg h, if_neg h]
theorem mv_back (hv : MV A B) (hok : pw_ok A) {a : Nat} (ha : a < 2) (hb : (pw_g A 11 3).testBit a = true) : MV (pw_bk_ A a) (pw_up (pw_baI B a 20) 26 9 (nI 0)) := by
  have eo : ∀ c, c ≠ 11 → (c < 42 ∨ 46 ≤ c) → pw_bk_ A a c = A c := fun c h1 h2 => by unfold pw_bk_; rw [pw_up_ne h1, pw_cpI_o (by omega)]
  have e2 : ∀ k, k ≠ 2 → pw_bk_ A a 11 k = A 11 k := fun k hk => by unfold pw_bk_; rw [pw_up_eq, pw_cpI_o (by omega)]; simp [upd, hk]
  have e3 : pw_bk_ A a 11 2 = nI 0 := by unfold pw_bk_; rw [pw_up_eq]; simp [upd]
  have g2 : pw_g (pw_bk_ A a) 11 2 = 0 := by unfold pw_g; rw [e3]; exact pw_c_nI (by omega)
  have oB : ∀ c, c ≠ 26 → c ≠ 30 → pw_up (pw_baI B a 20) 26 9 (nI 0) c = B c := fun c h1 h2 => by rw [pw_up_ne h1]; unfold pw_baI; rw [if_neg h2]
  have o26 : ∀ j, j ≠ 9 → pw_up (pw_baI B a 20) 26 9 (nI 0) 26 j = B 26 j := fun j hj => by rw [pw_up_eq]; unfold upd pw_baI; rw [if_neg hj, if_neg (by omega)]
  obtain ⟨ta, b, c, d, e, f⟩ := hv
  refine ⟨ta.c (fun c q1 q2 => eo c (by omega) (by omega)) (fun j hj => o26 j (by omega)) (fun c q1 q2 => oB c (by omega) (by omega)), fun k hk => ?_, ⟨by rw [e3]; exact pw_up_gs, fun i hi k hk => by rw [g2] at hi; omega, fun j hj => ⟨?_, fun ht k hk => ?_⟩⟩, d.c (by rw [eo 14 (by omega) (by omega)]) (fun c q1 q2 => eo c (by omega) (by omega)) (o26 13 (by omega)) (oB 34 (by omega) (by omega)), e.c (by rw [eo 2 (by omega) (by omega)]) (eo 3 (by omega) (by omega)) (o26 16 (by omega)) (oB 35 (by omega) (by omega)), (o26 33 (by omega)).trans f⟩
  · have q1 : pw_es (pw_bk_ A a) 42 k = pw_es A (78 + 4 * a) k := by
      rw [← pw_es_cp (A := A) (d := 42) (s := 78 + 4 * a) hk]
      exact pw_es_c (fun c h1 h2 => by unfold pw_bk_; rw [pw_up_ne (by omega)])
    rw [q1, ← (c.2.2 a ha).2 hb k hk, pw_up_ne (by omega)]
    unfold pw_baI
    rw [if_pos rfl, if_pos hk]
  · rw [oB 33 (by omega) (by omega), (c.2.2 j hj).1]
    unfold pw_g; rw [e2 3 (by omega)]
  · unfold pw_g at ht
    rw [e2 3 (by omega)] at ht
    rw [oB 32 (by omega) (by omega), (c.2.2 j hj).2 ht k hk]
    exact (pw_es_c (fun c h1 h2 => eo c (by omega) (by omega))).symm
end MVR
