/-! what feasts, undo, keep and back make of a memory, and that it stays well -/
theorem pw_ok_e {A B : pw_m} (h : ∀ c, (3 ≤ c ∧ c ≤ 13) ∨ (15 ≤ c ∧ c ≤ 18) ∨ (46 ≤ c ∧ c ≤ 85) → B c = A c) (h1 : B 2 1 = A 2 1) (h2 : B 14 4 = A 14 4) (he : pw_ev B 42 (pw_n A) (pw_k A)) (q : pw_ok A) : pw_ok B := by
  have hT : ∀ c, 4 ≤ c → c ≤ 10 → B c = A c := fun c h1 h2 => h c (by omega)
  obtain ⟨q1, q2, q3, q4, q5⟩ := q
  refine ⟨pw_okT_c hT q1, by rw [pw_n_c hT, pw_k_c hT]; exact he, pw_okU_c hT (fun k _ _ => by rw [h 11 (by omega)]) (fun c h1 h2 => h c (by omega)) q3, pw_okW_c hT (fun c h1 h2 => h c (by omega)) h2 q4, pw_okX_c (h 3 (by omega)) h1 q5⟩
theorem pw_ok_f {A B : pw_m} (h : ∀ c, (3 ≤ c ∧ c ≤ 13) ∨ (15 ≤ c ∧ c ≤ 18) ∨ (42 ≤ c ∧ c ≤ 85) → B c = A c) (h1 : B 2 1 = A 2 1) (h2 : B 14 4 = A 14 4) (q : pw_ok A) : pw_ok B :=
  pw_ok_e (fun c hc => h c (by omega)) h1 h2 (pw_ev_c (fun c h3 h4 => h c (by omega)) q.2.1) q
theorem pw_up_gs {m : pw_m} {c k : Nat} {v : Int32} : pw_up m c k v c k = v := by simp [pw_up, upd]
theorem pw_sb_lt {A : pw_m} : pw_sb A < 64 := pw_ob_lt
theorem pw_wrs_lt {A : pw_m} (h : pw_ok A) : pw_wrs A < 64 := Nat.lt_of_lt_of_le pw_ob_lt (Nat.pow_le_pow_right (by omega) (pw_bk h) : 2 ^ pw_k A ≤ 2 ^ 6)
theorem pw_ok_sit {A : pw_m} (h : pw_ok A) {k s : Nat} (hk : k < pw_k A) (hs : s < pw_n A) (h1 : pw_pl A k = none) (h2 : pw_si A s = none) : pw_ok (pw_up A 45 k (nI s)) := by
  have bk := pw_bk h
  have bn := pw_bn h
  refine pw_ok_e (fun c hc => pw_up_ne (by omega)) (by rw [pw_up_ne (by omega)]) (by rw [pw_up_ne (by omega)]) ?_ h
  obtain ⟨⟨a, b⟩, c, f, g, i, j⟩ := h.2.1
  have hsi := pw_ff_n.mp h2
  have e : ∀ z, pw_up A 45 k (nI s) (42 + 3) z = if z = k then nI s else A 45 z := fun z => by rw [pw_up_eq]; rfl
  have e45 : pw_oc (nI s) = some s := by unfold pw_oc; rw [if_neg (pw_n1 (by omega)), pw_c_nI (by omega)]
  refine ⟨⟨by rw [pw_up_ne (by omega)]; exact a, by rw [pw_up_ne (by omega)]; exact b⟩, fun z hz => by rw [pw_up_ne (by omega)]; exact c z hz, fun z hz => by rw [pw_up_ne (by omega)]; exact f z hz, fun z hz => ?_, fun z hz hk2 => ?_, fun y z t hy hz e1 e2 => ?_⟩
  · rw [e]
    split
    · exact pw_fino_o (q := some s) (fun a ha => by cases ha; exact hs) (by omega)
    · exact g z hz
  · rw [e, if_neg (by omega)]
    exact i z hz hk2
  · rw [e] at e1 e2
    by_cases hy' : y = k
    · by_cases hz' : z = k
      · rw [hy', hz']
      · rw [if_pos hy', e45] at e1
        rw [if_neg hz'] at e2
        have := hsi z hz
        rw [show pw_pl A z = some s from by rw [← e1] at e2; exact e2] at this
        simp at this
    · by_cases hz' : z = k
      · rw [if_pos hz', e45] at e2
        rw [if_neg hy'] at e1
        have := hsi y hy
        rw [show pw_pl A y = some s from by rw [← e2] at e1; exact e1] at this
        simp at this
      · rw [if_neg hy'] at e1
        rw [if_neg hz'] at e2
        exact j y z t hy hz e1 e2
theorem pw_ok_rise {A : pw_m} (h : pw_ok A) : pw_ok (pw_rsI A 6) := by
  have e : ∀ c, c ≠ 45 → pw_rsI A 6 c = A c := fun c hc => by unfold pw_rsI; rw [if_neg hc]
  have e45 : ∀ z, z < 6 → pw_oc (pw_rsI A 6 (42 + 3) z) = none := fun z hz => by simp [pw_rsI, pw_c6, hz, pw_oc]
  refine pw_ok_e (fun c hc => e c (by omega)) (by rw [e 2 (by omega)]) (by rw [e 14 (by omega)]) ?_ h
  obtain ⟨⟨a, b⟩, c, f, g, i, j⟩ := h.2.1
  refine ⟨⟨by rw [e 42 (by omega)]; exact a, by rw [e 42 (by omega)]; exact b⟩, fun z hz => by rw [e (42 + 1) (by omega)]; exact c z hz, fun z hz => by rw [e (42 + 2) (by omega)]; exact f z hz, fun z hz => ⟨?_, fun a ha => ?_⟩, fun z hz _ => e45 z hz, fun y z t hy hz e1 e2 => ?_⟩
  · rw [e45 z hz]; simp [pw_rsI, pw_c6, hz, pw_o]
  · rw [e45 z hz] at ha; cases ha
  · rw [e45 y hy] at e1; cases e1
theorem pw_ok_news {A : pw_m} (h : pw_ok A) {k v : Nat} (hv : v < 16) : pw_ok (pw_up A 44 k (nI v)) := by
  refine pw_ok_e (fun c hc => pw_up_ne (by omega)) (by rw [pw_up_ne (by omega)]) (by rw [pw_up_ne (by omega)]) ?_ h
  obtain ⟨⟨a, b⟩, c, f, g⟩ := h.2.1
  refine ⟨⟨by rw [pw_up_ne (by omega)]; exact a, by rw [pw_up_ne (by omega)]; exact b⟩, fun z hz => by rw [pw_up_ne (by omega)]; exact c z hz, fun z hz => ?_, by rw [pw_up_ne (by omega)]; exact g⟩
  rw [pw_up_eq]
  unfold upd
  split
  · exact pw_fine_nI hv (by omega)
  · exact f z hz
theorem pw_or16 {a w : Nat} (h : a < 16) (hw : w < 4) : a ||| 2 ^ w < 16 := Nat.or_lt_two_pow (n := 4) h (by have := Nat.pow_lt_pow_right (show 1 < 2 by omega) hw; omega)
theorem pw_gx {A B : pw_m} {c k : Nat} (h : B c = A c) : pw_g B c k = pw_g A c k := by unfold pw_g; rw [h]
theorem pw_ok_rec {A : pw_m} (h : pw_ok A) (h0 : 0 < pw_g A 11 2) : pw_ok (pw_rec A) := by
  have hx := pw_b114 h
  have hu := pw_b112 h
  have hp : pw_px (pw_g A 11 4) < 8 := by unfold pw_px; split <;> omega
  have eo : ∀ c, c ≠ 11 → (c < 42 ∨ 46 ≤ c) → pw_rec A c = A c := fun c h1 h2 => by unfold pw_rec; rw [pw_up_ne h1, pw_cpI_o (by omega), pw_up_ne h1]
  have hT : ∀ c, 4 ≤ c → c ≤ 10 → pw_rec A c = A c := fun c h1 h2 => eo c (by omega) (by omega)
  have e2 : pw_rec A 11 2 = nI (pw_g A 11 2 - 1) := by unfold pw_rec; rw [pw_up_eq]; simp [upd]
  have e4 : pw_rec A 11 4 = nI (pw_px (pw_g A 11 4)) := by unfold pw_rec; rw [pw_up_eq, pw_cpI_o (by omega), pw_up_eq]; simp [upd]
  have e3 : pw_rec A 11 3 = A 11 3 := by unfold pw_rec; rw [pw_up_eq, pw_cpI_o (by omega), pw_up_eq]; simp [upd]
  have g2 : pw_g (pw_rec A) 11 2 = pw_g A 11 2 - 1 := by unfold pw_g; rw [e2]; exact pw_c_nI (by unfold pw_g at *; omega)
  have g4 : pw_g (pw_rec A) 11 4 = pw_px (pw_g A 11 4) := by unfold pw_g; rw [e4]; exact pw_c_nI (by unfold pw_g at *; omega)
  obtain ⟨q1, q2, ⟨⟨a1, a2, a3⟩, a4, a5⟩, q4, q5⟩ := h
  refine ⟨pw_okT_c hT q1, ?_, ⟨⟨?_, ?_, fun i hi => ?_⟩, by rw [e3]; exact a4, fun i hi ht => ?_⟩, pw_okW_c hT (fun c h1 h2 => eo c (by omega) (by omega)) (by rw [eo 14 (by omega) (by omega)]) q4, pw_okX_c (eo 3 (by omega) (by omega)) (by rw [eo 2 (by omega) (by omega)]) q5⟩
  · rw [pw_n_c hT, pw_k_c hT]
    have hv := a3 (pw_g A 11 2 - 1) (by omega)
    have er : pw_rg A (pw_g A 11 2 - 1) = pw_px (pw_g A 11 4) := by unfold pw_rg pw_px; split <;> omega
    rw [er] at hv
    refine pw_ev_c (A := pw_cpI (pw_up A 11 4 (nI (pw_px (pw_g A 11 4)))) 42 (46 + 4 * pw_px (pw_g A 11 4)) 6) (fun c h1 h2 => by unfold pw_rec; rw [pw_up_ne (by omega)]) (pw_ev_cp (pw_ev_c (fun c h1 h2 => pw_up_ne (by omega)) hv))
  · rw [e2]; exact pw_fine_nI (by omega) (by omega)
  · rw [e4]; exact pw_fine_nI hp (by omega)
  · rw [pw_n_c hT, pw_k_c hT]
    rw [g2] at hi
    have er : pw_rg (pw_rec A) i = pw_rg A i := by unfold pw_rg; rw [g2, g4]; unfold pw_px; split <;> omega
    rw [er]
    exact pw_ev_c (fun c h1 h2 => eo c (by omega) (by omega)) (a3 i (by omega))
  · rw [pw_n_c hT, pw_k_c hT]
    have ht' : (pw_g A 11 3).testBit i = true := by unfold pw_g at ht ⊢; rw [e3] at ht; exact ht
    exact pw_ev_c (fun c h1 h2 => eo c (by omega) (by omega)) (a5 i hi ht')
def pw_kp (A : pw_m) (j : Nat) : pw_m := pw_up (pw_cpI A (78 + 4 * j) 42 6) 11 3 (nI (pw_g A 11 3 ||| 2 ^ j))
def pw_bk_ (A : pw_m) (j : Nat) : pw_m := pw_up (pw_cpI A 42 (78 + 4 * j) 6) 11 2 (nI 0)
theorem pw_or4 {a j : Nat} (h : a < 4) (hj : j < 2) : a ||| 2 ^ j < 4 := Nat.or_lt_two_pow (n := 2) h (by have := Nat.pow_lt_pow_right (show 1 < 2 by omega) hj; omega)
theorem pw_ok_kp {A : pw_m} (h : pw_ok A) {j : Nat} (hj : j < 2) : pw_ok (pw_kp A j) := by
  have hb := pw_or4 (pw_b113 h) hj
  have eo : ∀ c, c ≠ 11 → (c < 78 + 4 * j ∨ 82 + 4 * j ≤ c) → pw_kp A j c = A c := fun c h1 h2 => by unfold pw_kp; rw [pw_up_ne h1, pw_cpI_o (by omega)]
  have hT : ∀ c, 4 ≤ c → c ≤ 10 → pw_kp A j c = A c := fun c h1 h2 => eo c (by omega) (by omega)
  have e2 : ∀ k, k ≠ 3 → pw_kp A j 11 k = A 11 k := fun k hk => by unfold pw_kp; rw [pw_up_eq, pw_cpI_o (by omega)]; simp [upd, hk]
  have e3 : pw_kp A j 11 3 = nI (pw_g A 11 3 ||| 2 ^ j) := by unfold pw_kp; rw [pw_up_eq]; simp [upd]
  obtain ⟨q1, q2, ⟨⟨a1, a2, a3⟩, a4, a5⟩, q4, q5⟩ := h
  refine ⟨pw_okT_c hT q1, ?_, ⟨⟨by rw [e2 2 (by omega)]; exact a1, by rw [e2 4 (by omega)]; exact a2, fun i hi => ?_⟩, by rw [e3]; exact pw_fine_nI hb (by omega), fun i hi ht => ?_⟩, pw_okW_c hT (fun c h1 h2 => eo c (by omega) (by omega)) (by rw [eo 14 (by omega) (by omega)]) q4, pw_okX_c (eo 3 (by omega) (by omega)) (by rw [eo 2 (by omega) (by omega)]) q5⟩
  · rw [pw_n_c hT, pw_k_c hT]
    exact pw_ev_c (fun c h1 h2 => eo c (by omega) (by omega)) q2
  · rw [pw_n_c hT, pw_k_c hT]
    have er : pw_rg (pw_kp A j) i = pw_rg A i := by unfold pw_rg pw_g; rw [e2 2 (by omega), e2 4 (by omega)]
    have hr : pw_rg A i < 8 := by unfold pw_rg; omega
    rw [er]
    exact pw_ev_c (fun c h1 h2 => eo c (by omega) (by omega)) (a3 i (by unfold pw_g at hi ⊢; rw [e2 2 (by omega)] at hi; exact hi))
  · rw [pw_n_c hT, pw_k_c hT]
    by_cases hij : i = j
    · subst hij
      exact pw_ev_c (fun c h1 h2 => by unfold pw_kp; rw [pw_up_ne (by omega)]) (pw_ev_cp q2)
    · have ht' : (pw_g A 11 3).testBit i = true := by
        unfold pw_g at ht
        rw [e3, pw_c_nI (by omega), Nat.testBit_or, Nat.testBit_two_pow] at ht
        have ht2 : (pw_g A 11 3).testBit i = true ∨ j = i := by simpa using ht
        exact ht2.resolve_right (fun z => hij z.symm)
      exact pw_ev_c (fun c h1 h2 => eo c (by omega) (by omega)) (a5 i hi ht')
theorem pw_ok_bk {A : pw_m} (h : pw_ok A) {j : Nat} (hj : j < 2) (hb : (pw_g A 11 3).testBit j = true) : pw_ok (pw_bk_ A j) := by
  have eo : ∀ c, c ≠ 11 → (c < 42 ∨ 46 ≤ c) → pw_bk_ A j c = A c := fun c h1 h2 => by unfold pw_bk_; rw [pw_up_ne h1, pw_cpI_o (by omega)]
  have hT : ∀ c, 4 ≤ c → c ≤ 10 → pw_bk_ A j c = A c := fun c h1 h2 => eo c (by omega) (by omega)
  have e2 : ∀ k, k ≠ 2 → pw_bk_ A j 11 k = A 11 k := fun k hk => by unfold pw_bk_; rw [pw_up_eq, pw_cpI_o (by omega)]; simp [upd, hk]
  have e3 : pw_bk_ A j 11 2 = nI 0 := by unfold pw_bk_; rw [pw_up_eq]; simp [upd]
  obtain ⟨q1, q2, ⟨⟨a1, a2, a3⟩, a4, a5⟩, q4, q5⟩ := h
  refine ⟨pw_okT_c hT q1, ?_, ⟨⟨by rw [e3]; exact pw_fine_nI (by omega) (by omega), by rw [e2 4 (by omega)]; exact a2, fun i hi => ?_⟩, by rw [e2 3 (by omega)]; exact a4, fun i hi ht => ?_⟩, pw_okW_c hT (fun c h1 h2 => eo c (by omega) (by omega)) (by rw [eo 14 (by omega) (by omega)]) q4, pw_okX_c (eo 3 (by omega) (by omega)) (by rw [eo 2 (by omega) (by omega)]) q5⟩
  · rw [pw_n_c hT, pw_k_c hT]
    exact pw_ev_c (fun c h1 h2 => by unfold pw_bk_; rw [pw_up_ne (by omega)]) (pw_ev_cp (a5 j hj hb))
  · exfalso
    unfold pw_g at hi
    rw [e3, pw_c_nI (by omega)] at hi
    omega
  · rw [pw_n_c hT, pw_k_c hT]
    have ht' : (pw_g A 11 3).testBit i = true := by unfold pw_g at ht ⊢; rw [e2 3 (by omega)] at ht; exact ht
    exact pw_ev_c (fun c h1 h2 => eo c (by omega) (by omega)) (a5 i hi ht')
