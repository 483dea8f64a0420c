/-! every call of the class keeps its memory well, and leaves the model's cells alone -/
def pw_nm (A B : pw_m) : Prop := ∀ c, 26 ≤ c → c ≤ 41 → B c = A c
def pw_IV (m : pw_m) : Prop := pw_ok m ∧ MV m m
theorem pw_okXW {A B : pw_m} (h : ∀ c, (4 ≤ c ∧ c ≤ 11) ∨ (42 ≤ c ∧ c ≤ 85) → B c = A c) (hW : pw_okW B) (hX : pw_okX B) (q : pw_ok A) : pw_ok B := by
  have hT : ∀ c, 4 ≤ c → c ≤ 10 → B c = A c := fun c h1 h2 => h c (by omega)
  obtain ⟨q1, q2, q3, q4, q5⟩ := q
  exact ⟨pw_okT_c hT q1, by rw [pw_n_c hT, pw_k_c hT]; exact pw_ev_c (fun c h3 h4 => h c (by omega)) q2, pw_okU_c hT (fun k _ _ => by rw [h 11 (by omega)]) (fun c h1 h2 => h c (by omega)) q3, hW, hX⟩
theorem ok_write {A : pw_m} {l : Int32} (h : pw_ok A) : pw_ok (G_write A l) := by
  unfold G_write
  split
  · rename_i hc
    obtain ⟨lx, hl, rfl⟩ := pw_inr_t (by omega) hc.1
    refine pw_okXW (fun c hc => by rw [pw_up_ne (by omega), pw_up_ne (by omega)]) ?_ ?_ h
    · exact pw_okW_c (fun c h1 h2 => by rw [pw_up_ne (by omega), pw_up_ne (by omega)]) (fun c h1 h2 => by rw [pw_up_ne (by omega), pw_up_ne (by omega)]) (by rw [pw_up_ne (by omega), pw_up_ne (by omega)]) h.2.2.2.1
    · have e21 : pw_up (pw_up A 3 (pw_g A 2 1) (nI lx)) 2 1 (nI (pw_g A 2 1 + 1)) 2 1 = nI (pw_g A 2 1 + 1) := pw_up_gs
      refine ⟨by rw [e21]; exact pw_fine_nI (by omega) (by omega), fun i hi => ?_⟩
      rw [show pw_g (pw_up (pw_up A 3 (pw_g A 2 1) (nI lx)) 2 1 (nI (pw_g A 2 1 + 1))) 2 1 = pw_g A 2 1 + 1 from by rw [show ∀ C : pw_m, pw_g C 2 1 = pw_c (C 2 1) from fun _ => rfl, e21, pw_c_nI (by have := hc.2; omega)]] at hi
      rw [pw_up_ne (by omega)]
      rw [pw_up_eq]
      unfold upd
      split
      · exact pw_fine_nI hl (by omega)
      · rename_i hne
        have hi2 : i < pw_g A 2 1 := by omega
        exact h.2.2.2.2.2 i hi2
  · exact h
theorem ok_erase {A : pw_m} (h : pw_ok A) : pw_ok (pw_up A 2 1 0) := by
  refine pw_okXW (fun c hc => pw_up_ne (by omega)) ?_ ?_ h
  · exact pw_okW_c (fun c h1 h2 => pw_up_ne (by omega)) (fun c h1 h2 => pw_up_ne (by omega)) (by rw [pw_up_ne (by omega)]) h.2.2.2.1
  · have e21 : pw_up A 2 1 0 2 1 = nI 0 := pw_up_gs
    refine ⟨by rw [e21]; exact pw_fine_nI (by omega) (by omega), fun i hi => ?_⟩
    unfold pw_g at hi
    rw [e21, pw_c_nI (by omega)] at hi
    omega
theorem ok_forget {A : pw_m} (h : pw_ok A) : pw_ok (pw_up A 14 4 0) := by
  refine pw_okXW (fun c hc => pw_up_ne (by omega)) ?_ ?_ h
  · have e : pw_up A 14 4 0 14 4 = nI 0 := pw_up_gs
    refine ⟨by rw [e]; exact pw_fine_nI (by omega) (by omega), fun i hi => ?_⟩
    unfold pw_g at hi
    rw [e, pw_c_nI (by omega)] at hi
    omega
  · exact pw_okX_c (pw_up_ne (by omega)) (by rw [pw_up_ne (by omega)]) h.2.2.2.2
theorem ok_seen {A : pw_m} {k s d t : Int32} (h : pw_ok A) : pw_ok (G_seen A k s d t) := by
  have bn := pw_bn h
  have bk := pw_bk h
  have bd := pw_b420 h
  unfold G_seen
  split
  · rename_i hc
    obtain ⟨⟨c1, c2⟩, ⟨c3, c4⟩, c5⟩ := hc
    obtain ⟨kx, hk, rfl⟩ := pw_inr_t (by omega) c1
    obtain ⟨sx, hs, rfl⟩ := pw_inr_t (by omega) c2
    obtain ⟨dx, hd, rfl⟩ := pw_inr_t (by omega) c3
    obtain ⟨tx, ht, rfl⟩ := pw_inr_t (by omega) c4
    obtain ⟨B, hB⟩ : ∃ B, B = pw_up (pw_up (pw_up (pw_up (pw_up A 15 (pw_g A 14 4) (nI kx)) 16 (pw_g A 14 4) (nI sx)) 17 (pw_g A 14 4) (nI dx)) 18 (pw_g A 14 4) (nI tx)) 14 4 (nI (pw_g A 14 4 + 1)) := ⟨_, rfl⟩
    rw [← hB]
    have ho : ∀ c, c < 14 ∨ 18 < c → B c = A c := fun c hc => by
      rw [hB, pw_up_ne (by omega), pw_up_ne (by omega), pw_up_ne (by omega), pw_up_ne (by omega), pw_up_ne (by omega)]
    have e14 : B 14 4 = nI (pw_g A 14 4 + 1) := by rw [hB]; exact pw_up_gs
    have e15 : B 15 = upd (A 15) (pw_g A 14 4) (nI kx) := by rw [hB, pw_up_ne (by omega), pw_up_ne (by omega), pw_up_ne (by omega), pw_up_ne (by omega), pw_up_eq]
    have e16 : B 16 = upd (A 16) (pw_g A 14 4) (nI sx) := by rw [hB, pw_up_ne (by omega), pw_up_ne (by omega), pw_up_ne (by omega), pw_up_eq, pw_up_ne (by omega)]
    have e17 : B 17 = upd (A 17) (pw_g A 14 4) (nI dx) := by rw [hB, pw_up_ne (by omega), pw_up_ne (by omega), pw_up_eq, pw_up_ne (by omega), pw_up_ne (by omega)]
    have e18 : B 18 = upd (A 18) (pw_g A 14 4) (nI tx) := by rw [hB, pw_up_ne (by omega), pw_up_eq, pw_up_ne (by omega), pw_up_ne (by omega), pw_up_ne (by omega)]
    have hk' : pw_k B = pw_k A := by unfold pw_k; rw [ho 4 (by omega)]
    have hn' : pw_n B = pw_n A := by unfold pw_n; rw [ho 4 (by omega)]
    have hq := h.2.2.2.1.2
    clear hB
    refine pw_okXW (fun c hc => ho c (by omega)) ?_ (pw_okX_c (ho 3 (by omega)) (by rw [ho 2 (by omega)]) h.2.2.2.2) h
    refine ⟨by rw [e14]; exact pw_fine_nI (by omega) (by omega), fun i hi => ?_⟩
    rw [show pw_g B 14 4 = pw_g A 14 4 + 1 from by rw [show pw_g B 14 4 = pw_c (B 14 4) from rfl, e14, pw_c_nI (by omega)]] at hi
    rw [hk', hn', e15, e16, e17, e18]
    unfold upd
    by_cases hj : i = pw_g A 14 4
    · rw [if_pos hj, if_pos hj, if_pos hj, if_pos hj]
      exact ⟨⟨pw_fine_nI hk (by omega), pw_fine_nI hs (by omega)⟩, pw_fine_nI (by omega) (by omega), by
        match tx, ht with
        | 0, _ => exact Or.inl rfl
        | 1, _ => exact Or.inr rfl⟩
    · rw [if_neg hj, if_neg hj, if_neg hj, if_neg hj]
      exact hq i (by omega)
  · exact h
theorem ok_sit {A : pw_m} {k s : Int32} (h : pw_ok A) : pw_ok (G_sit A k s) := by
  have bn := pw_bn h
  have bk := pw_bk h
  unfold G_sit
  split
  · rename_i hc
    obtain ⟨⟨c1, c2⟩, c3, c4, c5⟩ := hc
    obtain ⟨kx, hk, rfl⟩ := pw_inr_t (by omega) c1
    obtain ⟨sx, hs, rfl⟩ := pw_inr_t (by omega) c2
    rw [pw_c_nI (by omega)] at c4 c5 ⊢
    have hT : ∀ c, 4 ≤ c → c ≤ 10 → pw_rem A c = A c := fun c h1 h2 => pw_rem_o (pw_b114 h) (by omega) (by omega)
    exact pw_ok_sit (pw_ok_rem h) (by rw [pw_k_c hT]; exact hk) (by rw [pw_n_c hT]; exact hs) (by unfold pw_pl at c4 ⊢; rw [pw_rem_o (pw_b114 h) (by omega) (by omega)]; exact c4) (by rw [pw_si_rem h]; exact c5)
  · exact h
theorem ok_rise {A : pw_m} (h : pw_ok A) : pw_ok (pw_rsI (pw_rem A) 6) := pw_ok_rise (pw_ok_rem h)
theorem ok_tell {A : pw_m} {k w : Int32} (h : pw_ok A) : pw_ok (G_tell A k w) := by
  have bk := pw_bk h
  unfold G_tell
  split
  · rename_i hc
    obtain ⟨c1, c2, c3⟩ := hc
    obtain ⟨kx, hk, rfl⟩ := pw_inr_t (by omega) c1
    obtain ⟨wx, hw, rfl⟩ := pw_inr_t (by omega) c2
    rw [pw_c_nI (by omega), pw_c_nI (by omega)]
    exact pw_ok_news (pw_ok_rem h) (pw_or16 (pw_b44 (pw_ok_rem h) (by omega)) hw)
  · exact h
theorem ok_feast {A : pw_m} (h : pw_ok A) : pw_ok (G_feast A) := by
  unfold G_feast
  split
  · exact h
  · split
    · rename_i hd
      exact pw_okf6 h hd
    · exact h
theorem ok_undo {A : pw_m} (h : pw_ok A) : pw_ok (G_undo A) := by
  unfold G_undo
  split
  · exact h
  · rename_i h0
    exact pw_ok_rec h (by omega)
theorem ok_keep {A : pw_m} {k : Int32} (h : pw_ok A) : pw_ok (G_keep A k) := by
  unfold G_keep
  split
  · rename_i h0
    obtain ⟨kx, hk, rfl⟩ := pw_inr_t (by omega) h0
    rw [pw_c_nI (by omega)]
    exact pw_ok_kp h hk
  · exact h
theorem ok_back {A : pw_m} {k : Int32} (h : pw_ok A) : pw_ok (G_back A k) := by
  unfold G_back
  split
  · rename_i h0
    obtain ⟨h1, h2⟩ := h0
    obtain ⟨kx, hk, rfl⟩ := pw_inr_t (by omega) h1
    rw [pw_c_nI (by omega)] at h2 ⊢
    exact pw_ok_bk h hk h2
  · exact h
theorem nmm_r {A : pw_m} : pw_nm A A := fun _ _ _ => rfl
theorem nm_t {A B C : pw_m} (h : pw_nm A B) (h2 : pw_nm B C) : pw_nm A C := fun c h3 h4 => (h2 c h3 h4).trans (h c h3 h4)
theorem nm_up {A B : pw_m} {d k : Nat} {v : Int32} (h : pw_nm A B) (hd : d < 26 ∨ 41 < d) : pw_nm A (pw_up B d k v) := fun c h3 h4 => (pw_up_ne (by omega)).trans (h c h3 h4)
theorem nm_rs {A B : pw_m} {i : Nat} (h : pw_nm A B) : pw_nm A (pw_rsI B i) := fun c h3 h4 => by unfold pw_rsI; rw [if_neg (by omega)]; exact h c h3 h4
theorem nm_rem {A : pw_m} (h : pw_ok A) : pw_nm A (pw_rem A) := fun c h3 h4 => pw_rem_o (pw_b114 h) (by omega) (by omega)
theorem nm_write {A : pw_m} {l : Int32} : pw_nm A (G_write A l) := by
  unfold G_write
  split
  · exact nm_up (nm_up nmm_r (by omega)) (by omega)
  · exact nmm_r
theorem nm_seen {A : pw_m} {k s d t : Int32} : pw_nm A (G_seen A k s d t) := by
  unfold G_seen
  split
  · exact nm_up (nm_up (nm_up (nm_up (nm_up nmm_r (by omega)) (by omega)) (by omega)) (by omega)) (by omega)
  · exact nmm_r
theorem nm_sit {A : pw_m} {k s : Int32} (h : pw_ok A) : pw_nm A (G_sit A k s) := by
  unfold G_sit
  split
  · exact nm_up (nm_rem h) (by omega)
  · exact nmm_r
theorem nm_tell {A : pw_m} {k s : Int32} (h : pw_ok A) : pw_nm A (G_tell A k s) := by
  unfold G_tell
  split
  · exact nm_up (nm_rem h) (by omega)
  · exact nmm_r
theorem nm_feast {A : pw_m} (h : pw_ok A) : pw_nm A (G_feast A) := by
  unfold G_feast
  split
  · exact nmm_r
  · split
    · unfold pw_f6
      refine nm_up ?_ (by omega)
      unfold pw_f5
      refine nm_rs ?_
      unfold pw_f4
      refine nm_up ?_ (by omega)
      exact fun c h3 h4 => by
        unfold pw_f3
        rw [pw_snI_o (by omega) (by omega)]
        unfold pw_f2
        rw [pw_crI_o (by omega)]
        exact nm_rem h c h3 h4
    · exact nmm_r
theorem nm_undo {A : pw_m} : pw_nm A (G_undo A) := by
  unfold G_undo
  split
  · exact nmm_r
  · unfold pw_rec
    refine nm_up ?_ (by omega)
    exact fun c h3 h4 => by rw [pw_cpI_o (by omega), pw_up_ne (by omega)]
theorem nm_keep {A : pw_m} {k : Int32} : pw_nm A (G_keep A k) := by
  unfold G_keep
  split
  · unfold pw_kp
    refine nm_up ?_ (by omega)
    exact fun c h3 h4 => by rw [pw_cpI_o (by omega)]
  · exact nmm_r
theorem nm_back {A : pw_m} {k : Int32} : pw_nm A (G_back A k) := by
  unfold G_back
  split
  · unfold pw_bk_
    refine nm_up ?_ (by omega)
    exact fun c h3 h4 => by rw [pw_cpI_o (by omega)]
  · exact nmm_r
theorem nm_table {A : pw_m} (h : pw_ok A) : pw_nm A (G_table A) := by
  unfold G_table
  split
  · unfold G_tab
    refine nm_up (nm_up (nm_up ?_ (by omega)) (by omega)) (by omega)
    exact fun c h3 h4 => by
      rw [G_bg_o (by omega), pw_up_ne (by omega)]
      exact G_oq_o 14 (pw_n A) (pw_k A) 0 A (pw_bn h) (pw_bk h) c (by omega)
  · exact nmm_r
theorem nm_fr {A B : pw_m} (h : pw_fr_ A B) : pw_nm A B := fun c h3 h4 => h c (by omega)
theorem nm_frw {A B : pw_m} (h : pw_frw A B) : pw_nm A B := fun c h3 h4 => h.1 c (by omega) (by omega)
theorem nm_fx {A B C : pw_m} (h : pw_nm A B) (h2 : pw_fx B C) : pw_nm A C := fun c h3 h4 => (h2.1 c (by omega) (by omega)).trans (h c h3 h4)
/-- what the class's side is after its call: the model's cells as before, and its own as G says -/
def pw_CS (A G B : pw_m) : Prop := pw_nm A B ∧ (∀ c, (3 ≤ c ∧ c ≤ 13) ∨ (15 ≤ c ∧ c ≤ 18) ∨ (42 ≤ c ∧ c ≤ 85) → B c = G c) ∧ B 2 1 = G 2 1 ∧ B 14 4 = G 14 4
theorem cs_e {A G : pw_m} (h : pw_nm A G) : pw_CS A G G := ⟨h, fun _ _ => rfl, rfl, rfl⟩
theorem cs_fr {A B : pw_m} (h : pw_fr_ A B) : pw_CS A A B := ⟨nm_fr h, fun c hc => h c (by omega), by rw [h 2 (by omega)], by rw [h 14 (by omega)]⟩
theorem cs_frw {A B : pw_m} (h : pw_frw A B) : pw_CS A A B := ⟨nm_frw h, fun c hc => h.1 c (by omega) (by omega), by rw [h.1 2 (by omega) (by omega)], h.2⟩
theorem cs_fx {A G B : pw_m} (h : pw_nm A G) (h2 : pw_fx G B) : pw_CS A G B := ⟨nm_fx h h2, fun c hc => h2.1 c (by omega) (by omega), h2.2, by rw [h2.1 14 (by omega) (by omega)]⟩
theorem cs_mv {A G B : pw_m} (h : pw_CS A G B) (hv : MV A A) : MV A B := hv.f (fun c h1 h2 => h.1 c (by omega) (by omega)) (fun j _ => by rw [h.1 26 (by omega) (by omega)])
/-- and after the model's -/
theorem iv_2 {A G m1 m2 : pw_m} (hok : pw_ok G) (h : pw_CS A G m1) (hv : MV G m2) (hf : pw_mf_ m1 m2) : pw_IV m2 := by
  have e : ∀ c, (3 ≤ c ∧ c ≤ 13) ∨ (15 ≤ c ∧ c ≤ 18) ∨ (42 ≤ c ∧ c ≤ 85) → m2 c = G c := fun c hc => (hf c (by omega)).trans (h.2.1 c hc)
  have e2 : m2 2 1 = G 2 1 := by rw [hf 2 (by omega)]; exact h.2.2.1
  have e14 : m2 14 4 = G 14 4 := by rw [hf 14 (by omega)]; exact h.2.2.2
  exact ⟨pw_ok_f e e2 e14 hok, hv.g (fun c hc => e c (by omega)) e2 (fun k _ _ => by rw [e 11 (by omega)]) e14⟩
theorem iv_1 {A m1 : pw_m} (hiv : pw_IV A) (h : pw_CS A A m1) : pw_IV m1 := iv_2 hiv.1 h (cs_mv h hiv.2) (fun _ _ => rfl)
