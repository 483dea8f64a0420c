/-! a feast in the model's row -/
section MVF
variable {A A' B B' : pw_m}
theorem MV.e2 (h : MV A B) (he : MVE A' B') (hA : ∀ c, (3 ≤ c ∧ c ≤ 11) ∨ (15 ≤ c ∧ c ≤ 18) ∨ (46 ≤ c ∧ c ≤ 85) → A' c = A c) (h2 : A' 2 1 = A 2 1) (h14 : A' 14 4 = A 14 4) (hB : ∀ c, 27 ≤ c → c ≤ 35 → c ≠ 30 → B' c = B c) (h26 : ∀ j, j ≤ 16 ∨ j = 33 → B' 26 j = B 26 j) : MV A' B' := by
  obtain ⟨a, b, c, d, e, f⟩ := h
  exact ⟨a.c (fun c q1 q2 => hA c (by omega)) (fun j _ => h26 j (by omega)) (fun c _ _ => hB c (by omega) (by omega) (by omega)), he, c.c (fun k _ _ => by rw [hA 11 (by omega)]) (fun c q1 q2 => hA c (by omega)) (h26 9 (by omega)) (fun c q1 q2 => hB c (by omega) (by omega) (by omega)), d.c h14 (fun c q1 q2 => hA c (by omega)) (h26 13 (by omega)) (hB 34 (by omega) (by omega) (by omega)), e.c h2 (hA 3 (by omega)) (h26 16 (by omega)) (hB 35 (by omega) (by omega) (by omega)), by rw [h26 33 (by omega)]; exact f⟩
theorem mv_39 (h : MV A B) {k : Nat} {v : Int32} : MV A (pw_up B 39 k v) := h.f (fun c _ _ => pw_up_ne (by omega)) (fun j _ => by rw [pw_up_ne (by omega)])
/-- what he will know, who gains -/
def pw_nwv (A : pw_m) (k : Nat) : Int32 := nI (pw_g A 44 k ||| pw_hn A k)
def pw_fam (A : pw_m) (k : Nat) : Bool := (pw_pl A k).any (fun s => !pw_qr A k s)
def pw_heM (B A : pw_m) (e : Nat) : pw_m := fun c => if c = 39 then pw_c6 (B 39) (pw_nwv A) e else B c
theorem pw_heM_0 : pw_heM B A 0 = B := by
  funext c
  unfold pw_heM
  by_cases h : c = 39
  · subst h; rw [if_pos rfl, pw_c6_0]
  · rw [if_neg h]
theorem pw_heM_s {e : Nat} : pw_up (pw_heM B A e) 39 e (pw_nwv A e) = pw_heM B A (e + 1) := by
  funext c
  by_cases h : c = 39
  · subst h; rw [pw_up_eq]; unfold pw_heM; rw [if_pos rfl, if_pos rfl]; exact pw_c6_s
  · rw [pw_up_ne h]; unfold pw_heM; rw [if_neg h, if_neg h]
theorem pw_heM_o {e c : Nat} (h : c ≠ 39) : pw_heM B A e c = B c := by unfold pw_heM; rw [if_neg h]
theorem mv_heM (h : MV A B) {e : Nat} : MV A (pw_heM B A' e) := h.f (fun c _ _ => pw_heM_o (by omega)) (fun j _ => by rw [pw_heM_o (by omega)])
def pw_feM (B A : pw_m) (t e : Nat) : pw_m := fun c => if c = 30 then (fun k => if 2 ≤ k ∧ k < 2 + e then pw_crv A t (k - 2) else if 8 ≤ k ∧ k < 8 + e then pw_nwv A (k - 8) else B 30 k) else B c
theorem pw_feM_0 {t : Nat} : pw_feM B A t 0 = B := by
  funext c
  unfold pw_feM
  by_cases h : c = 30
  · subst h; rw [if_pos rfl]; funext k; rw [if_neg (by omega), if_neg (by omega)]
  · rw [if_neg h]
theorem pw_feM_o {t e c : Nat} (h : c ≠ 30) : pw_feM B A t e c = B c := by unfold pw_feM; rw [if_neg h]
theorem pw_feM_n {t e k : Nat} (h : ¬ (2 ≤ k ∧ k < 2 + e)) (h2 : ¬ (8 ≤ k ∧ k < 8 + e)) : pw_feM B A t e 30 k = B 30 k := by unfold pw_feM; rw [if_pos rfl, if_neg h, if_neg h2]
theorem pw_feM_s {t e : Nat} (he : e < 6) : pw_up (pw_up (pw_feM B A t e) 30 (2 + e) (pw_crv A t e)) 30 (8 + e) (pw_nwv A e) = pw_feM B A t (e + 1) := by
  funext c
  by_cases h : c = 30
  · subst h
    rw [pw_up_eq, pw_up_eq]
    unfold pw_feM upd
    rw [if_pos rfl, if_pos rfl]
    funext k
    by_cases q : k = 8 + e
    · subst q; rw [if_pos rfl, if_neg (by omega), if_pos (by omega), show 8 + e - 8 = e by omega]
    · rw [if_neg q]
      by_cases q2 : k = 2 + e
      · subst q2; rw [if_pos rfl, if_pos (by omega), show 2 + e - 2 = e by omega]
      · rw [if_neg q2]
        by_cases q3 : 2 ≤ k ∧ k < 2 + e
        · rw [if_pos q3, if_pos (by omega)]
        · rw [if_neg q3, if_neg (show ¬ (2 ≤ k ∧ k < 2 + (e + 1)) by omega)]
          by_cases q4 : 8 ≤ k ∧ k < 8 + e
          · rw [if_pos q4, if_pos (by omega)]
          · rw [if_neg q4, if_neg (by omega)]
  · rw [pw_up_ne h, pw_up_ne h]; unfold pw_feM; rw [if_neg h, if_neg h]
theorem pw_hn_c (h4 : A' 4 = A 4) (h44 : A' 44 = A 44) (h45 : A' 45 = A 45) (k : Nat) : pw_hn A' k = pw_hn A k := by
  unfold pw_hn pw_si pw_pl pw_n pw_g
  rw [h4, h44, h45]
/-- the whole feast -/
theorem mv_feast (hok : pw_ok A) (hv1 : MV (pw_rem A) B) : MV (pw_f6 A) (pw_up (pw_rsM (pw_up (pw_feM (pw_heM B (pw_rem A) (pw_k (pw_rem A))) (pw_rem A) (pw_wrs (pw_rem A)) (pw_k (pw_rem A))) 30 1 (nI (pw_an (pw_g (pw_rem A) 42 1) (pw_wrs (pw_rem A))))) 6) 30 0 (nI (pw_g A 42 0 + 1))) := by
  have hok1 := pw_ok_rem hok
  have bx := pw_b114 hok
  have bk := pw_bk hok1
  have g5 := pw_gf5 hok
  have e42 : pw_rem A 42 = A 42 := pw_rem_o bx (by omega) (by omega)
  obtain ⟨r0, r1, r2⟩ := hv1.2.1.r
  generalize hR : pw_rem A = R at *
  have f2o : ∀ c, c ≠ 43 → pw_f2 A c = R c := fun c hc => by unfold pw_f2; rw [hR, pw_crI_o hc]
  have f2k : pw_k (pw_f2 A) = pw_k R := by unfold pw_k; rw [f2o 4 (by omega)]
  have f3o : ∀ c, c ≠ 43 → c ≠ 44 → c ≠ 25 → pw_f3 A c = R c := fun c h1 h2 h3 => by unfold pw_f3; rw [pw_snI_o h2 h3, f2o c h1]
  have f3r : ∀ j, pw_f3 A 43 j = if j < pw_k R then pw_crv R (pw_wrs R) j else R 43 j := fun j => by
    unfold pw_f3
    rw [pw_snI_o (by omega) (by omega)]
    unfold pw_f2 pw_crI pw_c6
    rw [hR, if_pos rfl]
  have f3n : ∀ j, pw_f3 A 44 j = if j < pw_k R then pw_nwv R j else R 44 j := fun j => by
    unfold pw_f3 pw_snI pw_c6
    rw [if_pos rfl, f2k]
    by_cases q : j < pw_k R
    · rw [if_pos q, if_pos q]
      unfold pw_nwv
      dsimp only
      rw [pw_hn_c (f2o 4 (by omega)) (f2o 44 (by omega)) (f2o 45 (by omega))]
      unfold pw_g
      rw [f2o 44 (by omega)]
    · rw [if_neg q, if_neg q, f2o 44 (by omega)]
  have f4o : ∀ c, c ≠ 42 → pw_f4 A c = pw_f3 A c := fun c hc => by unfold pw_f4; rw [pw_up_ne hc]
  have f4t : pw_f4 A 42 1 = nI (pw_an (pw_g R 42 1) (pw_wrs R)) := by
    unfold pw_f4
    rw [pw_up_gs, hR]
    unfold pw_g
    rw [f3o 42 (by omega) (by omega) (by omega)]
  have f5o : ∀ c, c ≠ 45 → pw_f5 A c = pw_f4 A c := fun c hc => by unfold pw_f5 pw_rsI; rw [if_neg hc]
  have f5p : ∀ j, j < 6 → pw_f5 A 45 j = -1 := fun j hj => by unfold pw_f5 pw_rsI pw_c6; rw [if_pos rfl, if_pos hj]
  have f6o : ∀ c, c ≠ 42 → pw_f6 A c = pw_f5 A c := fun c hc => by unfold pw_f6; rw [pw_up_ne hc]
  have f60 : pw_f6 A 42 0 = nI (pw_g A 42 0 + 1) := by unfold pw_f6; rw [pw_up_gs, g5]
  have f61 : pw_f6 A 42 1 = nI (pw_an (pw_g R 42 1) (pw_wrs R)) := by
    unfold pw_f6
    rw [pw_up_eq]
    unfold upd
    rw [if_neg (by omega), f5o 42 (by omega), f4t]
  have fo : ∀ c, c < 42 ∨ 45 < c → c ≠ 25 → pw_f6 A c = R c := fun c h1 h2 => by rw [f6o c (by omega), f5o c (by omega), f4o c (by omega), f3o c (by omega) (by omega) h2]
  have bo : ∀ c, c ≠ 30 → c ≠ 39 → pw_up (pw_rsM (pw_up (pw_feM (pw_heM B R (pw_k R)) R (pw_wrs R) (pw_k R)) 30 1 (nI (pw_an (pw_g R 42 1) (pw_wrs R)))) 6) 30 0 (nI (pw_g A 42 0 + 1)) c = B c := fun c h1 h2 => by
    rw [pw_up_ne h1]
    unfold pw_rsM
    rw [if_neg h1, pw_up_ne h1, pw_feM_o h1, pw_heM_o h2]
  have b30 : ∀ k, pw_up (pw_rsM (pw_up (pw_feM (pw_heM B R (pw_k R)) R (pw_wrs R) (pw_k R)) 30 1 (nI (pw_an (pw_g R 42 1) (pw_wrs R)))) 6) 30 0 (nI (pw_g A 42 0 + 1)) 30 k = if k = 0 then nI (pw_g A 42 0 + 1) else if 14 ≤ k ∧ k < 14 + 6 then -1 else if k = 1 then nI (pw_an (pw_g R 42 1) (pw_wrs R)) else if 2 ≤ k ∧ k < 2 + pw_k R then pw_crv R (pw_wrs R) (k - 2) else if 8 ≤ k ∧ k < 8 + pw_k R then pw_nwv R (k - 8) else B 30 k := fun k => by
    rw [pw_up_eq]
    unfold upd pw_rsM
    rw [if_pos rfl, pw_up_eq]
    unfold upd pw_feM
    rw [if_pos rfl, pw_heM_o (by omega)]
  refine hv1.e2 (MVE.mk6 ?_ ?_ (fun j hj => ?_)) (fun c hc => fo c (by omega) (by omega)) (by rw [fo 2 (by omega) (by omega)]) (by rw [fo 14 (by omega) (by omega)]) (fun c h1 h2 h3 => bo c h3 (by omega)) (fun j _ => by rw [bo 26 (by omega) (by omega)])
  · rw [b30, if_pos rfl, f60]
  · rw [b30, if_neg (by omega), if_neg (by omega), if_pos rfl, f61]
  · rw [b30, b30, b30, f6o 43 (by omega), f6o 44 (by omega), f6o 45 (by omega), f5o 43 (by omega), f5o 44 (by omega), f5p j hj, f4o 43 (by omega), f4o 44 (by omega), f3r, f3n]
    refine ⟨?_, ?_, ?_⟩
    · rw [if_neg (by omega), if_neg (by omega), if_neg (by omega)]
      by_cases q : j < pw_k R
      · rw [if_pos (by omega), if_pos q, show 2 + j - 2 = j by omega]
      · rw [if_neg (by omega), if_neg (by omega), if_neg q]; exact (r2 j hj).1
    · rw [if_neg (by omega), if_neg (by omega), if_neg (by omega), if_neg (by omega)]
      by_cases q : j < pw_k R
      · rw [if_pos (by omega), if_pos q, show 8 + j - 8 = j by omega]
      · rw [if_neg (by omega), if_neg q]; exact (r2 j hj).2.1
    · rw [if_neg (by omega), if_pos (by omega)]
end MVF
