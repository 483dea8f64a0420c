/-! the first memory -/
theorem pw_f0 {N : Nat} (h : 0 < N) (hN : N < 2 ^ 31) : pw_fine 0 N := pw_fine_nI (a := 0) h hN
theorem pw_okT0 : pw_okT pw_mA := by
  refine ⟨⟨pw_f0 (by omega) (by omega), pw_f0 (by omega) (by omega)⟩, fun j _ => ⟨pw_f0 (by omega) (by omega), pw_f0 (by omega) (by omega)⟩, fun j _ => ⟨⟨pw_f0 (by omega) (by omega), pw_f0 (by omega) (by omega)⟩, pw_f0 (by omega) (by omega), pw_f0 (by omega) (by omega)⟩, pw_f0 (by omega) (by omega), pw_f0 (by omega) (by omega), ?_⟩
  exact ⟨by decide, fun a ha => by revert ha; decide +revert⟩
theorem pw_bg0 : G_bg pw_mA 0 = pw_mA := by
  funext c
  by_cases h : c < 42 ∨ 46 ≤ c
  · exact G_bg_o h
  · obtain h | h | h | h : c = 42 ∨ c = 43 ∨ c = 44 ∨ c = 45 := by omega
    · subst h
      funext k
      simp [G_bg, pw_rsI, pw_bgI, pw_up, upd, pw_c6, pw_mA, nI]
    · subst h
      funext k
      simp [G_bg, pw_rsI, pw_bgI, pw_up, upd, pw_c6, pw_mA, nI]
    · subst h
      funext k
      simp [G_bg, pw_rsI, pw_bgI, pw_up, upd, pw_c6, pw_mA, nI]
    · subst h
      funext k
      simp [G_bg, pw_rsI, pw_bgI, pw_up, upd, pw_c6, pw_mA, nI]
theorem pw_k0_ : pw_k pw_mA = 0 := by decide
theorem pw_A0 : pw_up (pw_up (pw_up (G_bg (pw_up pw_mA 2 1 (nI 0)) (pw_k pw_mA)) 11 2 (nI 0)) 11 3 (nI 0)) 14 4 (nI 0) = pw_mA := by
  rw [pw_k0_, pw_up_id (m := pw_mA) (c := 2) (k := 1) (v := nI 0) rfl, pw_bg0, pw_up_id (m := pw_mA) (c := 11) (k := 2) (v := nI 0) rfl, pw_up_id (m := pw_mA) (c := 11) (k := 3) (v := nI 0) rfl, pw_up_id (m := pw_mA) (c := 14) (k := 4) (v := nI 0) rfl]
theorem pw_IV0 : pw_IV (pw_beM pw_mA 0) := by
  have hok : pw_ok pw_mA := by
    have h := pw_ok_tb pw_okT0 (pw_f0 (by omega) (by omega))
    rw [pw_A0] at h
    exact h
  have hv : MV pw_mA (pw_beM pw_mA 0) := by
    have h := mv_begin (X := pw_mA) (m := pw_mA) pw_okT0 ⟨⟨rfl, rfl⟩, ⟨rfl, rfl, rfl⟩, fun s _ => ⟨rfl, rfl⟩, fun i _ => ⟨⟨rfl, rfl, rfl⟩, rfl⟩⟩ rfl rfl
    rw [pw_A0, pw_k0_] at h
    exact h
  exact iv_2 (A := pw_mA) hok (cs_e nmm_r) hv (fun c hc => pw_beM_o (by omega) (by omega) (by omega))
