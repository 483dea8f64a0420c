/-! memories made of memories: copies of evenings; what stays well -/
def pw_c6 (f g : Nat → Int32) (i : Nat) : Nat → Int32 := fun k => if k < i then g k else f k
def pw_cpI (A : pw_m) (d s i : Nat) : pw_m := fun c => if c = d then upd (upd (A d) 0 (A s 0)) 1 (A s 1) else if c = d + 1 then pw_c6 (A (d + 1)) (A (s + 1)) i else if c = d + 2 then pw_c6 (A (d + 2)) (A (s + 2)) i else if c = d + 3 then pw_c6 (A (d + 3)) (A (s + 3)) i else A c
theorem pw_c6_s {f g : Nat → Int32} {i : Nat} : upd (pw_c6 f g i) i (g i) = pw_c6 f g (i + 1) := by
  funext k
  unfold upd pw_c6
  rcases Nat.lt_trichotomy k i with q | q | q
  · rw [if_neg (by omega), if_pos q, if_pos (by omega)]
  · subst q; rw [if_pos rfl, if_pos (by omega)]
  · rw [if_neg (by omega), if_neg (by omega), if_neg (by omega)]
theorem pw_c6_0 {f g : Nat → Int32} : pw_c6 f g 0 = f := by
  funext k
  simp [pw_c6]
theorem pw_cpI_d {A : pw_m} {d s i : Nat} : pw_cpI A d s i d = upd (upd (A d) 0 (A s 0)) 1 (A s 1) := by simp [pw_cpI]
theorem pw_cpI_1 {A : pw_m} {d s i : Nat} : pw_cpI A d s i (d + 1) = pw_c6 (A (d + 1)) (A (s + 1)) i := by simp [pw_cpI]
theorem pw_cpI_2 {A : pw_m} {d s i : Nat} : pw_cpI A d s i (d + 2) = pw_c6 (A (d + 2)) (A (s + 2)) i := by simp [pw_cpI]
theorem pw_cpI_3 {A : pw_m} {d s i : Nat} : pw_cpI A d s i (d + 3) = pw_c6 (A (d + 3)) (A (s + 3)) i := by simp [pw_cpI]
theorem pw_cpI_o {A : pw_m} {d s i c : Nat} (h : c < d ∨ d + 4 ≤ c) : pw_cpI A d s i c = A c := by
  unfold pw_cpI
  rw [if_neg (by omega), if_neg (by omega), if_neg (by omega), if_neg (by omega)]
theorem pw_cpI_0 {A : pw_m} {d s : Nat} (h : d + 4 ≤ s ∨ s + 4 ≤ d) : pw_up (pw_up A d 0 (A s 0)) d 1 (A s 1) = pw_cpI A d s 0 := by
  funext c
  by_cases h0 : c = d
  · subst h0; rw [pw_up_eq, pw_up_eq, pw_cpI_d]
  · rw [pw_up_ne h0, pw_up_ne h0]
    unfold pw_cpI
    rw [if_neg h0]
    by_cases h1 : c = d + 1
    · subst h1; rw [if_pos rfl, pw_c6_0]
    · rw [if_neg h1]
      by_cases h2 : c = d + 2
      · subst h2; rw [if_pos rfl, pw_c6_0]
      · rw [if_neg h2]
        by_cases h3 : c = d + 3
        · subst h3; rw [if_pos rfl, pw_c6_0]
        · rw [if_neg h3]
theorem pw_cpI_s {A : pw_m} {d s i : Nat} (h : d + 4 ≤ s ∨ s + 4 ≤ d) : pw_up (pw_up (pw_up (pw_cpI A d s i) (d + 1) i ((pw_cpI A d s i) (s + 1) i)) (d + 2) i ((pw_cpI A d s i) (s + 2) i)) (d + 3) i ((pw_cpI A d s i) (s + 3) i) = pw_cpI A d s (i + 1) := by
  rw [pw_cpI_o (c := s + 1) (by omega), pw_cpI_o (c := s + 2) (by omega), pw_cpI_o (c := s + 3) (by omega)]
  funext c
  by_cases h3 : c = d + 3
  · subst h3
    rw [pw_up_eq, pw_up_ne (by omega), pw_up_ne (by omega), pw_cpI_3, pw_cpI_3, pw_c6_s]
  · rw [pw_up_ne h3]
    by_cases h2 : c = d + 2
    · subst h2
      rw [pw_up_eq, pw_up_ne (by omega), pw_cpI_2, pw_cpI_2, pw_c6_s]
    · rw [pw_up_ne h2]
      by_cases h1 : c = d + 1
      · subst h1
        rw [pw_up_eq, pw_cpI_1, pw_cpI_1, pw_c6_s]
      · rw [pw_up_ne h1]
        by_cases h0 : c = d
        · subst h0; rw [pw_cpI_d, pw_cpI_d]
        · rw [pw_cpI_o (by omega), pw_cpI_o (by omega)]
/-! what the words rest on -/
theorem pw_okT_c {A B : pw_m} (h : ∀ c, 4 ≤ c → c ≤ 10 → B c = A c) (q : pw_okT A) : pw_okT B := by
  unfold pw_okT at q ⊢
  rw [h 4 (by omega) (by omega), h 5 (by omega) (by omega), h 6 (by omega) (by omega), h 7 (by omega) (by omega), h 8 (by omega) (by omega), h 9 (by omega) (by omega), h 10 (by omega) (by omega)]
  exact q
theorem pw_n_c {A B : pw_m} (h : ∀ c, 4 ≤ c → c ≤ 10 → B c = A c) : pw_n B = pw_n A := by unfold pw_n; rw [h 4 (by omega) (by omega)]
theorem pw_k_c {A B : pw_m} (h : ∀ c, 4 ≤ c → c ≤ 10 → B c = A c) : pw_k B = pw_k A := by unfold pw_k; rw [h 4 (by omega) (by omega)]
theorem pw_ev_c {A B : pw_m} {e n k : Nat} (h : ∀ c, e ≤ c → c < e + 4 → B c = A c) (q : pw_ev A e n k) : pw_ev B e n k := by
  unfold pw_ev at q ⊢
  rw [h e (by omega) (by omega), h (e + 1) (by omega) (by omega), h (e + 2) (by omega) (by omega), h (e + 3) (by omega) (by omega)]
  exact q
/-- an evening that is another's copy, in what counts -/
theorem pw_ev_y {A B : pw_m} {e d n k : Nat} (h0 : B d 0 = A e 0) (h1 : B d 1 = A e 1) (h2 : ∀ j, j < 6 → B (d + 1) j = A (e + 1) j ∧ B (d + 2) j = A (e + 2) j ∧ B (d + 3) j = A (e + 3) j) (q : pw_ev A e n k) : pw_ev B d n k := by
  obtain ⟨⟨a, b⟩, c, f, g, i, j⟩ := q
  refine ⟨⟨by rw [h0]; exact a, by rw [h1]; exact b⟩, fun z hz => by rw [(h2 z hz).1]; exact c z hz, fun z hz => by rw [(h2 z hz).2.1]; exact f z hz, fun z hz => by rw [(h2 z hz).2.2]; exact g z hz, fun z hz hk => by rw [(h2 z hz).2.2]; exact i z hz hk, fun y z s hy hz e1 e2 => ?_⟩
  rw [(h2 y hy).2.2] at e1
  rw [(h2 z hz).2.2] at e2
  exact j y z s hy hz e1 e2
theorem pw_ev_cp {A : pw_m} {d s n k : Nat} (q : pw_ev A s n k) : pw_ev (pw_cpI A d s 6) d n k := by
  refine pw_ev_y ?_ ?_ (fun j hj => ?_) q
  · rw [pw_cpI_d]; simp [upd]
  · rw [pw_cpI_d]; simp [upd]
  · rw [pw_cpI_1, pw_cpI_2, pw_cpI_3]; simp [pw_c6, hj]
theorem pw_okW_c {A B : pw_m} (h : ∀ c, 4 ≤ c → c ≤ 10 → B c = A c) (h2 : ∀ c, 15 ≤ c → c ≤ 18 → B c = A c) (h3 : B 14 4 = A 14 4) (q : pw_okW A) : pw_okW B := by
  unfold pw_okW pw_g at q ⊢
  rw [pw_n_c h, pw_k_c h, h3, h2 15 (by omega) (by omega), h2 16 (by omega) (by omega), h2 17 (by omega) (by omega), h2 18 (by omega) (by omega)]
  exact q
theorem pw_okX_c {A B : pw_m} (h : B 3 = A 3) (h2 : B 2 1 = A 2 1) (q : pw_okX A) : pw_okX B := by
  unfold pw_okX pw_g at q ⊢
  rw [h, h2]
  exact q
theorem pw_okU_c {A B : pw_m} (h : ∀ c, 4 ≤ c → c ≤ 10 → B c = A c) (h2 : ∀ k, 2 ≤ k → k ≤ 4 → B 11 k = A 11 k) (h3 : ∀ c, 46 ≤ c → c ≤ 85 → B c = A c) (q : pw_okU A) : pw_okU B := by
  obtain ⟨⟨a1, a2, a3⟩, a4, a5⟩ := q
  have e2 := h2 2 (by omega) (by omega)
  have e3 := h2 3 (by omega) (by omega)
  have e4 := h2 4 (by omega) (by omega)
  have er : ∀ i, pw_rg B i = pw_rg A i := fun i => by unfold pw_rg pw_g; rw [e2, e4]
  refine ⟨⟨by rw [e2]; exact a1, by rw [e4]; exact a2, fun i hi => ?_⟩, by rw [e3]; exact a4, fun i hi ht => ?_⟩
  · have hi' : i < pw_g A 11 2 := by unfold pw_g at hi ⊢; rw [← e2]; exact hi
    rw [er, pw_n_c h, pw_k_c h]
    refine pw_ev_c (fun c h1 h4 => h3 c ?_ ?_) (a3 i hi')
    · unfold pw_rg at h1; omega
    · unfold pw_rg at h4; omega
  · have ht' : (pw_g A 11 3).testBit i = true := by unfold pw_g at ht ⊢; rw [← e3]; exact ht
    rw [pw_n_c h, pw_k_c h]
    exact pw_ev_c (fun c h1 h4 => h3 c (by omega) (by omega)) (a5 i hi ht')
/-! remember, recall, keep, back -/
def pw_nx (a : Nat) : Nat := if a + 1 < 8 then a + 1 else 0
def pw_px (a : Nat) : Nat := if 0 < a then a - 1 else 7
def pw_rem (A : pw_m) : pw_m := pw_up (pw_up (pw_cpI A (46 + 4 * pw_g A 11 4) 42 6) 11 4 (nI (pw_nx (pw_g A 11 4)))) 11 2 (nI (min 8 (pw_g A 11 2 + 1)))
def pw_rec (A : pw_m) : pw_m := pw_up (pw_cpI (pw_up A 11 4 (nI (pw_px (pw_g A 11 4)))) 42 (46 + 4 * pw_px (pw_g A 11 4)) 6) 11 2 (nI (pw_g A 11 2 - 1))
theorem pw_rem_o {A : pw_m} {c : Nat} (hx : pw_g A 11 4 < 8) (h : c < 46 ∨ 78 ≤ c) (h2 : c ≠ 11) : pw_rem A c = A c := by
  unfold pw_rem
  rw [pw_up_ne h2, pw_up_ne h2, pw_cpI_o (by omega)]
theorem pw_rem_2 {A : pw_m} : pw_rem A 11 2 = nI (min 8 (pw_g A 11 2 + 1)) := by unfold pw_rem; rw [pw_up_eq]; simp [upd]
theorem pw_rem_4 {A : pw_m} : pw_rem A 11 4 = nI (pw_nx (pw_g A 11 4)) := by unfold pw_rem; rw [pw_up_eq, pw_up_eq]; simp [upd]
theorem pw_rem_3 {A : pw_m} (hx : pw_g A 11 4 < 8) : pw_rem A 11 3 = A 11 3 := by unfold pw_rem; rw [pw_up_eq, pw_up_eq, pw_cpI_o (by omega)]; simp [upd]
theorem pw_rem_e {A : pw_m} {c : Nat} (h2 : c ≠ 11) : pw_rem A c = pw_cpI A (46 + 4 * pw_g A 11 4) 42 6 c := by
  unfold pw_rem
  rw [pw_up_ne h2, pw_up_ne h2]
theorem pw_ok_rem {A : pw_m} (h : pw_ok A) : pw_ok (pw_rem A) := by
  have hx := pw_b114 h
  have hu := pw_b112 h
  have hT : ∀ c, 4 ≤ c → c ≤ 10 → pw_rem A c = A c := fun c h1 h2 => pw_rem_o hx (by omega) (by omega)
  obtain ⟨q1, q2, ⟨⟨a1, a2, a3⟩, a4, a5⟩, q4, q5⟩ := h
  have g2 : pw_g (pw_rem A) 11 2 = min 8 (pw_g A 11 2 + 1) := by unfold pw_g; rw [pw_rem_2]; exact pw_c_nI (by omega)
  have g4 : pw_g (pw_rem A) 11 4 = pw_nx (pw_g A 11 4) := by unfold pw_g; rw [pw_rem_4]; exact pw_c_nI (by unfold pw_nx; split <;> omega)
  have hn : pw_nx (pw_g A 11 4) < 8 := by unfold pw_nx; split <;> omega
  refine ⟨pw_okT_c hT q1, ?_, ⟨⟨?_, ?_, fun i hi => ?_⟩, ?_, fun i hi ht => ?_⟩, pw_okW_c hT (fun c h1 h2 => pw_rem_o hx (by omega) (by omega)) (by rw [pw_rem_o hx (by omega) (by omega)]) q4, pw_okX_c (pw_rem_o hx (by omega) (by omega)) (by rw [pw_rem_o hx (by omega) (by omega)]) q5⟩
  · rw [pw_n_c hT, pw_k_c hT]
    exact pw_ev_c (fun c h1 h2 => pw_rem_o hx (by omega) (by omega)) q2
  · rw [pw_rem_2]; exact pw_fine_nI (by omega) (by omega)
  · rw [pw_rem_4]; exact pw_fine_nI hn (by omega)
  · rw [pw_n_c hT, pw_k_c hT]
    rw [g2] at hi
    have hr : pw_rg (pw_rem A) i = (pw_nx (pw_g A 11 4) + 8 - min 8 (pw_g A 11 2 + 1) + i) % 8 := by unfold pw_rg; rw [g2, g4]
    rw [hr]
    by_cases hl : i = min 8 (pw_g A 11 2 + 1) - 1
    · have e : (pw_nx (pw_g A 11 4) + 8 - min 8 (pw_g A 11 2 + 1) + i) % 8 = pw_g A 11 4 := by unfold pw_nx; split <;> omega
      rw [e]
      exact pw_ev_c (fun c h1 h2 => pw_rem_e (by omega)) (pw_ev_cp q2)
    · have e : ∃ i', i' < pw_g A 11 2 ∧ (pw_nx (pw_g A 11 4) + 8 - min 8 (pw_g A 11 2 + 1) + i) % 8 = pw_rg A i' ∧ pw_rg A i' ≠ pw_g A 11 4 := by
        unfold pw_rg pw_nx
        by_cases h8 : pw_g A 11 2 = 8
        · refine ⟨i + 1, by omega, ?_, ?_⟩
          · split <;> omega
          · omega
        · refine ⟨i, by omega, ?_, ?_⟩
          · split <;> omega
          · omega
      obtain ⟨i', h1, h2, h3⟩ := e
      rw [h2]
      refine pw_ev_c (fun c h4 h5 => ?_) (a3 i' h1)
      rw [pw_rem_e (by omega), pw_cpI_o (by omega)]
  · rw [pw_rem_3 hx]; exact a4
  · rw [pw_n_c hT, pw_k_c hT]
    have ht' : (pw_g A 11 3).testBit i = true := by unfold pw_g at ht ⊢; rw [pw_rem_3 hx] at ht; exact ht
    exact pw_ev_c (fun c h1 h2 => pw_rem_o hx (by omega) (by omega)) (a5 i hi ht')
