/-! the model's cells beside a memory of the class that changes -/
section MVC
variable {A A' B B' : pw_m}
theorem MVT.c (h : MVT A B) (hA : ∀ c, 4 ≤ c → c ≤ 10 → A' c = A c) (h1 : ∀ j, j ≤ 7 → B' 26 j = B 26 j) (h2 : ∀ c, 27 ≤ c → c ≤ 29 → B' c = B c) : MVT A' B' := by
  obtain ⟨⟨a1, a2⟩, ⟨a3, a4, a5⟩, a6, a7⟩ := h
  have e4 := hA 4 (by omega) (by omega)
  refine ⟨⟨by rw [h1 0 (by omega), e4]; exact a1, by rw [h1 2 (by omega), e4]; exact a2⟩, ⟨by rw [h1 5 (by omega), e4]; exact a3, by rw [h1 6 (by omega), e4]; exact a4, by rw [h1 7 (by omega), e4]; exact a5⟩, ?_, ?_⟩
  · rw [h2 27 (by omega) (by omega), hA 5 (by omega) (by omega), hA 6 (by omega) (by omega)]; exact a6
  · rw [h2 28 (by omega) (by omega), h2 29 (by omega) (by omega), hA 7 (by omega) (by omega), hA 8 (by omega) (by omega), hA 9 (by omega) (by omega), hA 10 (by omega) (by omega)]; exact a7
theorem pw_es_c {e k : Nat} (h : ∀ c, e ≤ c → c < e + 4 → B c = A c) : pw_es B e k = pw_es A e k := by
  unfold pw_es
  rw [h e (by omega) (by omega), h (e + 1) (by omega) (by omega), h (e + 2) (by omega) (by omega), h (e + 3) (by omega) (by omega)]
theorem pw_es_cp {d s k : Nat} (hk : k < 20) : pw_es (pw_cpI A d s 6) d k = pw_es A s k := by
  unfold pw_es
  rw [pw_cpI_d, pw_cpI_1, pw_cpI_2, pw_cpI_3]
  unfold pw_c6 upd
  split
  · rfl
  · split
    · rfl
    · split
      · rw [if_pos (by omega)]
      · split
        · rw [if_pos (by omega)]
        · rw [if_pos (by omega)]
theorem MVE.c (h : MVE A B) (hA : ∀ c, 42 ≤ c → c ≤ 45 → A' c = A c) (h2 : B' 30 = B 30) : MVE A' B' := fun k hk => by rw [h2, h k hk, pw_es_c (fun c q1 q2 => hA c q1 (by omega))]
theorem pw_rg_c (hA : ∀ k, 2 ≤ k → k ≤ 4 → A' 11 k = A 11 k) (i : Nat) : pw_rg A' i = pw_rg A i := by
  unfold pw_rg pw_g
  rw [hA 2 (by omega) (by omega), hA 4 (by omega) (by omega)]
theorem pw_rg_lt {i : Nat} : pw_rg A i < 8 := by unfold pw_rg; omega
theorem MVU.c (h : MVU A B) (hA : ∀ k, 2 ≤ k → k ≤ 4 → A' 11 k = A 11 k) (hA2 : ∀ c, 46 ≤ c → c ≤ 85 → A' c = A c) (h1 : B' 26 9 = B 26 9) (h2 : ∀ c, 31 ≤ c → c ≤ 33 → B' c = B c) : MVU A' B' := by
  obtain ⟨a1, a2, a3⟩ := h
  have e2 : pw_g A' 11 2 = pw_g A 11 2 := by unfold pw_g; rw [hA 2 (by omega) (by omega)]
  have e3 : pw_g A' 11 3 = pw_g A 11 3 := by unfold pw_g; rw [hA 3 (by omega) (by omega)]
  refine ⟨by rw [h1, hA 2 (by omega) (by omega)]; exact a1, fun i hi k hk => ?_, fun j hj => ⟨?_, fun ht k hk => ?_⟩⟩
  · rw [e2] at hi
    have := pw_rg_lt (A := A) (i := i)
    rw [h2 31 (by omega) (by omega), pw_rg_c hA, a2 i hi k hk, pw_es_c (fun c q1 q2 => hA2 c (by omega) (by omega))]
  · rw [h2 33 (by omega) (by omega), e3]; exact (a3 j hj).1
  · rw [e3] at ht
    rw [h2 32 (by omega) (by omega), (a3 j hj).2 ht k hk, pw_es_c (fun c q1 q2 => hA2 c (by omega) (by omega))]
theorem MVW.c (h : MVW A B) (hA : A' 14 4 = A 14 4) (hA2 : ∀ c, 15 ≤ c → c ≤ 18 → A' c = A c) (h1 : B' 26 13 = B 26 13) (h2 : B' 34 = B 34) : MVW A' B' := by
  obtain ⟨a1, a2⟩ := h
  have e : pw_g A' 14 4 = pw_g A 14 4 := by unfold pw_g; rw [hA]
  refine ⟨by rw [h1, hA]; exact a1, ?_⟩
  rw [e, h2, hA2 15 (by omega) (by omega), hA2 16 (by omega) (by omega), hA2 17 (by omega) (by omega), hA2 18 (by omega) (by omega)]
  exact a2
theorem MVX.c (h : MVX A B) (hA : A' 2 1 = A 2 1) (hA2 : A' 3 = A 3) (h1 : B' 26 16 = B 26 16) (h2 : B' 35 = B 35) : MVX A' B' := by
  obtain ⟨a1, a2⟩ := h
  have e : pw_g A' 2 1 = pw_g A 2 1 := by unfold pw_g; rw [hA]
  refine ⟨by rw [h1, hA]; exact a1, ?_⟩
  rw [e, h2, hA2]
  exact a2
/-- the class's memory may be another one where MV doesn't look -/
theorem MV.g (h : MV A B) (hA : ∀ c, (3 ≤ c ∧ c ≤ 10) ∨ (15 ≤ c ∧ c ≤ 18) ∨ (42 ≤ c ∧ c ≤ 85) → A' c = A c) (h2 : A' 2 1 = A 2 1) (h11 : ∀ k, 2 ≤ k → k ≤ 4 → A' 11 k = A 11 k) (h14 : A' 14 4 = A 14 4) : MV A' B := by
  obtain ⟨a, b, c, d, e, f⟩ := h
  exact ⟨a.c (fun c q1 q2 => hA c (by omega)) (fun _ _ => rfl) (fun _ _ _ => rfl), b.c (fun c q1 q2 => hA c (by omega)) rfl, c.c h11 (fun c q1 q2 => hA c (by omega)) rfl (fun _ _ _ => rfl), d.c h14 (fun c q1 q2 => hA c (by omega)) rfl rfl, e.c h2 (hA 3 (by omega)) rfl rfl, f⟩
end MVC
section MVD
variable {A B : pw_m}
theorem mv_write (hv : MV A B) (hok : pw_ok A) (l : Int32) (h : pw_g A 2 1 < 160) : MV (pw_up (pw_up A 3 (pw_g A 2 1) l) 2 1 (nI (pw_g A 2 1 + 1))) (pw_up (pw_up B 35 (pw_g A 2 1) l) 26 16 (nI (pw_g A 2 1 + 1))) := by
  obtain ⟨a, b, c, d, e, f⟩ := hv
  refine ⟨a.c (fun c q1 q2 => by rw [pw_up_ne (by omega), pw_up_ne (by omega)]) (fun j hj => by rw [pw_up_eq, pw_up_ne (by omega)]; unfold upd; rw [if_neg (by omega)]) (fun c q1 q2 => by rw [pw_up_ne (by omega), pw_up_ne (by omega)]), b.c (fun c q1 q2 => by rw [pw_up_ne (by omega), pw_up_ne (by omega)]) (by rw [pw_up_ne (by omega), pw_up_ne (by omega)]), c.c (fun k _ _ => by rw [pw_up_ne (by omega), pw_up_ne (by omega)]) (fun c q1 q2 => by rw [pw_up_ne (by omega), pw_up_ne (by omega)]) rfl (fun c q1 q2 => by rw [pw_up_ne (by omega), pw_up_ne (by omega)]), d.c (by rw [pw_up_ne (by omega), pw_up_ne (by omega)]) (fun c q1 q2 => by rw [pw_up_ne (by omega), pw_up_ne (by omega)]) rfl (by rw [pw_up_ne (by omega), pw_up_ne (by omega)]), ⟨rfl, fun i hi => ?_⟩, f⟩
  have eg : pw_g (pw_up (pw_up A 3 (pw_g A 2 1) l) 2 1 (nI (pw_g A 2 1 + 1))) 2 1 = pw_g A 2 1 + 1 := pw_c_nI (by omega)
  rw [eg] at hi
  rw [pw_up_ne (by omega), pw_up_eq, pw_up_ne (by omega), pw_up_eq]
  unfold upd
  by_cases q : i = pw_g A 2 1
  · rw [if_pos q, if_pos q]
  · rw [if_neg q, if_neg q]
    exact e.2 i (by omega)
theorem mv_erase (hv : MV A B) : MV (pw_up A 2 1 0) (pw_up B 26 16 0) := by
  obtain ⟨a, b, c, d, e, f⟩ := hv
  refine ⟨a.c (fun c q1 q2 => by rw [pw_up_ne (by omega)]) (fun j hj => by rw [pw_up_eq]; unfold upd; rw [if_neg (by omega)]) (fun c q1 q2 => by rw [pw_up_ne (by omega)]), b.c (fun c q1 q2 => by rw [pw_up_ne (by omega)]) (by rw [pw_up_ne (by omega)]), c.c (fun k _ _ => by rw [pw_up_ne (by omega)]) (fun c q1 q2 => by rw [pw_up_ne (by omega)]) rfl (fun c q1 q2 => by rw [pw_up_ne (by omega)]), d.c (by rw [pw_up_ne (by omega)]) (fun c q1 q2 => by rw [pw_up_ne (by omega)]) rfl (by rw [pw_up_ne (by omega)]), ⟨rfl, fun i hi => ?_⟩, f⟩
  have eg : pw_g (pw_up A 2 1 0) 2 1 = 0 := by unfold pw_g; rw [pw_up_gs]; rfl
  rw [eg] at hi
  omega
theorem mv_forget (hv : MV A B) : MV (pw_up A 14 4 0) (pw_up B 26 13 0) := by
  obtain ⟨a, b, c, d, e, f⟩ := hv
  refine ⟨a.c (fun c q1 q2 => by rw [pw_up_ne (by omega)]) (fun j hj => by rw [pw_up_eq]; unfold upd; rw [if_neg (by omega)]) (fun c q1 q2 => by rw [pw_up_ne (by omega)]), b.c (fun c q1 q2 => by rw [pw_up_ne (by omega)]) (by rw [pw_up_ne (by omega)]), c.c (fun k _ _ => by rw [pw_up_ne (by omega)]) (fun c q1 q2 => by rw [pw_up_ne (by omega)]) rfl (fun c q1 q2 => by rw [pw_up_ne (by omega)]), ⟨rfl, fun i hi => ?_⟩, e.c (by rw [pw_up_ne (by omega)]) (by rw [pw_up_ne (by omega)]) rfl (by rw [pw_up_ne (by omega)]), f⟩
  have eg : pw_g (pw_up A 14 4 0) 14 4 = 0 := by unfold pw_g; rw [pw_up_gs]; rfl
  rw [eg] at hi
  omega
theorem mv_seen (hv : MV A B) (hok : pw_ok A) (k s d t : Int32) (h : pw_g A 14 4 < 8) : MV (pw_up (pw_up (pw_up (pw_up (pw_up A 15 (pw_g A 14 4) k) 16 (pw_g A 14 4) s) 17 (pw_g A 14 4) d) 18 (pw_g A 14 4) t) 14 4 (nI (pw_g A 14 4 + 1))) (pw_up (pw_up (pw_up (pw_up (pw_up B 34 (4 * pw_g A 14 4) k) 34 (4 * pw_g A 14 4 + 1) s) 34 (4 * pw_g A 14 4 + 2) d) 34 (4 * pw_g A 14 4 + 3) t) 26 13 (nI (pw_g A 14 4 + 1))) := by
  obtain ⟨a, b, c, dd, e, f⟩ := hv
  have oA : ∀ c, c < 14 ∨ 18 < c → (pw_up (pw_up (pw_up (pw_up (pw_up A 15 (pw_g A 14 4) k) 16 (pw_g A 14 4) s) 17 (pw_g A 14 4) d) 18 (pw_g A 14 4) t) 14 4 (nI (pw_g A 14 4 + 1))) c = A c := fun c hc => by rw [pw_up_ne (by omega), pw_up_ne (by omega), pw_up_ne (by omega), pw_up_ne (by omega), pw_up_ne (by omega)]
  have oB : ∀ c, c ≠ 26 → c ≠ 34 → (pw_up (pw_up (pw_up (pw_up (pw_up B 34 (4 * pw_g A 14 4) k) 34 (4 * pw_g A 14 4 + 1) s) 34 (4 * pw_g A 14 4 + 2) d) 34 (4 * pw_g A 14 4 + 3) t) 26 13 (nI (pw_g A 14 4 + 1))) c = B c := fun c h1 h2 => by rw [pw_up_ne h1, pw_up_ne h2, pw_up_ne h2, pw_up_ne h2, pw_up_ne h2]
  have o26 : ∀ j, j ≠ 13 → (pw_up (pw_up (pw_up (pw_up (pw_up B 34 (4 * pw_g A 14 4) k) 34 (4 * pw_g A 14 4 + 1) s) 34 (4 * pw_g A 14 4 + 2) d) 34 (4 * pw_g A 14 4 + 3) t) 26 13 (nI (pw_g A 14 4 + 1))) 26 j = B 26 j := fun j hj => by rw [pw_up_eq]; unfold upd; rw [if_neg hj, pw_up_ne (by omega), pw_up_ne (by omega), pw_up_ne (by omega), pw_up_ne (by omega)]
  refine ⟨a.c (fun c q1 q2 => oA c (by omega)) (fun j hj => o26 j (by omega)) (fun c q1 q2 => oB c (by omega) (by omega)), b.c (fun c q1 q2 => oA c (by omega)) (oB 30 (by omega) (by omega)), c.c (fun k _ _ => by rw [oA 11 (by omega)]) (fun c q1 q2 => oA c (by omega)) (o26 9 (by omega)) (fun c q1 q2 => oB c (by omega) (by omega)), ⟨rfl, fun i hi => ?_⟩, e.c (by rw [oA 2 (by omega)]) (oA 3 (by omega)) (o26 16 (by omega)) (oB 35 (by omega) (by omega)), (o26 33 (by omega)).trans f⟩
  have eg : pw_g (pw_up (pw_up (pw_up (pw_up (pw_up A 15 (pw_g A 14 4) k) 16 (pw_g A 14 4) s) 17 (pw_g A 14 4) d) 18 (pw_g A 14 4) t) 14 4 (nI (pw_g A 14 4 + 1))) 14 4 = pw_g A 14 4 + 1 := by unfold pw_g; rw [pw_up_gs]; exact pw_c_nI (by unfold pw_g at h; omega)
  rw [eg] at hi
  have e34 : ∀ j, (pw_up (pw_up (pw_up (pw_up (pw_up B 34 (4 * pw_g A 14 4) k) 34 (4 * pw_g A 14 4 + 1) s) 34 (4 * pw_g A 14 4 + 2) d) 34 (4 * pw_g A 14 4 + 3) t) 26 13 (nI (pw_g A 14 4 + 1))) 34 j = if j = 4 * pw_g A 14 4 + 3 then t else if j = 4 * pw_g A 14 4 + 2 then d else if j = 4 * pw_g A 14 4 + 1 then s else if j = 4 * pw_g A 14 4 then k else B 34 j := fun j => by rw [pw_up_ne (by omega), pw_up_eq, pw_up_eq, pw_up_eq, pw_up_eq]; rfl
  have e15 : ∀ j, (pw_up (pw_up (pw_up (pw_up (pw_up A 15 (pw_g A 14 4) k) 16 (pw_g A 14 4) s) 17 (pw_g A 14 4) d) 18 (pw_g A 14 4) t) 14 4 (nI (pw_g A 14 4 + 1))) 15 j = if j = pw_g A 14 4 then k else A 15 j := fun j => by rw [pw_up_ne (by omega), pw_up_ne (by omega), pw_up_ne (by omega), pw_up_ne (by omega), pw_up_eq]; rfl
  have e16 : ∀ j, (pw_up (pw_up (pw_up (pw_up (pw_up A 15 (pw_g A 14 4) k) 16 (pw_g A 14 4) s) 17 (pw_g A 14 4) d) 18 (pw_g A 14 4) t) 14 4 (nI (pw_g A 14 4 + 1))) 16 j = if j = pw_g A 14 4 then s else A 16 j := fun j => by rw [pw_up_ne (by omega), pw_up_ne (by omega), pw_up_ne (by omega), pw_up_eq, pw_up_ne (by omega)]; rfl
  have e17 : ∀ j, (pw_up (pw_up (pw_up (pw_up (pw_up A 15 (pw_g A 14 4) k) 16 (pw_g A 14 4) s) 17 (pw_g A 14 4) d) 18 (pw_g A 14 4) t) 14 4 (nI (pw_g A 14 4 + 1))) 17 j = if j = pw_g A 14 4 then d else A 17 j := fun j => by rw [pw_up_ne (by omega), pw_up_ne (by omega), pw_up_eq, pw_up_ne (by omega), pw_up_ne (by omega)]; rfl
  have e18 : ∀ j, (pw_up (pw_up (pw_up (pw_up (pw_up A 15 (pw_g A 14 4) k) 16 (pw_g A 14 4) s) 17 (pw_g A 14 4) d) 18 (pw_g A 14 4) t) 14 4 (nI (pw_g A 14 4 + 1))) 18 j = if j = pw_g A 14 4 then t else A 18 j := fun j => by rw [pw_up_ne (by omega), pw_up_eq, pw_up_ne (by omega), pw_up_ne (by omega), pw_up_ne (by omega)]; rfl
  rw [e34, e34, e34, e34, e15, e16, e17, e18]
  by_cases q : i = pw_g A 14 4
  · subst q
    rw [if_neg (by omega), if_neg (by omega), if_neg (by omega), if_pos rfl, if_pos rfl, if_neg (by omega), if_neg (by omega), if_pos rfl, if_pos rfl, if_neg (by omega), if_pos rfl, if_pos rfl, if_pos rfl, if_pos rfl]
    exact ⟨⟨rfl, rfl⟩, rfl, rfl⟩
  · rw [if_neg (by omega), if_neg (by omega), if_neg (by omega), if_neg (by omega), if_neg q, if_neg (by omega), if_neg (by omega), if_neg (by omega), if_neg (by omega), if_neg q, if_neg (by omega), if_neg (by omega), if_neg (by omega), if_neg (by omega), if_neg q, if_neg (by omega), if_neg (by omega), if_neg (by omega), if_neg (by omega), if_neg q]
    exact dd.2 i (by omega)
end MVD
