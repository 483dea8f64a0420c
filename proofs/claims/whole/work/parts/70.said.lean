/-! what the model's text says aside, beside a memory of the class -/
def SD (X m : pw_m) : Prop := (m 26 23 = X 4 0 ∧ m 26 25 = X 4 1) ∧ (m 26 28 = X 4 8 ∧ m 26 29 = X 4 9 ∧ m 26 30 = X 4 10) ∧ (∀ s, s < 8 → m 36 (2 * s) = X 5 s ∧ m 36 (2 * s + 1) = X 6 s) ∧ ∀ i, i < 6 → (m 37 (3 * i) = X 7 i ∧ m 37 (3 * i + 1) = X 8 i ∧ m 37 (3 * i + 2) = X 9 i) ∧ m 38 i = X 10 i
theorem SD.f {X m m' : pw_m} (h : SD X m) (h1 : ∀ c, 36 ≤ c → c ≤ 38 → m' c = m c) (h2 : ∀ j, j = 23 ∨ j = 25 ∨ j = 28 ∨ j = 29 ∨ j = 30 → m' 26 j = m 26 j) : SD X m' := by
  obtain ⟨⟨a1, a2⟩, ⟨a3, a4, a5⟩, a6, a7⟩ := h
  exact ⟨⟨by rw [h2 23 (by omega)]; exact a1, by rw [h2 25 (by omega)]; exact a2⟩, ⟨by rw [h2 28 (by omega)]; exact a3, by rw [h2 29 (by omega)]; exact a4, by rw [h2 30 (by omega)]; exact a5⟩, by rw [h1 36 (by omega) (by omega)]; exact a6, by rw [h1 37 (by omega) (by omega), h1 38 (by omega) (by omega)]; exact a7⟩
theorem SD.t {A X m : pw_m} {e : Nat} (h : SD X m) : SD X (pw_tok A m e) := h.f (fun c _ _ => pw_tok_o (by omega)) (fun j _ => pw_tok_6 (by omega))
theorem SD.w {X m : pw_m} {v : Int32} (h : SD X m) : SD X (pw_up m 26 21 v) := h.f (fun c _ _ => pw_up_ne (by omega)) (fun j _ => by rw [pw_up_eq]; unfold upd; rw [if_neg (by omega)])
/-- a name -/
theorem SD.ns {X m : pw_m} {a : Nat} {q v : Int32} (h : SD X m) (ha : a < 8) : SD (G_ns X a q v) (pw_up (pw_up m 36 (2 * a) q) 36 (2 * a + 1) v) := by
  obtain ⟨a1, a2, a6, a7⟩ := h
  have e4 : G_ns X a q v 4 = X 4 := G_ns_o (by omega) (by omega)
  refine ⟨by rw [e4]; exact a1, by rw [e4]; exact a2, fun s hs => ?_, fun i hi => ?_⟩
  · unfold G_ns
    rw [pw_up_eq, pw_up_eq, pw_up_ne (by omega), pw_up_eq, pw_up_eq, pw_up_ne (by omega)]
    unfold upd
    by_cases q1 : s = a
    · subst q1
      rw [if_neg (by omega), if_pos rfl, if_pos rfl, if_pos rfl, if_pos rfl]
      exact ⟨rfl, rfl⟩
    · rw [if_neg (by omega), if_neg (by omega), if_neg q1, if_neg (by omega), if_neg (by omega), if_neg q1]
      exact a6 s hs
  · rw [G_ns_o (by omega) (by omega), G_ns_o (by omega) (by omega), G_ns_o (by omega) (by omega), G_ns_o (by omega) (by omega), pw_up_ne (by omega), pw_up_ne (by omega), pw_up_ne (by omega), pw_up_ne (by omega)]
    exact a7 i hi
/-- a knight more -/
theorem SD.ak {X m : pw_m} {k : Nat} {q v u : Int32} (h : SD X m) (hk : k < 6) : SD (G_ak X k q v u) (pw_up (pw_up (pw_up (pw_up m 37 (3 * k) q) 37 (3 * k + 1) v) 37 (3 * k + 2) u) 26 25 (nI (k + 1))) := by
  obtain ⟨a1, a2, a6, a7⟩ := h
  have x4 : ∀ j, G_ak X k q v u 4 j = if j = 1 then nI (k + 1) else X 4 j := fun j => by unfold G_ak; rw [pw_up_eq, pw_up_ne (by omega), pw_up_ne (by omega), pw_up_ne (by omega)]; rfl
  have m26 : ∀ j, (pw_up (pw_up (pw_up (pw_up m 37 (3 * k) q) 37 (3 * k + 1) v) 37 (3 * k + 2) u) 26 25 (nI (k + 1))) 26 j = if j = 25 then nI (k + 1) else m 26 j := fun j => by rw [pw_up_eq, pw_up_ne (by omega), pw_up_ne (by omega), pw_up_ne (by omega)]; rfl
  refine ⟨⟨by rw [m26, x4, if_neg (by omega), if_neg (by omega)]; exact a1.1, by rw [m26, x4, if_pos rfl, if_pos rfl]⟩, ⟨by rw [m26, x4, if_neg (by omega), if_neg (by omega)]; exact a2.1, by rw [m26, x4, if_neg (by omega), if_neg (by omega)]; exact a2.2.1, by rw [m26, x4, if_neg (by omega), if_neg (by omega)]; exact a2.2.2⟩, fun s hs => ?_, fun i hi => ?_⟩
  · rw [G_ak_o (by omega) (by omega) (by omega) (by omega), G_ak_o (by omega) (by omega) (by omega) (by omega), pw_up_ne (by omega), pw_up_ne (by omega), pw_up_ne (by omega), pw_up_ne (by omega)]
    exact a6 s hs
  · rw [G_ak_o (c := 10) (by omega) (by omega) (by omega) (by omega), pw_up_ne (by omega), pw_up_ne (c' := 38) (by omega), pw_up_ne (c' := 38) (by omega), pw_up_ne (c' := 38) (by omega), pw_up_ne (c' := 38) (by omega), pw_up_eq, pw_up_eq, pw_up_eq]
    unfold G_ak
    rw [pw_up_ne (c' := 7) (by omega), pw_up_ne (c' := 7) (by omega), pw_up_ne (c' := 7) (by omega), pw_up_eq, pw_up_ne (c' := 8) (by omega), pw_up_ne (c' := 8) (by omega), pw_up_eq, pw_up_ne (c' := 8) (by omega), pw_up_ne (c' := 9) (by omega), pw_up_eq, pw_up_ne (c' := 9) (by omega), pw_up_ne (c' := 9) (by omega)]
    unfold upd
    by_cases q1 : i = k
    · subst q1
      rw [if_neg (by omega), if_neg (by omega), if_pos rfl, if_pos rfl, if_neg (by omega), if_pos rfl, if_pos rfl, if_pos rfl, if_pos rfl]
      exact ⟨⟨rfl, rfl, rfl⟩, (a7 i hi).2⟩
    · rw [if_neg (by omega), if_neg (by omega), if_neg (by omega), if_neg q1, if_neg (by omega), if_neg (by omega), if_neg (by omega), if_neg q1, if_neg (by omega), if_neg (by omega), if_neg (by omega), if_neg q1]
      exact a7 i hi
theorem SD.me1 {X m : pw_m} {a b : Nat} (h : SD X m) (ha : a < 6) : SD (G_me1 X a b) (pw_up m 38 a (m 38 a ||| nI (2 ^ b))) := by
  obtain ⟨a1, a2, a6, a7⟩ := h
  have o : ∀ c, c ≠ 10 → G_me1 X a b c = X c := fun c hc => by unfold G_me1; rw [pw_up_ne hc]
  refine ⟨by rw [o 4 (by omega)]; exact a1, by rw [o 4 (by omega)]; exact a2, by rw [o 5 (by omega), o 6 (by omega), pw_up_ne (by omega)]; exact a6, fun i hi => ⟨by rw [o 7 (by omega), o 8 (by omega), o 9 (by omega), pw_up_ne (by omega)]; exact (a7 i hi).1, ?_⟩⟩
  unfold G_me1
  rw [pw_up_eq, pw_up_eq]
  unfold upd
  by_cases q : i = a
  · rw [if_pos q, if_pos q, (a7 a ha).2]
  · rw [if_neg q, if_neg q]; exact (a7 i hi).2
theorem SD.p4 {X m : pw_m} {u v : Int32} (h : SD X m) : SD (pw_up (pw_up X 4 8 u) 4 9 v) (pw_up (pw_up m 26 28 u) 26 29 v) := by
  obtain ⟨a1, a2, a6, a7⟩ := h
  exact ⟨a1, ⟨rfl, rfl, a2.2.2⟩, a6, a7⟩
theorem SD.mt {X m : pw_m} {u : Int32} (h : SD X m) : SD (pw_up X 4 10 u) (pw_up m 26 30 u) := by
  obtain ⟨a1, a2, a6, a7⟩ := h
  exact ⟨a1, ⟨a2.1, a2.2.1, rfl⟩, a6, a7⟩
theorem SD.z {X m : pw_m} (h : SD X m) : SD (pw_zI X 10 6) (pw_zI m 38 6) := by
  obtain ⟨a1, a2, a6, a7⟩ := h
  have o : ∀ c, c ≠ 10 → pw_zI X 10 6 c = X c := fun c hc => pw_zI_o hc 6
  have p : ∀ c, c ≠ 38 → pw_zI m 38 6 c = m c := fun c hc => pw_zI_o hc 6
  refine ⟨by rw [o 4 (by omega), p 26 (by omega)]; exact a1, by rw [o 4 (by omega), p 26 (by omega)]; exact a2, by rw [o 5 (by omega), o 6 (by omega), p 36 (by omega)]; exact a6, fun i hi => ⟨by rw [o 7 (by omega), o 8 (by omega), o 9 (by omega), p 37 (by omega)]; exact (a7 i hi).1, ?_⟩⟩
  rw [pw_zI_i, pw_zI_i, if_pos hi, if_pos hi]
def pw_layM (m : pw_m) (v : Int32) : pw_m := pw_up (pw_up (pw_up (pw_zI (pw_zI (pw_up (pw_up m 26 23 v) 26 25 (nI 0)) 36 16) 38 6) 26 28 (nI 0)) 26 29 (nI 0)) 26 30 (-1)
theorem SD.lay {X m : pw_m} {v : Int32} (h : SD X m) : SD (G_lay X v) (pw_layM m v) := by
  obtain ⟨a1, a2, a6, a7⟩ := h
  have x4 : ∀ j, G_lay X v 4 j = if j = 10 then -1 else if j = 9 then nI 0 else if j = 8 then nI 0 else if j = 1 then nI 0 else if j = 0 then v else X 4 j := fun j => by
    unfold G_lay
    rw [pw_up_eq, pw_up_eq, pw_up_eq, pw_zI_o (by omega), pw_zJ_o (by omega) (by omega), pw_up_eq, pw_up_eq]
    rfl
  have m26 : ∀ j, pw_layM m v 26 j = if j = 30 then -1 else if j = 29 then nI 0 else if j = 28 then nI 0 else if j = 25 then nI 0 else if j = 23 then v else m 26 j := fun j => by
    unfold pw_layM
    rw [pw_up_eq, pw_up_eq, pw_up_eq, pw_zI_o (by omega), pw_zI_o (by omega), pw_up_eq, pw_up_eq]
    rfl
  refine ⟨⟨by rw [m26, x4]; rfl, by rw [m26, x4]; rfl⟩, ⟨by rw [m26, x4]; rfl, by rw [m26, x4]; rfl, by rw [m26, x4]; rfl⟩, fun s hs => ?_, fun i hi => ⟨?_, ?_⟩⟩
  · have m36 : ∀ j, j < 16 → pw_layM m v 36 j = nI 0 := fun j hj => by
      unfold pw_layM
      rw [pw_up_ne (by omega), pw_up_ne (by omega), pw_up_ne (by omega), pw_zI_o (by omega), pw_zI_i, if_pos hj]
    have x5 : ∀ c, c = 5 ∨ c = 6 → G_lay X v c s = nI 0 := fun c hc => by
      unfold G_lay
      rw [pw_up_ne (by omega), pw_up_ne (by omega), pw_up_ne (by omega), pw_zI_o (by omega), pw_zJ_i hc, if_pos hs]
    rw [m36 _ (by omega), m36 _ (by omega), x5 5 (by omega), x5 6 (by omega)]
    exact ⟨rfl, rfl⟩
  · rw [G_lay_o (by omega) (by omega) (by omega) (by omega), G_lay_o (by omega) (by omega) (by omega) (by omega), G_lay_o (by omega) (by omega) (by omega) (by omega)]
    have m37 : pw_layM m v 37 = m 37 := by
      unfold pw_layM
      rw [pw_up_ne (by omega), pw_up_ne (by omega), pw_up_ne (by omega), pw_zI_o (by omega), pw_zI_o (by omega), pw_up_ne (by omega), pw_up_ne (by omega)]
    rw [m37]
    exact (a7 i hi).1
  · have m38 : pw_layM m v 38 i = nI 0 := by
      unfold pw_layM
      rw [pw_up_ne (by omega), pw_up_ne (by omega), pw_up_ne (by omega), pw_zI_i, if_pos hi]
    have x10 : G_lay X v 10 i = nI 0 := by
      unfold G_lay
      rw [pw_up_ne (by omega), pw_up_ne (by omega), pw_up_ne (by omega), pw_zI_i, if_pos hi]
    rw [m38, x10]
/-- frame of a reading -/
def pw_rfm (m m' : pw_m) : Prop := (∀ c, c ≠ 26 → (c < 36 ∨ 38 < c) → m' c = m c) ∧ ∀ j, j < 17 ∨ j = 22 ∨ 30 < j → m' 26 j = m 26 j
theorem pw_rfm_r {m : pw_m} : pw_rfm m m := ⟨fun _ _ _ => rfl, fun _ _ => rfl⟩
theorem pw_rfm_t {m m' m'' : pw_m} (h : pw_rfm m m') (h2 : pw_rfm m' m'') : pw_rfm m m'' := ⟨fun c q1 q2 => (h2.1 c q1 q2).trans (h.1 c q1 q2), fun j q => (h2.2 j q).trans (h.2 j q)⟩
theorem pw_rfm_k {A m m' : pw_m} {e : Nat} (h : pw_rfm m m') : pw_rfm m (pw_tok A m' e) := ⟨fun c q1 q2 => (pw_tok_o q1).trans (h.1 c q1 q2), fun j q => (pw_tok_6 (by omega)).trans (h.2 j q)⟩
theorem pw_rfm_6 {m m' : pw_m} {k : Nat} {v : Int32} (h : pw_rfm m m') (hk : 17 ≤ k ∧ k ≤ 30 ∧ k ≠ 22) : pw_rfm m (pw_up m' 26 k v) := ⟨fun c q1 q2 => (pw_up_ne q1).trans (h.1 c q1 q2), fun j q => by rw [pw_up_eq]; unfold upd; rw [if_neg (by omega)]; exact h.2 j q⟩
theorem pw_rfm_c {m m' : pw_m} {c k : Nat} {v : Int32} (h : pw_rfm m m') (hc : 36 ≤ c ∧ c ≤ 38) : pw_rfm m (pw_up m' c k v) := ⟨fun d q1 q2 => (pw_up_ne (by omega)).trans (h.1 d q1 q2), fun j q => by rw [pw_up_ne (by omega)]; exact h.2 j q⟩
theorem pw_rfm_z {m m' : pw_m} {c i : Nat} (h : pw_rfm m m') (hc : 36 ≤ c ∧ c ≤ 38) : pw_rfm m (pw_zI m' c i) := ⟨fun d q1 q2 => (pw_zI_o (by omega) i).trans (h.1 d q1 q2), fun j q => by rw [pw_zI_o (by omega)]; exact h.2 j q⟩
theorem pw_rfm_lay {m m' : pw_m} {v : Int32} (h : pw_rfm m m') : pw_rfm m (pw_layM m' v) := pw_rfm_6 (pw_rfm_6 (pw_rfm_6 (pw_rfm_z (pw_rfm_z (pw_rfm_6 (pw_rfm_6 h (by decide)) (by decide)) (by decide)) (by decide)) (by decide)) (by decide)) (by decide)
/-- what is left of a clause behind its word: it, and from where the token that stands then is read -/
def pw_rest (A : pw_m) (s k w e : Nat) : Option (Nat × Nat × Nat) × Nat :=
  if pw_nb w < 1 then (some (w, 0, 0), e)
  else if pw_rgb (pw_le_ w) (pw_mf s k w) (pw_tN A e) = true then
    (if pw_nb w < 2 then (some (w, pw_c (pw_tN A e), 0), pw_tE A e)
     else if pw_rgb 0 (pw_ms k w) (pw_tN A (pw_tE A e)) = true ∧ ¬ (w = 8 ∧ pw_tN A (pw_tE A e) = pw_tN A e) then (some (w, pw_c (pw_tN A e), pw_c (pw_tN A (pw_tE A e))), pw_tE A (pw_tE A e))
     else (none, pw_tE A e))
  else (none, e)
theorem pw_cz_rest {A : pw_m} {s k e w : Nat} (hw : pw_tW A e = some w) (hk : ¬ (pw_kw w = true ∧ 6 ≤ k)) : (pw_cz A s k e).2 = (pw_rest A s k w (pw_tE A e)).1 ∧ ((pw_rest A s k w (pw_tE A e)).1 = none → (pw_cz A s k e).1 = (pw_rest A s k w (pw_tE A e)).2) ∧ ((pw_rest A s k w (pw_tE A e)).1 ≠ none → pw_tE A (pw_cz A s k e).1 = (pw_rest A s k w (pw_tE A e)).2) := by
  unfold pw_cz pw_rest
  rw [hw]
  dsimp only
  rw [if_neg hk]
  by_cases h1 : pw_nb w < 1
  · rw [if_pos h1, if_pos h1]; exact ⟨rfl, fun z => (by cases z), fun _ => rfl⟩
  · rw [if_neg h1, if_neg h1]
    by_cases h2 : pw_rgb (pw_le_ w) (pw_mf s k w) (pw_tN A (pw_tE A e)) = true
    · rw [if_pos h2, if_pos h2]
      by_cases h3 : pw_nb w < 2
      · rw [if_pos h3, if_pos h3]; exact ⟨rfl, fun z => (by cases z), fun _ => rfl⟩
      · rw [if_neg h3, if_neg h3]
        by_cases h4 : pw_rgb 0 (pw_ms k w) (pw_tN A (pw_tE A (pw_tE A e))) = true ∧ ¬ (w = 8 ∧ pw_tN A (pw_tE A (pw_tE A e)) = pw_tN A (pw_tE A e))
        · rw [if_pos h4, if_pos h4]; exact ⟨rfl, fun z => (by cases z), fun _ => rfl⟩
        · rw [if_neg h4, if_neg h4]; exact ⟨rfl, fun _ => rfl, fun z => absurd rfl z⟩
    · rw [if_neg h2, if_neg h2]; exact ⟨rfl, fun _ => rfl, fun z => absurd rfl z⟩
/-- what reading the rest leaves -/
def pw_rp (A X mm m' : pw_m) (pr : Option (Nat × Nat × Nat) × Nat) : Prop := TK A m' pr.2 ∧ m' 26 21 = pw_b pr.1.isSome ∧ pw_rfm mm m' ∧ ∀ p, pr.1 = some p → SD (G_o1 X p) m'
theorem pw_rp_no {A X mm m' : pw_m} {pr : Option (Nat × Nat × Nat) × Nat} {ex : Nat} (h : pr = (none, ex)) (h1 : TK A m' ex) (h2 : m' 26 21 = nI 0) (h3 : pw_rfm mm m') : pw_rp A X mm m' pr := by
  subst h
  exact ⟨h1, h2, h3, fun p z => by cases z⟩
theorem pw_rp_ok {A X mm m' : pw_m} {pr : Option (Nat × Nat × Nat) × Nat} {ex : Nat} {p : Nat × Nat × Nat} (h : pr = (some p, ex)) (h1 : TK A m' ex) (h2 : m' 26 21 = nI 1) (h3 : pw_rfm mm m') (h4 : SD (G_o1 X p) m') : pw_rp A X mm m' pr := by
  subst h
  exact ⟨h1, h2, h3, fun q z => by cases z; exact h4⟩
