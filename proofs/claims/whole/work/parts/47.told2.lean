/-! what a clause makes of what is told, cell by cell; the text's clauses in a row, its first fault -/
theorem pw_up_c {A B : pw_m} {c d j : Nat} {v : Int32} (h : B c = A c) : pw_up B d j v c = pw_up A d j v c := by
  unfold pw_up
  by_cases q : c = d
  · subst q; rw [if_pos rfl, if_pos rfl, h]
  · rw [if_neg q, if_neg q]; exact h
theorem pw_zI_c {A B : pw_m} {c d : Nat} (h : B c = A c) : ∀ i, pw_zI B d i c = pw_zI A d i c := by
  intro i
  induction i with
  | zero => exact h
  | succ i ih => rw [pw_zI, pw_zI]; exact pw_up_c ih
theorem pw_zI_o {A : pw_m} {c d : Nat} (h : c ≠ d) : ∀ i, pw_zI A d i c = A c := by
  intro i
  induction i with
  | zero => rfl
  | succ i ih => rw [pw_zI, pw_up_ne h]; exact ih
theorem pw_zI_i {A : pw_m} {d : Nat} : ∀ i j, pw_zI A d i d j = if j < i then nI 0 else A d j := by
  intro i
  induction i with
  | zero => intro j; rfl
  | succ i ih =>
    intro j
    rw [pw_zI, pw_up_eq]
    unfold upd
    by_cases q : j = i
    · rw [if_pos q, if_pos (by omega)]
    · rw [if_neg q, ih]
      by_cases q2 : j < i
      · rw [if_pos q2, if_pos (by omega)]
      · rw [if_neg q2, if_neg (by omega)]
theorem pw_zJ_c {A B : pw_m} {c : Nat} (h : B c = A c) : ∀ i, pw_zJ B i c = pw_zJ A i c := by
  intro i
  induction i with
  | zero => exact h
  | succ i ih => rw [pw_zJ, pw_zJ]; exact pw_up_c (pw_up_c ih)
theorem pw_zJ_o {A : pw_m} {c : Nat} (h : c ≠ 5) (h2 : c ≠ 6) : ∀ i, pw_zJ A i c = A c := by
  intro i
  induction i with
  | zero => rfl
  | succ i ih => rw [pw_zJ, pw_up_ne h2, pw_up_ne h]; exact ih
theorem pw_zJ_i {A : pw_m} {c : Nat} (hc : c = 5 ∨ c = 6) : ∀ i j, pw_zJ A i c j = if j < i then nI 0 else A c j := by
  intro i
  induction i with
  | zero => intro j; rfl
  | succ i ih =>
    intro j
    have e : pw_zJ A (i + 1) c j = if j = i then nI 0 else pw_zJ A i c j := by
      rw [pw_zJ]
      rcases hc with rfl | rfl
      · rw [pw_up_ne (by omega), pw_up_eq]; rfl
      · rw [pw_up_eq, pw_up_ne (by omega)]; rfl
    rw [e, ih]
    by_cases q : j = i
    · rw [if_pos q, if_pos (by omega)]
    · rw [if_neg q]
      by_cases q2 : j < i
      · rw [if_pos q2, if_pos (by omega)]
      · rw [if_neg q2, if_neg (by omega)]
theorem G_lay_c {A B : pw_m} {v : Int32} {c : Nat} (h : B c = A c) : G_lay B v c = G_lay A v c := by
  unfold G_lay
  exact pw_up_c (pw_up_c (pw_up_c (pw_zI_c (pw_zJ_c (pw_up_c (pw_up_c h)) 8) 6)))
theorem G_me1_c {A B : pw_m} {a b c : Nat} (h : B c = A c) (h10 : B 10 = A 10) : G_me1 B a b c = G_me1 A a b c := by
  unfold G_me1
  rw [h10]
  exact pw_up_c h
theorem pw_12 {w : Nat} (h : w < 12) : w = 0 ∨ w = 1 ∨ w = 2 ∨ w = 3 ∨ w = 4 ∨ w = 5 ∨ w = 6 ∨ w = 7 ∨ w = 8 ∨ w = 9 ∨ w = 10 ∨ w = 11 := by omega
theorem G_ns_c {A B : pw_m} {s c : Nat} {q v : Int32} (h : B c = A c) : G_ns B s q v c = G_ns A s q v c := pw_up_c (pw_up_c h)
theorem G_ak_c {A B : pw_m} {k c : Nat} {q v u : Int32} (h : B c = A c) (h4 : B 4 = A 4) : G_ak B (pw_c (B 4 1)) q v u c = G_ak A (pw_c (A 4 1)) q v u c := by rw [h4]; exact pw_up_c (pw_up_c (pw_up_c (pw_up_c h)))
theorem G_ns_o {A : pw_m} {s c : Nat} {q v : Int32} (e5 : c ≠ 5) (e6 : c ≠ 6) : G_ns A s q v c = A c := by unfold G_ns; rw [pw_up_ne e6, pw_up_ne e5]
theorem G_ak_o {A : pw_m} {k c : Nat} {q v u : Int32} (e4 : c ≠ 4) (e7 : c ≠ 7) (e8 : c ≠ 8) (e9 : c ≠ 9) : G_ak A k q v u c = A c := by unfold G_ak; rw [pw_up_ne e4, pw_up_ne e9, pw_up_ne e8, pw_up_ne e7]
theorem G_lay_o {A : pw_m} {c : Nat} {v : Int32} (e4 : c ≠ 4) (e5 : c ≠ 5) (e6 : c ≠ 6) (e10 : c ≠ 10) : G_lay A v c = A c := by unfold G_lay; rw [pw_up_ne e4, pw_up_ne e4, pw_up_ne e4, pw_zI_o e10, pw_zJ_o e5 e6, pw_up_ne e4, pw_up_ne e4]
theorem G_me_o {A : pw_m} {a b c : Nat} (e10 : c ≠ 10) : G_me A a b c = A c := by unfold G_me G_me1; rw [pw_up_ne e10, pw_up_ne e10]
theorem G_ob_c {A B : pw_m} {w c : Nat} {a b : Int32} (hw : w < 12) (h : ∀ c, 4 ≤ c → c ≤ 10 → B c = A c) (h1 : 4 ≤ c) (h2 : c ≤ 10) : G_ob B w a b c = G_ob A w a b c := by
  have hc := h c h1 h2
  have h4 := h 4 (by omega) (by omega)
  have h10 := h 10 (by omega) (by omega)
  rcases pw_12 hw with rfl | rfl | rfl | rfl | rfl | rfl | rfl | rfl | rfl | rfl | rfl | rfl
  · show G_lay B a c = G_lay A a c
    exact G_lay_c hc
  · show G_ns B (pw_c a) (nI 1) b c = G_ns A (pw_c a) (nI 1) b c
    exact G_ns_c hc
  · show G_ns B (pw_c a) (nI 2) b c = G_ns A (pw_c a) (nI 2) b c
    exact G_ns_c hc
  · show G_ns B (pw_c a) (nI 3) b c = G_ns A (pw_c a) (nI 3) b c
    exact G_ns_c hc
  · show G_ns B (pw_c a) (nI 4) (nI 0) c = G_ns A (pw_c a) (nI 4) (nI 0) c
    exact G_ns_c hc
  · show G_ak B (pw_c (B 4 1)) (nI 0) a b c = G_ak A (pw_c (A 4 1)) (nI 0) a b c
    exact G_ak_c (k := 0) hc h4
  · show G_ak B (pw_c (B 4 1)) (nI 1) a b c = G_ak A (pw_c (A 4 1)) (nI 1) a b c
    exact G_ak_c (k := 0) hc h4
  · show G_ak B (pw_c (B 4 1)) (nI 2) a b c = G_ak A (pw_c (A 4 1)) (nI 2) a b c
    exact G_ak_c (k := 0) hc h4
  · show G_me B (pw_c a) (pw_c b) c = G_me A (pw_c a) (pw_c b) c
    exact G_me1_c (G_me1_c hc h10) (G_me1_c h10 h10)
  · show pw_up (pw_up B 4 8 a) 4 9 b c = pw_up (pw_up A 4 8 a) 4 9 b c
    exact pw_up_c (pw_up_c hc)
  · show pw_up B 4 10 a c = pw_up A 4 10 a c
    exact pw_up_c hc
  · show pw_zI B 10 6 c = pw_zI A 10 6 c
    exact pw_zI_c hc 6
theorem G_ob_o {A : pw_m} {w c : Nat} {a b : Int32} (hw : w < 12) (h : c < 4 ∨ 10 < c) : G_ob A w a b c = A c := by
  have e : ∀ d, 4 ≤ d → d ≤ 10 → c ≠ d := fun d h1 h2 => by omega
  have e4 := e 4 (by omega) (by omega)
  have e5 := e 5 (by omega) (by omega)
  have e6 := e 6 (by omega) (by omega)
  have e7 := e 7 (by omega) (by omega)
  have e8 := e 8 (by omega) (by omega)
  have e9 := e 9 (by omega) (by omega)
  have e10 := e 10 (by omega) (by omega)
  rcases pw_12 hw with rfl | rfl | rfl | rfl | rfl | rfl | rfl | rfl | rfl | rfl | rfl | rfl
  · show G_lay A a c = A c
    exact G_lay_o e4 e5 e6 e10
  · show G_ns A (pw_c a) (nI 1) b c = A c
    exact G_ns_o e5 e6
  · show G_ns A (pw_c a) (nI 2) b c = A c
    exact G_ns_o e5 e6
  · show G_ns A (pw_c a) (nI 3) b c = A c
    exact G_ns_o e5 e6
  · show G_ns A (pw_c a) (nI 4) (nI 0) c = A c
    exact G_ns_o e5 e6
  · show G_ak A (pw_c (A 4 1)) (nI 0) a b c = A c
    exact G_ak_o e4 e7 e8 e9
  · show G_ak A (pw_c (A 4 1)) (nI 1) a b c = A c
    exact G_ak_o e4 e7 e8 e9
  · show G_ak A (pw_c (A 4 1)) (nI 2) a b c = A c
    exact G_ak_o e4 e7 e8 e9
  · show G_me A (pw_c a) (pw_c b) c = A c
    exact G_me_o e10
  · show pw_up (pw_up A 4 8 a) 4 9 b c = A c
    rw [pw_up_ne e4, pw_up_ne e4]
  · show pw_up A 4 10 a c = A c
    rw [pw_up_ne e4]
  · show pw_zI A 10 6 c = A c
    rw [pw_zI_o e10]
theorem pw_nb2 : ∀ w, w < 12 → pw_nb w < 2 → w = 0 ∨ w = 4 ∨ w = 10 ∨ w = 11 := by decide
theorem G_ob_nb {A : pw_m} {w a b : Nat} (h : w < 12) : G_ob A w (if pw_nb w < 1 then -1 else nI a) (if pw_nb w < 2 then -1 else nI b) = G_ob A w (nI a) (nI b) := by
  by_cases h2 : pw_nb w < 2
  · rcases pw_nb2 w h h2 with rfl | rfl | rfl | rfl
    · rw [if_neg (show ¬ pw_nb 0 < 1 by decide)]
      show G_lay A (nI a) = G_lay A (nI a)
      rfl
    · rw [if_neg (show ¬ pw_nb 4 < 1 by decide)]
      show G_ns A (pw_c (nI a)) (nI 4) (nI 0) = G_ns A (pw_c (nI a)) (nI 4) (nI 0)
      rfl
    · rw [if_neg (show ¬ pw_nb 10 < 1 by decide)]
      show pw_up A 4 10 (nI a) = pw_up A 4 10 (nI a)
      rfl
    · show pw_zI A 10 6 = pw_zI A 10 6
      rfl
  · rw [if_neg h2, if_neg (show ¬ pw_nb w < 1 by omega)]
theorem G_ob_n {A : pw_m} {w a b s k : Nat} (h : w < 12) (hs : A 4 0 = nI s) (hk : A 4 1 = nI k) (hk6 : k ≤ 6) : G_ob A w (nI a) (nI b) 4 0 = nI (pw_s2_ s w a) ∧ G_ob A w (nI a) (nI b) 4 1 = nI (pw_k2_ k w) := by
  have ck : pw_c (nI k) = k := pw_c_nI (by omega)
  have lz : ∀ v, G_lay A v 4 0 = v ∧ G_lay A v 4 1 = nI 0 := by
    intro v
    unfold G_lay
    rw [pw_up_eq, pw_up_eq, pw_up_eq, pw_zI_o (by omega), pw_zJ_o (by omega) (by omega), pw_up_eq, pw_up_eq]
    exact ⟨rfl, rfl⟩
  have z4 : ∀ i, pw_zI A 10 i 4 = A 4 := fun i => pw_zI_o (by omega) i
  have ns : ∀ x q v, G_ns A x q v 4 = A 4 := fun x q v => G_ns_o (by omega) (by omega)
  have ak : ∀ q v u, G_ak A (pw_c (A 4 1)) q v u 4 0 = nI s ∧ G_ak A (pw_c (A 4 1)) q v u 4 1 = nI (k + 1) := by
    intro q v u
    rw [hk, ck]
    unfold G_ak
    rw [pw_up_eq, pw_up_ne (by omega), pw_up_ne (by omega), pw_up_ne (by omega)]
    exact ⟨hs, rfl⟩
  rcases pw_12 h with rfl | rfl | rfl | rfl | rfl | rfl | rfl | rfl | rfl | rfl | rfl | rfl
  · exact lz (nI a)
  · show G_ns A (pw_c (nI a)) (nI 1) (nI b) 4 0 = nI s ∧ G_ns A (pw_c (nI a)) (nI 1) (nI b) 4 1 = nI k
    rw [ns]; exact ⟨hs, hk⟩
  · show G_ns A (pw_c (nI a)) (nI 2) (nI b) 4 0 = nI s ∧ G_ns A (pw_c (nI a)) (nI 2) (nI b) 4 1 = nI k
    rw [ns]; exact ⟨hs, hk⟩
  · show G_ns A (pw_c (nI a)) (nI 3) (nI b) 4 0 = nI s ∧ G_ns A (pw_c (nI a)) (nI 3) (nI b) 4 1 = nI k
    rw [ns]; exact ⟨hs, hk⟩
  · show G_ns A (pw_c (nI a)) (nI 4) (nI 0) 4 0 = nI s ∧ G_ns A (pw_c (nI a)) (nI 4) (nI 0) 4 1 = nI k
    rw [ns]; exact ⟨hs, hk⟩
  · exact ak (nI 0) (nI a) (nI b)
  · exact ak (nI 1) (nI a) (nI b)
  · exact ak (nI 2) (nI a) (nI b)
  · show G_me A (pw_c (nI a)) (pw_c (nI b)) 4 0 = nI s ∧ G_me A (pw_c (nI a)) (pw_c (nI b)) 4 1 = nI k
    rw [G_me_o (by omega)]; exact ⟨hs, hk⟩
  · show pw_up (pw_up A 4 8 (nI a)) 4 9 (nI b) 4 0 = nI s ∧ pw_up (pw_up A 4 8 (nI a)) 4 9 (nI b) 4 1 = nI k
    exact ⟨hs, hk⟩
  · show pw_up A 4 10 (nI a) 4 0 = nI s ∧ pw_up A 4 10 (nI a) 4 1 = nI k
    exact ⟨hs, hk⟩
  · show pw_zI A 10 6 4 0 = nI s ∧ pw_zI A 10 6 4 1 = nI k
    rw [z4]; exact ⟨hs, hk⟩
/-- a clause that is well: its numbers are in their bounds -/
theorem pw_cz_b {A : pw_m} {s k e : Nat} {p : Nat × Nat × Nat} (h : (pw_cz A s k e).2 = some p) (hs : s ≤ 8) (hk : k ≤ 6) : p.1 < 12 ∧ (pw_kw p.1 = true → k < 6) ∧ (1 ≤ pw_nb p.1 → pw_le_ p.1 ≤ p.2.1 ∧ p.2.1 < pw_mf s k p.1) ∧ (2 ≤ pw_nb p.1 → p.2.2 < pw_ms k p.1) ∧ (p.1 = 8 → p.2.1 ≠ p.2.2) := by
  unfold pw_cz at h
  cases hw : pw_tW A e with
  | none => rw [hw] at h; cases h
  | some w =>
    have bw := pw_tW_b hw
    rw [hw] at h
    dsimp only at h
    split at h
    · cases h
    · rename_i q1
      have h6 : pw_kw w = true → k < 6 := fun z => by
        rcases Nat.lt_or_ge k 6 with q | q
        · exact q
        · exact absurd ⟨z, q⟩ q1
      split at h
      · rename_i q2
        cases h
        refine ⟨bw, h6, fun z => absurd z (by show ¬ 1 ≤ pw_nb w; omega), fun z => absurd z (by show ¬ 2 ≤ pw_nb w; omega), fun z => ?_⟩
        have z' : w = 8 := z
        subst z'
        exact absurd q2 (by decide)
      · split at h
        · rename_i q2 q3
          obtain ⟨y, ey, y1, y2⟩ := pw_rgb_t q3 (pw_le_b w) (pw_mf_b w hs hk)
          have bm := pw_mf_b w hs hk
          have cy : pw_c (pw_tN A (pw_tE A e)) = y := by rw [ey]; exact pw_c_nI (by omega)
          rw [cy] at h
          split at h
          · rename_i q4
            cases h
            refine ⟨bw, h6, fun _ => ⟨y1, y2⟩, fun z => absurd z (by show ¬ 2 ≤ pw_nb w; omega), fun z => ?_⟩
            have z' : w = 8 := z
            subst z'
            exact absurd q4 (by decide)
          · split at h
            · rename_i q4 q5
              obtain ⟨u, eu, u1, u2⟩ := pw_rgb_t q5.1 (by omega) (pw_ms_b w hk)
              have bs := pw_ms_b w hk
              have cu : pw_c (pw_tN A (pw_tE A (pw_tE A e))) = u := by rw [eu]; exact pw_c_nI (by omega)
              rw [cu] at h
              cases h
              refine ⟨bw, h6, fun _ => ⟨y1, y2⟩, fun _ => u2, fun z q => ?_⟩
              have q' : y = u := q
              exact q5.2 ⟨z, by rw [eu, ey, q']⟩
            · cases h
        · cases h
theorem pw_cz_e {A : pw_m} {s k e : Nat} (he : e ≤ pw_g A 2 1) : (pw_cz A s k e).1 ≤ pw_g A 2 1 := by
  have h1 := pw_tb1 he
  have h2 := pw_tb1 h1.2.2
  unfold pw_cz
  split
  · exact he
  · split
    · exact he
    · split
      · exact he
      · split
        · split
          · exact h1.2.2
          · split
            · exact h2.2.2
            · exact h2.2.2
        · exact h1.2.2
theorem pw_cz_n {A : pw_m} {s k e : Nat} {p : Nat × Nat × Nat} (h : (pw_cz A s k e).2 = some p) (hs : s ≤ 8) (hk : k ≤ 6) : pw_s2_ s p.1 p.2.1 ≤ 8 ∧ pw_k2_ k p.1 ≤ 6 := by
  obtain ⟨h1, h2, h3, h4, h5⟩ := pw_cz_b h hs hk
  unfold pw_s2_ pw_k2_
  constructor
  · split
    · rename_i q
      rw [q] at h3
      have := (h3 (by decide)).2
      have e : pw_mf s k 0 = 9 := rfl
      omega
    · exact hs
  · split
    · omega
    · split
      · rename_i q
        have := h2 q
        omega
      · exact hk
/-- the first fault's place; the clauses ahead of it -/
def pw_rf (A : pw_m) : Nat → Nat → Nat → Nat → Option Nat
  | 0, _, _, _ => none
  | f + 1, s, k, e => match (pw_cz A s k e).2 with
    | none => some (pw_tB A (pw_cz A s k e).1)
    | some p => if pw_tT A (pw_tE A (pw_cz A s k e).1) = 0 then none else if pw_tS A (pw_tE A (pw_cz A s k e).1) = true ∧ 0 < f then pw_rf A f (pw_s2_ s p.1 p.2.1) (pw_k2_ k p.1) (pw_tE A (pw_tE A (pw_cz A s k e).1)) else some (pw_tB A (pw_tE A (pw_cz A s k e).1))
def pw_cq (A : pw_m) : Nat → Nat → Nat → Nat → List (Nat × Nat × Nat)
  | 0, _, _, _ => []
  | f + 1, s, k, e => match (pw_cz A s k e).2 with
    | none => []
    | some p => p :: (if pw_tT A (pw_tE A (pw_cz A s k e).1) = 0 then [] else if pw_tS A (pw_tE A (pw_cz A s k e).1) = true ∧ 0 < f then pw_cq A f (pw_s2_ s p.1 p.2.1) (pw_k2_ k p.1) (pw_tE A (pw_tE A (pw_cz A s k e).1)) else [])
def G_o1 (A : pw_m) (p : Nat × Nat × Nat) : pw_m := G_ob A p.1 (nI p.2.1) (nI p.2.2)
def G_oq (A : pw_m) (ps : List (Nat × Nat × Nat)) : pw_m := ps.foldl G_o1 A
/-- all of a text: its fault, its clauses, what they tell -/
def pw_RF (A : pw_m) : Option Nat := pw_rf A 14 (pw_n A) (pw_k A) 0
def pw_CQ (A : pw_m) : List (Nat × Nat × Nat) := pw_cq A 14 (pw_n A) (pw_k A) 0
def pw_rdp (mm B : pw_m) (dg : Bool) : Prop := (∀ c, c ≠ 1 → c ≠ 2 → (c < 4 ∨ 10 < c) → B c = mm c) ∧ B 2 1 = mm 2 1 ∧ (dg = false → ∀ c, 4 ≤ c → c ≤ 10 → B c = mm c) ∧ (pw_RF mm = none → B 1 1 = nI (pw_CQ mm).length ∧ (dg = true → ∀ c, 4 ≤ c → c ≤ 10 → B c = G_oq mm (pw_CQ mm) c))
