/-! the model's cells say the same as a memory A of the class -/
theorem pw_c_lt {v : Int32} : pw_c v < 2 ^ 31 := by
  unfold pw_c Int32.toNatClampNeg
  have := Int32.toInt_lt v
  omega
theorem pw_g_lt {A : pw_m} {c k : Nat} : pw_g A c k < 2 ^ 31 := pw_c_lt
/-- an evening's row -/
def pw_es (A : pw_m) (e k : Nat) : Int32 := if k = 0 then A e 0 else if k = 1 then A e 1 else if k < 8 then A (e + 1) (k - 2) else if k < 14 then A (e + 2) (k - 8) else A (e + 3) (k - 14)
def MVT (A B : pw_m) : Prop := (B 26 0 = A 4 0 ∧ B 26 2 = A 4 1) ∧ (B 26 5 = A 4 8 ∧ B 26 6 = A 4 9 ∧ B 26 7 = A 4 10) ∧ (∀ s, s < 8 → B 27 (2 * s) = A 5 s ∧ B 27 (2 * s + 1) = A 6 s) ∧ ∀ i, i < 6 → (B 28 (3 * i) = A 7 i ∧ B 28 (3 * i + 1) = A 8 i ∧ B 28 (3 * i + 2) = A 9 i) ∧ B 29 i = A 10 i
def MVE (A B : pw_m) : Prop := ∀ k, k < 20 → B 30 k = pw_es A 42 k
def MVU (A B : pw_m) : Prop := B 26 9 = A 11 2 ∧ (∀ i, i < pw_g A 11 2 → ∀ k, k < 20 → B 31 (20 * i + k) = pw_es A (46 + 4 * pw_rg A i) k) ∧ ∀ j, j < 2 → B 33 j = pw_b ((pw_g A 11 3).testBit j) ∧ ((pw_g A 11 3).testBit j = true → ∀ k, k < 20 → B 32 (20 * j + k) = pw_es A (78 + 4 * j) k)
def MVW (A B : pw_m) : Prop := B 26 13 = A 14 4 ∧ ∀ i, i < pw_g A 14 4 → (B 34 (4 * i) = A 15 i ∧ B 34 (4 * i + 1) = A 16 i) ∧ B 34 (4 * i + 2) = A 17 i ∧ B 34 (4 * i + 3) = A 18 i
def MVX (A B : pw_m) : Prop := B 26 16 = A 2 1 ∧ ∀ i, i < pw_g A 2 1 → B 35 i = A 3 i
def MV (A B : pw_m) : Prop := MVT A B ∧ MVE A B ∧ MVU A B ∧ MVW A B ∧ MVX A B ∧ B 26 33 = -1
theorem MV.f {A B C : pw_m} (h : MV A B) (h1 : ∀ c, 27 ≤ c → c ≤ 35 → C c = B c) (h2 : ∀ j, j ≤ 16 ∨ j = 33 → C 26 j = B 26 j) : MV A C := by
  obtain ⟨⟨⟨a1, a2⟩, ⟨a3, a4, a5⟩, a6, a7⟩, b, ⟨c1, c2, c3⟩, ⟨d1, d2⟩, ⟨e1, e2⟩, f⟩ := h
  have g27 := h1 27 (by omega) (by omega)
  have g28 := h1 28 (by omega) (by omega)
  have g29 := h1 29 (by omega) (by omega)
  have g30 := h1 30 (by omega) (by omega)
  have g31 := h1 31 (by omega) (by omega)
  have g32 := h1 32 (by omega) (by omega)
  have g33 := h1 33 (by omega) (by omega)
  have g34 := h1 34 (by omega) (by omega)
  have g35 := h1 35 (by omega) (by omega)
  refine ⟨⟨⟨by rw [h2 0 (by omega)]; exact a1, by rw [h2 2 (by omega)]; exact a2⟩, ⟨by rw [h2 5 (by omega)]; exact a3, by rw [h2 6 (by omega)]; exact a4, by rw [h2 7 (by omega)]; exact a5⟩, by rw [g27]; exact a6, by rw [g28, g29]; exact a7⟩, fun k hk => by rw [g30]; exact b k hk, ⟨by rw [h2 9 (by omega)]; exact c1, by rw [g31]; exact c2, by rw [g32, g33]; exact c3⟩, ⟨by rw [h2 13 (by omega)]; exact d1, by rw [g34]; exact d2⟩, ⟨by rw [h2 16 (by omega)]; exact e1, by rw [g35]; exact e2⟩, by rw [h2 33 (by omega)]; exact f⟩
section MVS
variable {A B : pw_m}
theorem mv_n (hv : MV A B) (hok : pw_ok A) : B 26 0 = nI (pw_n A) := hv.1.1.1.trans (pw_q40 hok)
theorem mv_k (hv : MV A B) (hok : pw_ok A) : B 26 2 = nI (pw_k A) := hv.1.1.2.trans (pw_q41 hok)
theorem mv_pf (hv : MV A B) (hok : pw_ok A) : B 26 5 = nI (pw_g A 4 8) := hv.1.2.1.1.trans (pw_q48 hok)
theorem mv_ps (hv : MV A B) (hok : pw_ok A) : B 26 6 = nI (pw_g A 4 9) := hv.1.2.1.2.1.trans (pw_q49 hok)
theorem mv_mt (hv : MV A B) (hok : pw_ok A) : B 26 7 = pw_o (pw_mt A) := hv.1.2.1.2.2.trans (pw_q410 hok)
theorem mv_nk (hv : MV A B) (hok : pw_ok A) {s : Nat} (hs : s < 8) : B 27 (2 * s) = nI (pw_g A 5 s) := (hv.1.2.2.1 s hs).1.trans (pw_q5 hok hs)
theorem mv_nn (hv : MV A B) (hok : pw_ok A) {s : Nat} (hs : s < 8) : B 27 (2 * s + 1) = nI (pw_g A 6 s) := (hv.1.2.2.1 s hs).2.trans (pw_q6 hok hs)
theorem mv_kk (hv : MV A B) (hok : pw_ok A) {i : Nat} (hi : i < 6) : B 28 (3 * i) = nI (pw_g A 7 i) := (hv.1.2.2.2 i hi).1.1.trans (pw_q7 hok hi)
theorem mv_kr (hv : MV A B) (hok : pw_ok A) {i : Nat} (hi : i < 6) : B 28 (3 * i + 1) = nI (pw_g A 8 i) := (hv.1.2.2.2 i hi).1.2.1.trans (pw_q8 hok hi)
theorem mv_kh (hv : MV A B) (hok : pw_ok A) {i : Nat} (hi : i < 6) : B 28 (3 * i + 2) = nI (pw_g A 9 i) := (hv.1.2.2.2 i hi).1.2.2.trans (pw_q9 hok hi)
theorem mv_en (hv : MV A B) (hok : pw_ok A) {i : Nat} (hi : i < 6) : B 29 i = nI (pw_g A 10 i) := (hv.1.2.2.2 i hi).2.trans (pw_q10 hok hi)
theorem mv_d (hv : MV A B) (hok : pw_ok A) : B 30 0 = nI (pw_g A 42 0) := by rw [hv.2.1 0 (by omega)]; exact (pw_q420 hok : A 42 0 = _)
theorem mv_t (hv : MV A B) (hok : pw_ok A) : B 30 1 = nI (pw_g A 42 1) := by rw [hv.2.1 1 (by omega)]; exact (pw_q421 hok : A 42 1 = _)
theorem pw_es_r {e i : Nat} (hi : i < 6) : pw_es A e (2 + i) = A (e + 1) i := by unfold pw_es; rw [if_neg (by omega), if_neg (by omega), if_pos (by omega), show 2 + i - 2 = i by omega]
theorem pw_es_n {e i : Nat} (hi : i < 6) : pw_es A e (8 + i) = A (e + 2) i := by unfold pw_es; rw [if_neg (by omega), if_neg (by omega), if_neg (by omega), if_pos (by omega), show 8 + i - 8 = i by omega]
theorem pw_es_p {e i : Nat} (hi : i < 6) : pw_es A e (14 + i) = A (e + 3) i := by unfold pw_es; rw [if_neg (by omega), if_neg (by omega), if_neg (by omega), if_neg (by omega), show 14 + i - 14 = i by omega]
theorem mv_rn (hv : MV A B) (hok : pw_ok A) {i : Nat} (hi : i < 6) : B 30 (2 + i) = nI (pw_g A 43 i) := by rw [hv.2.1 (2 + i) (by omega), pw_es_r hi]; exact pw_q43 hok hi
theorem mv_nw (hv : MV A B) (hok : pw_ok A) {i : Nat} (hi : i < 6) : B 30 (8 + i) = nI (pw_g A 44 i) := by rw [hv.2.1 (8 + i) (by omega), pw_es_n hi]; exact pw_q44 hok hi
theorem mv_pl (hv : MV A B) (hok : pw_ok A) {i : Nat} (hi : i < 6) : B 30 (14 + i) = pw_o (pw_pl A i) := by rw [hv.2.1 (14 + i) (by omega), pw_es_p hi]; exact pw_q45 hok hi
theorem mv_ac (hv : MV A B) (hok : pw_ok A) : B 26 9 = nI (pw_g A 11 2) := hv.2.2.1.1.trans (pw_q112 hok)
theorem mv_sn (hv : MV A B) (hok : pw_ok A) : B 26 13 = nI (pw_g A 14 4) := hv.2.2.2.1.1.trans (pw_q144 hok)
theorem mv_s0 (hv : MV A B) (hok : pw_ok A) {i : Nat} (hi : i < pw_g A 14 4) : B 34 (4 * i) = nI (pw_g A 15 i) := (hv.2.2.2.1.2 i hi).1.1.trans (pw_q15 hok hi)
theorem mv_s1 (hv : MV A B) (hok : pw_ok A) {i : Nat} (hi : i < pw_g A 14 4) : B 34 (4 * i + 1) = nI (pw_g A 16 i) := (hv.2.2.2.1.2 i hi).1.2.trans (pw_q16 hok hi)
theorem mv_s2 (hv : MV A B) (hok : pw_ok A) {i : Nat} (hi : i < pw_g A 14 4) : B 34 (4 * i + 2) = nI (pw_g A 17 i) := (hv.2.2.2.1.2 i hi).2.1.trans (pw_q17 hok hi)
theorem mv_s3 (hv : MV A B) (hok : pw_ok A) {i : Nat} (hi : i < pw_g A 14 4) : B 34 (4 * i + 3) = pw_b (pw_tk A i) := (hv.2.2.2.1.2 i hi).2.2.trans (pw_q18 hok hi)
theorem mv_tn (hv : MV A B) (hok : pw_ok A) : B 26 16 = nI (pw_g A 2 1) := hv.2.2.2.2.1.1.trans (pw_q21 hok)
theorem mv_tl (hv : MV A B) {i : Nat} (hi : i < pw_g A 2 1) : B 35 i = A 3 i := hv.2.2.2.2.1.2 i hi
end MVS
/-- a number between bounds -/
def pw_in (v a b : Int32) : Bool := decide (¬ v < a ∧ ¬ b < v)
theorem pw_in0 {v : Int32} {N : Nat} (h : N + 1 < 2 ^ 31) : pw_in v (nI 0) (nI N) = pw_inr v (N + 1) := by
  unfold pw_in
  by_cases h1 : v < 0
  · rw [pw_inr_f1 h1]
    exact decide_eq_false (fun z => z.1 h1)
  · by_cases h2 : nI N < v
    · rw [pw_inr_f3 h h2]
      exact decide_eq_false (fun z => z.2 h2)
    · rw [pw_inr_y3 h h1 (Int32.not_lt.mp h2)]
      exact decide_eq_true ⟨h1, h2⟩
theorem pw_in1 {v : Int32} {N : Nat} (h : N < 2 ^ 31) : pw_in v (nI 0) (nI N - nI 1) = pw_inr v N := by
  rcases Nat.eq_zero_or_pos N with q | q
  · subst q
    unfold pw_in
    have e : pw_inr v 0 = false := by
      cases z : pw_inr v 0 with
      | false => rfl
      | true => obtain ⟨j, hj, -⟩ := pw_inr_t (by omega) z; omega
    rw [e]
    refine decide_eq_false (fun z => z.2 ?_)
    have h1 : ¬ v < nI 0 := z.1
    rw [Int32.lt_iff_toInt_lt] at h1 ⊢
    rw [pw_sub1I (by omega)]
    rw [nI_toInt (by omega)] at h1
    omega
  · obtain ⟨M, rfl⟩ : ∃ M, N = M + 1 := ⟨N - 1, by omega⟩
    have e : nI (M + 1) - nI 1 = nI M := by
      apply Int32.toInt_inj.mp
      rw [pw_sub1I (by omega), nI_toInt (by omega)]
      omega
    rw [e]
    exact pw_in0 h
theorem pw_pc_and : ∀ r, r < 256 → 0 < r → pw_pc (r &&& (r - 1)) + 1 = pw_pc r ∧ r &&& (r - 1) < r := by decide +kernel
theorem pw_pc_0 : pw_pc 0 = 0 := by decide +kernel
/-- none beyond: the same bits -/
theorem pw_ob_ext {p : Nat → Bool} {m n : Nat} (h : m ≤ n) (h0 : ∀ i, m ≤ i → i < n → p i = false) : pw_ob p n = pw_ob p m := by
  induction n with
  | zero => have : m = 0 := by omega
            subst this; rfl
  | succ n ih =>
    rcases Nat.lt_or_ge n m with q | q
    · have : m = n + 1 := by omega
      subst this; rfl
    · rw [pw_ob, h0 n q (by omega)]
      rw [show (if false = true then 2 ^ n else 0) = 0 from rfl, Nat.or_zero]
      exact ih q (fun i h1 h2 => h0 i h1 (by omega))
theorem pw_sb_k {A : pw_m} (h : pw_ok A) : pw_ob (fun j => (pw_pl A j).isSome) (pw_k A) = pw_sb A := by
  unfold pw_sb
  rw [pw_ob_ext (pw_bk h) (fun i h1 h2 => ?_)]
  have e : pw_pl A i = none := h.2.1.2.2.2.2.1 i h2 h1
  rw [e]; rfl
theorem pw_si_k {A : pw_m} (h : pw_ok A) (s : Nat) : pw_lf (fun j => decide (pw_pl A j = some s)) (pw_k A) = pw_si A s := by
  have bk := pw_bk h
  unfold pw_si
  refine (pw_ff_lf bk (fun i h1 h2 => ?_) (fun i j hi hj h1 h2 => ?_)).symm
  · have e : pw_pl A i = none := h.2.1.2.2.2.2.1 i h2 h1
    rw [e]; rfl
  · exact pw_b45i h (by omega) (by omega) (of_decide_eq_true h1) (of_decide_eq_true h2)
theorem pw_bes1 {n s : Nat} (h : s < n) : (s + 1 + n) % n = pw_bh n s := by
  unfold pw_bh
  rw [Nat.add_mod_right]
  split
  · exact Nat.mod_eq_of_lt (by omega)
  · rw [show s + 1 = n by omega, Nat.mod_self]
theorem pw_besm {n s : Nat} (h : s < n) : (s + n - 1) % n = pw_ah n s := by
  unfold pw_ah
  split
  · rw [show s + n - 1 = (s - 1) + n by omega, Nat.add_mod_right]
    exact Nat.mod_eq_of_lt (by omega)
  · rw [show s + n - 1 = n - 1 by omega]
    exact Nat.mod_eq_of_lt (by omega)
theorem pw_nIm1 {a : Nat} (h : 0 < a) (h2 : a < 2 ^ 31) : nI a + (-1) = nI (a - 1) := by
  apply Int32.toInt_inj.mp
  rw [Int32.toInt_add, nI_toInt h2, nI_toInt (by omega), show (-1 : Int32).toInt = -1 from by decide, Int.bmod_def]
  split <;> omega
theorem pw_nIms {a b : Nat} (h : 0 < b) (h2 : a + b < 2 ^ 31) : nI a + (-1) + nI b = nI (a + b - 1) := by
  rw [Int32.add_assoc, Int32.add_comm (-1) (nI b), pw_nIm1 h (by omega), nI_add, show a + (b - 1) = a + b - 1 by omega]
