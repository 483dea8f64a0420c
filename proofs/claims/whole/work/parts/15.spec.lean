/-! what the class's memory is, in plain words; when it is well -/
def pw_fine (v : Int32) (N : Nat) : Prop := v = nI (pw_c v) ∧ pw_c v < N
def pw_fino (v : Int32) (N : Nat) : Prop := v = pw_o (pw_oc v) ∧ ∀ a, pw_oc v = some a → a < N
theorem pw_fine_nI {a N : Nat} (h : a < N) (hN : N < 2 ^ 31) : pw_fine (nI a) N := ⟨by rw [pw_c_nI (by omega)], by rw [pw_c_nI (by omega)]; exact h⟩
theorem pw_fino_o {q : Option Nat} {N : Nat} (h : ∀ a, q = some a → a < N) (hN : N < 2 ^ 31) : pw_fino (pw_o q) N := by
  have e := pw_oc_o (q := q) (fun a ha => Nat.lt_trans (h a ha) hN)
  exact ⟨by rw [e], by rw [e]; exact h⟩
theorem pw_fine.up {v : Int32} {N M : Nat} (h : pw_fine v N) (hm : N ≤ M) : pw_fine v M := ⟨h.1, Nat.lt_of_lt_of_le h.2 hm⟩
/-- a number of the memory; none, or whom the peril is meant for -/
def pw_g (A : pw_m) (c k : Nat) : Nat := pw_c (A c k)
def pw_mt (A : pw_m) : Option Nat := pw_oc (A 4 10)
/-- an evening whose object is the cell e -/
def pw_ev (A : pw_m) (e n k : Nat) : Prop :=
  (pw_fine (A e 0) 1000 ∧ pw_fine (A e 1) (2 ^ k)) ∧ (∀ j, j < 6 → pw_fine (A (e + 1) j) 10) ∧ (∀ j, j < 6 → pw_fine (A (e + 2) j) 16) ∧ (∀ j, j < 6 → pw_fino (A (e + 3) j) n) ∧ (∀ j, j < 6 → k ≤ j → pw_oc (A (e + 3) j) = none) ∧
  ∀ i j s, i < 6 → j < 6 → pw_oc (A (e + 3) i) = some s → pw_oc (A (e + 3) j) = some s → i = j
def pw_n (A : pw_m) : Nat := pw_c (A 4 0)
def pw_k (A : pw_m) : Nat := pw_c (A 4 1)
/-- the ring's place of the i-th oldest that can be undone -/
def pw_rg (A : pw_m) (i : Nat) : Nat := (pw_g A 11 4 + 8 - pw_g A 11 2 + i) % 8
def pw_okT (A : pw_m) : Prop := (pw_fine (A 4 0) 9 ∧ pw_fine (A 4 1) 7) ∧ (∀ j, j < 8 → pw_fine (A 5 j) 5 ∧ pw_fine (A 6 j) 10) ∧ (∀ j, j < 6 → (pw_fine (A 7 j) 3 ∧ pw_fine (A 8 j) 10) ∧ pw_fine (A 9 j) 10 ∧ pw_fine (A 10 j) 64) ∧ (pw_fine (A 4 8) 8 ∧ pw_fine (A 4 9) 8 ∧ pw_fino (A 4 10) 6)
def pw_okU (A : pw_m) : Prop := (pw_fine (A 11 2) 9 ∧ pw_fine (A 11 4) 8 ∧ ∀ i, i < pw_g A 11 2 → pw_ev A (46 + 4 * pw_rg A i) (pw_n A) (pw_k A)) ∧ (pw_fine (A 11 3) 4 ∧ ∀ i, i < 2 → (pw_g A 11 3).testBit i = true → pw_ev A (78 + 4 * i) (pw_n A) (pw_k A))
def pw_okW (A : pw_m) : Prop := pw_fine (A 14 4) 9 ∧ ∀ i, i < pw_g A 14 4 → (pw_fine (A 15 i) (pw_k A) ∧ pw_fine (A 16 i) (pw_n A)) ∧ pw_fine (A 17 i) 1000 ∧ (A 18 i = 0 ∨ A 18 i = 1)
def pw_okX (A : pw_m) : Prop := pw_fine (A 2 1) 161 ∧ ∀ i, i < pw_g A 2 1 → pw_fine (A 3 i) 256
def pw_ok (A : pw_m) : Prop := pw_okT A ∧ pw_ev A 42 (pw_n A) (pw_k A) ∧ pw_okU A ∧ pw_okW A ∧ pw_okX A
section PWQ
variable {A : pw_m}
theorem pw_bn (h : pw_ok A) : pw_n A ≤ 8 := by have := h.1.1.1.2; unfold pw_n; omega
theorem pw_bk (h : pw_ok A) : pw_k A ≤ 6 := by have := h.1.1.2.2; unfold pw_k; omega
theorem pw_q40 (h : pw_ok A) : A 4 0 = nI (pw_n A) := h.1.1.1.1
theorem pw_q41 (h : pw_ok A) : A 4 1 = nI (pw_k A) := h.1.1.2.1
theorem pw_q5 (h : pw_ok A) {j : Nat} (hj : j < 8) : A 5 j = nI (pw_g A 5 j) := (h.1.2.1 j hj).1.1
theorem pw_b5 (h : pw_ok A) {j : Nat} (hj : j < 8) : pw_g A 5 j < 5 := (h.1.2.1 j hj).1.2
theorem pw_q6 (h : pw_ok A) {j : Nat} (hj : j < 8) : A 6 j = nI (pw_g A 6 j) := (h.1.2.1 j hj).2.1
theorem pw_b6 (h : pw_ok A) {j : Nat} (hj : j < 8) : pw_g A 6 j < 10 := (h.1.2.1 j hj).2.2
theorem pw_q7 (h : pw_ok A) {j : Nat} (hj : j < 6) : A 7 j = nI (pw_g A 7 j) := (h.1.2.2.1 j hj).1.1.1
theorem pw_b7 (h : pw_ok A) {j : Nat} (hj : j < 6) : pw_g A 7 j < 3 := (h.1.2.2.1 j hj).1.1.2
theorem pw_q8 (h : pw_ok A) {j : Nat} (hj : j < 6) : A 8 j = nI (pw_g A 8 j) := (h.1.2.2.1 j hj).1.2.1
theorem pw_b8 (h : pw_ok A) {j : Nat} (hj : j < 6) : pw_g A 8 j < 10 := (h.1.2.2.1 j hj).1.2.2
theorem pw_q9 (h : pw_ok A) {j : Nat} (hj : j < 6) : A 9 j = nI (pw_g A 9 j) := (h.1.2.2.1 j hj).2.1.1
theorem pw_b9 (h : pw_ok A) {j : Nat} (hj : j < 6) : pw_g A 9 j < 10 := (h.1.2.2.1 j hj).2.1.2
theorem pw_q10 (h : pw_ok A) {j : Nat} (hj : j < 6) : A 10 j = nI (pw_g A 10 j) := (h.1.2.2.1 j hj).2.2.1
theorem pw_b10 (h : pw_ok A) {j : Nat} (hj : j < 6) : pw_g A 10 j < 64 := (h.1.2.2.1 j hj).2.2.2
theorem pw_q48 (h : pw_ok A) : A 4 8 = nI (pw_g A 4 8) := h.1.2.2.2.1.1
theorem pw_b48 (h : pw_ok A) : pw_g A 4 8 < 8 := h.1.2.2.2.1.2
theorem pw_q49 (h : pw_ok A) : A 4 9 = nI (pw_g A 4 9) := h.1.2.2.2.2.1.1
theorem pw_b49 (h : pw_ok A) : pw_g A 4 9 < 8 := h.1.2.2.2.2.1.2
theorem pw_q410 (h : pw_ok A) : A 4 10 = pw_o (pw_mt A) := h.1.2.2.2.2.2.1
theorem pw_b410 (h : pw_ok A) {a : Nat} (ha : pw_mt A = some a) : a < 6 := h.1.2.2.2.2.2.2 a ha
theorem pw_q420 (h : pw_ok A) : A 42 0 = nI (pw_g A 42 0) := h.2.1.1.1.1
theorem pw_b420 (h : pw_ok A) : pw_g A 42 0 < 1000 := h.2.1.1.1.2
theorem pw_q421 (h : pw_ok A) : A 42 1 = nI (pw_g A 42 1) := h.2.1.1.2.1
theorem pw_b421 (h : pw_ok A) : pw_g A 42 1 < 2 ^ pw_k A := h.2.1.1.2.2
theorem pw_b421' (h : pw_ok A) : pw_g A 42 1 < 64 := Nat.lt_of_lt_of_le (pw_b421 h) (Nat.pow_le_pow_right (by omega) (pw_bk h) : 2 ^ pw_k A ≤ 2 ^ 6)
theorem pw_q43 (h : pw_ok A) {j : Nat} (hj : j < 6) : A 43 j = nI (pw_g A 43 j) := (h.2.1.2.1 j hj).1
theorem pw_b43 (h : pw_ok A) {j : Nat} (hj : j < 6) : pw_g A 43 j < 10 := (h.2.1.2.1 j hj).2
theorem pw_q44 (h : pw_ok A) {j : Nat} (hj : j < 6) : A 44 j = nI (pw_g A 44 j) := (h.2.1.2.2.1 j hj).1
theorem pw_b44 (h : pw_ok A) {j : Nat} (hj : j < 6) : pw_g A 44 j < 16 := (h.2.1.2.2.1 j hj).2
theorem pw_q45 (h : pw_ok A) {j : Nat} (hj : j < 6) : A 45 j = pw_o (pw_oc (A 45 j)) := (h.2.1.2.2.2.1 j hj).1
theorem pw_b45 (h : pw_ok A) {j s : Nat} (hj : j < 6) (hs : pw_oc (A 45 j) = some s) : s < pw_n A := (h.2.1.2.2.2.1 j hj).2 s hs
theorem pw_b45k (h : pw_ok A) {j s : Nat} (hj : j < 6) (hs : pw_oc (A 45 j) = some s) : j < pw_k A := by
  rcases Nat.lt_or_ge j (pw_k A) with q | q
  · exact q
  · rw [h.2.1.2.2.2.2.1 j hj q] at hs; cases hs
theorem pw_b45i (h : pw_ok A) {i j s : Nat} (hi : i < 6) (hj : j < 6) (h1 : pw_oc (A 45 i) = some s) (h2 : pw_oc (A 45 j) = some s) : i = j := h.2.1.2.2.2.2.2 i j s hi hj h1 h2
end PWQ
/-! the plain functions -/
def pw_fitB (nk nn kd hs rn : Nat) : Bool := if nk = 4 then false else if kd = 2 then true else if nk = 1 then decide (nn ≤ rn) else if nk = 2 then decide (rn ≤ nn) else if nk = 3 then decide (hs = nn) else true
def pw_fit (A : pw_m) (k rn s : Nat) : Bool := pw_fitB (pw_g A 5 s) (pw_g A 6 s) (pw_g A 7 k) (pw_g A 9 k) rn
def pw_fnow (A : pw_m) (k s : Nat) : Bool := pw_fit A k (pw_g A 43 k) s
def pw_per (n st sp day : Nat) : Option Nat := if n = 0 then none else some ((st + sp * day) % n)
def pw_pon (A : pw_m) : Option Nat := pw_per (pw_n A) (pw_g A 4 8) (pw_g A 4 9) (pw_g A 42 0)
def pw_pl (A : pw_m) (j : Nat) : Option Nat := pw_oc (A 45 j)
def pw_inp (A : pw_m) (k s : Nat) : Bool := decide (pw_pon A = some s) && (!decide (pw_mt A = some k) && !decide (pw_g A 7 k = 1))
def pw_wr (A : pw_m) (j : Nat) : Bool := match pw_pl A j with
  | none => false
  | some s => !pw_fnow A j s || pw_inp A j s
def pw_wrs (A : pw_m) : Nat := pw_ob (pw_wr A) (pw_k A)
def pw_si (A : pw_m) (s : Nat) : Option Nat := pw_ff (fun j => decide (pw_pl A j = some s)) 6
def pw_sb (A : pw_m) : Nat := pw_ob (fun j => (pw_pl A j).isSome) 6
def pw_bh (n s : Nat) : Nat := if s + 1 < n then s + 1 else 0
def pw_ah (n s : Nat) : Nat := if 0 < s then s - 1 else n - 1
/-- is one, by its number, an enemy of another -/
def pw_en (A : pw_m) (i : Nat) (q : Option Nat) : Bool := match q with
  | none => false
  | some k => (pw_g A 10 i).testBit k
theorem pw_bh_lt {n s : Nat} (h : s < n) : pw_bh n s < n := by unfold pw_bh; split <;> omega
theorem pw_ah_lt {n s : Nat} (h : s < n) : pw_ah n s < n := by unfold pw_ah; split <;> omega
theorem pw_si_lt {A : pw_m} {s j : Nat} (h : pw_si A s = some j) : j < 6 := (pw_ff_s h).1
theorem pw_pon_lt {A : pw_m} {s : Nat} (h : pw_pon A = some s) : s < pw_n A := by
  unfold pw_pon pw_per at h
  split at h
  · cases h
  · cases h; exact Nat.mod_lt _ (by omega)
/-! branches on a number or none -/
def pw_inr (s : Int32) (n : Nat) : Bool := !decide (s < 0) && decide (s < nI n)
theorem pw_inr_t {s : Int32} {n : Nat} (hn : n < 2 ^ 31) (h : pw_inr s n = true) : ∃ j : Nat, j < n ∧ s = nI j := by
  unfold pw_inr at h
  rw [Bool.and_eq_true] at h
  have h1 : ¬ s < 0 := by simpa using h.1
  obtain ⟨j, hj, e⟩ := nI_of h1
  subst e
  exact ⟨j, (nI_ltI hj hn).mp (of_decide_eq_true h.2), rfl⟩
theorem pw_inr_nI {j n : Nat} (hj : j < 2 ^ 31) (hn : n < 2 ^ 31) : pw_inr (nI j) n = decide (j < n) := by
  unfold pw_inr
  have h1 := nI_pos hj
  have h2 := nI_ltI hj hn
  by_cases q : j < n
  · simp [h1, q, h2.mpr q]
  · simp [q]
    exact fun _ => nI_le (by omega) hj
section PWOO
variable {x : pw_X} {M : pw_M} {d : Nat} {Z : State → Prop} {pc tgt : Nat} {off : Int} {lv : List (Nat × Value)} {r : List Value} {mm : pw_m}
theorem pw_on_eq {a : Option Nat} {b : Nat} (hd : decode M.2.1 pc = .ok (.if_icmp .eq off, 3)) (ht : (pc : Int) + off = (tgt : Int)) (ha : ∀ c, a = some c → c < 2 ^ 31) (hb : b < 2 ^ 31) (kt : a = some b → pw_V x M d Z tgt lv r mm) (kf : ¬ a = some b → pw_V x M d Z (pc + 3) lv r mm) : pw_V x M d Z pc lv (.int (nI b) :: .int (pw_o a) :: r) mm :=
  pw_ic_eq hd ht (fun h => kt ((pw_o_some ha hb).mp h)) (fun h => kf (fun e => h ((pw_o_some ha hb).mpr e)))
theorem pw_on_ne {a : Option Nat} {b : Nat} (hd : decode M.2.1 pc = .ok (.if_icmp .ne off, 3)) (ht : (pc : Int) + off = (tgt : Int)) (ha : ∀ c, a = some c → c < 2 ^ 31) (hb : b < 2 ^ 31) (kt : ¬ a = some b → pw_V x M d Z tgt lv r mm) (kf : a = some b → pw_V x M d Z (pc + 3) lv r mm) : pw_V x M d Z pc lv (.int (nI b) :: .int (pw_o a) :: r) mm :=
  pw_ic_ne hd ht (fun h => kt (fun e => h ((pw_o_some ha hb).mpr e))) (fun h => kf ((pw_o_some ha hb).mp h))
theorem pw_no_eq {a : Option Nat} {b : Nat} (hd : decode M.2.1 pc = .ok (.if_icmp .eq off, 3)) (ht : (pc : Int) + off = (tgt : Int)) (hb : b < 2 ^ 31) (ha : ∀ c, a = some c → c < 2 ^ 31) (kt : a = some b → pw_V x M d Z tgt lv r mm) (kf : ¬ a = some b → pw_V x M d Z (pc + 3) lv r mm) : pw_V x M d Z pc lv (.int (pw_o a) :: .int (nI b) :: r) mm :=
  pw_ic_eq hd ht (fun h => kt ((pw_o_some ha hb).mp h.symm)) (fun h => kf (fun e => h ((pw_o_some ha hb).mpr e).symm))
theorem pw_no_ne {a : Option Nat} {b : Nat} (hd : decode M.2.1 pc = .ok (.if_icmp .ne off, 3)) (ht : (pc : Int) + off = (tgt : Int)) (hb : b < 2 ^ 31) (ha : ∀ c, a = some c → c < 2 ^ 31) (kt : ¬ a = some b → pw_V x M d Z tgt lv r mm) (kf : a = some b → pw_V x M d Z (pc + 3) lv r mm) : pw_V x M d Z pc lv (.int (pw_o a) :: .int (nI b) :: r) mm :=
  pw_ic_ne hd ht (fun h => kt (fun e => h ((pw_o_some ha hb).mpr e).symm)) (fun h => kf ((pw_o_some ha hb).mp h.symm))
theorem pw_oo_eq {a b : Option Nat} (hd : decode M.2.1 pc = .ok (.if_icmp .eq off, 3)) (ht : (pc : Int) + off = (tgt : Int)) (ha : ∀ c, a = some c → c < 2 ^ 31) (hb : ∀ c, b = some c → c < 2 ^ 31) (kt : a = b → pw_V x M d Z tgt lv r mm) (kf : ¬ a = b → pw_V x M d Z (pc + 3) lv r mm) : pw_V x M d Z pc lv (.int (pw_o b) :: .int (pw_o a) :: r) mm :=
  pw_ic_eq hd ht (fun h => kt ((pw_o_inj ha hb).mp h)) (fun h => kf (fun e => h ((pw_o_inj ha hb).mpr e)))
theorem pw_oo_ne {a b : Option Nat} (hd : decode M.2.1 pc = .ok (.if_icmp .ne off, 3)) (ht : (pc : Int) + off = (tgt : Int)) (ha : ∀ c, a = some c → c < 2 ^ 31) (hb : ∀ c, b = some c → c < 2 ^ 31) (kt : ¬ a = b → pw_V x M d Z tgt lv r mm) (kf : a = b → pw_V x M d Z (pc + 3) lv r mm) : pw_V x M d Z pc lv (.int (pw_o b) :: .int (pw_o a) :: r) mm :=
  pw_ic_ne hd ht (fun h => kt (fun e => h ((pw_o_inj ha hb).mpr e))) (fun h => kf ((pw_o_inj ha hb).mp h))
end PWOO
