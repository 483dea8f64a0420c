/-! quests by sets, quests by numbers -/
theorem pw_sm_by {g h : Nat → Nat} {N M : Nat} (hM : ∀ x, x < N → h x < M) : pw_sm (fun x => g (h x)) N = pw_sm (fun d => pw_ct_ (fun x => decide (h x = d)) N * g d) M := by
  have e1 : ∀ x, x < N → g (h x) = pw_sm (fun d => if h x = d then g d else 0) M := fun x hx => by
    rw [pw_sm_one (z := h x) (hM x hx) (fun d _ hd => if_neg (fun z => hd z.symm)), if_pos rfl]
  rw [pw_sm_congr e1, pw_sm_swap]
  refine pw_sm_congr (fun d _ => ?_)
  clear e1 hM
  induction N with
  | zero => rw [pw_sm, pw_ct_, Nat.zero_mul]
  | succ N ih =>
    rw [pw_sm, ih, pw_ct_]
    by_cases q : h N = d
    · rw [if_pos q, decide_eq_true q, if_pos rfl, Nat.add_mul, Nat.one_mul]
    · rw [if_neg q, decide_eq_false q]; simp
theorem pw_ch_ct : ∀ n, n < 9 → ∀ d, d < n + 1 → pw_ct_ (fun x => decide (pw_pc x = d)) (2 ^ n) = pw_ch n d := by decide +kernel
def pw_gq (A : pw_m) (k s n p d : Nat) : Nat := if pw_fit A k (min 9 (pw_g A 43 k + d)) s = true then p ^ d * (10 - p) ^ (n - d) else 0
def pw_pv (p x : Nat) : Nat → Nat
  | 0 => 1
  | i + 1 => pw_pv p x i * (if x.testBit i = true then p else 10 - p)
theorem pw_pv_e {p x : Nat} : ∀ i, pw_pv p x i = p ^ pw_ct_ (fun j => x.testBit j) i * (10 - p) ^ (i - pw_ct_ (fun j => x.testBit j) i) := by
  intro i
  induction i with
  | zero => rfl
  | succ i ih =>
    have hle : pw_ct_ (fun j => x.testBit j) i ≤ i := pw_ct_le
    rw [pw_pv, ih, pw_ct_]
    by_cases q : x.testBit i = true
    · rw [if_pos q, if_pos q, Nat.pow_succ, show i + 1 - (pw_ct_ (fun j => x.testBit j) i + 1) = i - pw_ct_ (fun j => x.testBit j) i by omega]
      rw [Nat.mul_assoc, Nat.mul_comm ((10 - p) ^ _) p, ← Nat.mul_assoc]
    · rw [if_neg q, if_neg q, Nat.add_zero, show i + 1 - pw_ct_ (fun j => x.testBit j) i = (i - pw_ct_ (fun j => x.testBit j) i) + 1 by omega, Nat.pow_succ, Nat.mul_assoc]
theorem pw_pv_n {p x n : Nat} (hx : x < 2 ^ n) (hn : n ≤ 8) : pw_pv p x n = p ^ pw_pc x * (10 - p) ^ (n - pw_pc x) := by
  rw [pw_pv_e]
  unfold pw_pc
  rw [pw_ct_up hx hn]
theorem pw_pc_n {x n : Nat} (hx : x < 2 ^ n) (hn : n ≤ 8) : pw_pc x < n + 1 := by
  unfold pw_pc
  rw [pw_ct_up hx hn]
  exact Nat.lt_succ_of_le pw_ct_le
theorem pw_ab_m {A : pw_m} {k s n p : Nat} (hn : n < 9) : pw_sm (fun x => pw_gq A k s n p (pw_pc x)) (2 ^ n) = pw_ab A k s n p (n + 1) := by
  rw [pw_sm_by (M := n + 1) (fun x hx => pw_pc_n hx (by omega))]
  have e : ∀ d, d < n + 1 → pw_ct_ (fun x => decide (pw_pc x = d)) (2 ^ n) * pw_gq A k s n p d = if pw_fit A k (min 9 (pw_g A 43 k + d)) s = true then pw_wt n p d else 0 := fun d hd => by
    rw [pw_ch_ct n hn d hd]
    unfold pw_gq pw_wt
    split
    · rw [Nat.mul_assoc]
    · rw [Nat.mul_zero]
  rw [pw_sm_congr e]
  clear e
  generalize n + 1 = m
  induction m with
  | zero => rfl
  | succ m ih => rw [pw_sm, ih, pw_ab]
theorem pw_lcle {a : Nat} (ha : a < 2 ^ 63) : lg_cmp (lN a) (0 : Int64) ≤ 0 ↔ a = 0 := by
  rcases Nat.eq_zero_or_pos a with q | q
  · subst q; decide
  · have h1 := (pk_lLT (a := 0) (b := a) (by omega) ha).mpr q
    have e : lg_cmp (lN a) (0 : Int64) = 1 := by
      have e0 : (0 : Int64) = lN 0 := rfl
      have h2 : ¬ lN a < lN 0 := fun z => absurd ((pk_lLT ha (by omega)).mp z) (by omega)
      rw [e0]
      unfold lg_cmp
      simp [h1, h2]
    rw [e]
    exact ⟨fun z => absurd z (by decide), fun z => by omega⟩
