/-! plain facts: numbers, sets of bits, the first and the last -/
theorem fa_and (a b : Nat) : nI a &&& nI b = nI (a &&& b) := by
  apply Int32.toBitVec_inj.mp
  simp [nI, BitVec.ofNat_and]
theorem fa_or (a b : Nat) : nI a ||| nI b = nI (a ||| b) := by
  apply Int32.toBitVec_inj.mp
  simp [nI, BitVec.ofNat_or]
theorem pw_shl1 {i : Nat} (h : i < 31) : nI 1 <<< (nI i &&& 31) = nI (2 ^ i) := by
  have e : (nI i &&& 31).toBitVec.smod 32 = BitVec.ofNat 32 i := by
    revert i; decide
  exact (pk_shlN (n := 1) _ i (by rw [e]; simp; omega) (by have := Nat.pow_lt_pow_right (show 1 < 2 by omega) (show i < 32 by omega); omega)).trans (by rw [Nat.one_mul])
theorem pw_shr {b i : Nat} (hb : b < 2 ^ 31) (h : i < 31) : nI b >>> (nI i &&& 31) = nI (b / 2 ^ i) := by
  have e : (nI i &&& 31).toBitVec.smod 32 = BitVec.ofNat 32 i := by
    revert i; decide
  exact pk_shrN hb _ i (by rw [e]; simp; omega)
theorem pw_n1 {a : Nat} (h : a < 2 ^ 31) : ¬ nI a = -1 := by
  intro q
  have h1 := nI_toInt h
  rw [q] at h1
  exact absurd h1 (by rw [show (-1 : Int32).toInt = -1 from by decide]; omega)
theorem pw_m1_lt {a : Nat} (h : a < 2 ^ 31) : (-1 : Int32) < nI a := by
  rw [Int32.lt_iff_toInt_lt, nI_toInt h, show (-1 : Int32).toInt = -1 from by decide]; omega
/-- the number of an Int32 that is none below 0 -/
def pw_c (v : Int32) : Nat := v.toNatClampNeg
theorem pw_c_nI {a : Nat} (h : a < 2 ^ 31) : pw_c (nI a) = a := nI_clamp h
/-- an Int32 that is a number or -1 -/
def pw_o : Option Nat → Int32
  | none => -1
  | some a => nI a
def pw_oc (v : Int32) : Option Nat := if v = -1 then none else some (pw_c v)
theorem pw_oc_o {q : Option Nat} (h : ∀ a, q = some a → a < 2 ^ 31) : pw_oc (pw_o q) = q := by
  cases q with
  | none => rfl
  | some a => simp [pw_oc, pw_o, pw_n1 (h a rfl), pw_c_nI (h a rfl)]
theorem pw_o_inj {p q : Option Nat} (hp : ∀ a, p = some a → a < 2 ^ 31) (hq : ∀ a, q = some a → a < 2 ^ 31) : pw_o p = pw_o q ↔ p = q := by
  constructor
  · intro h
    rw [← pw_oc_o hp, ← pw_oc_o hq, h]
  · intro h; rw [h]
theorem pw_o_some {p : Option Nat} {a : Nat} (hp : ∀ a, p = some a → a < 2 ^ 31) (ha : a < 2 ^ 31) : pw_o p = nI a ↔ p = some a := pw_o_inj (q := some a) hp (fun b h => by cases h; exact ha)
/-- backwards along a counter -/
theorem pw_dn {P : Nat → Prop} (N : Nat) (h : ∀ i, i ≤ N → (i + 1 ≤ N → P (i + 1)) → P i) : ∀ i, i ≤ N → P i := by
  have key : ∀ n i, i + n = N → P i := by
    intro n
    induction n with
    | zero => intro i hi; exact h i (by omega) (fun q => absurd q (by omega))
    | succ n ih => intro i hi; exact h i (by omega) (fun _ => ih (i + 1) (by omega))
  exact fun i hi => key (N - i) i (by omega)
/-- the first, the last, how many below n are such; which, by bits -/
def pw_ff (p : Nat → Bool) : Nat → Option Nat
  | 0 => none
  | n + 1 => match pw_ff p n with
    | some j => some j
    | none => if p n then some n else none
def pw_lf (p : Nat → Bool) : Nat → Option Nat
  | 0 => none
  | n + 1 => if p n then some n else pw_lf p n
def pw_ob (p : Nat → Bool) : Nat → Nat
  | 0 => 0
  | n + 1 => pw_ob p n ||| (if p n then 2 ^ n else 0)
def pw_ct_ (p : Nat → Bool) : Nat → Nat
  | 0 => 0
  | n + 1 => pw_ct_ p n + (if p n then 1 else 0)
theorem pw_ff_up {p : Nat → Bool} {i n j : Nat} (h : pw_ff p i = some j) (hn : i ≤ n) : pw_ff p n = some j := by
  induction n with
  | zero => have : i = 0 := by omega
            subst this; exact h
  | succ n ih =>
    rcases Nat.lt_or_ge n i with q | q
    · have : i = n + 1 := by omega
      subst this; exact h
    · simp [pw_ff, ih q]
theorem pw_ff_n1 {p : Nat → Bool} {n : Nat} (h : pw_ff p n = none) : ∀ k, k < n → p k = false := by
  induction n with
  | zero => intro k hk; omega
  | succ n ih =>
    intro k hk
    unfold pw_ff at h
    cases hz : pw_ff p n with
    | some _ => rw [hz] at h; cases h
    | none =>
      rw [hz] at h
      dsimp only at h
      rcases Nat.lt_or_ge k n with q | q
      · exact ih hz k q
      · have : k = n := by omega
        subst this
        cases hp : p k with
        | false => rfl
        | true => rw [hp] at h; cases h
theorem pw_ff_s {p : Nat → Bool} {n j : Nat} (h : pw_ff p n = some j) : j < n ∧ p j = true ∧ ∀ k, k < j → p k = false := by
  induction n with
  | zero => cases h
  | succ n ih =>
    unfold pw_ff at h
    cases hq : pw_ff p n with
    | some i =>
      rw [hq] at h
      have e : i = j := Option.some.inj h
      rw [e] at hq
      obtain ⟨a, b, c⟩ := ih hq
      exact ⟨by omega, b, c⟩
    | none =>
      rw [hq] at h
      dsimp only at h
      split at h
      · rename_i hp
        have e : n = j := Option.some.inj h
        rw [← e]
        exact ⟨by omega, hp, pw_ff_n1 hq⟩
      · cases h
theorem pw_ff_n {p : Nat → Bool} {n : Nat} : pw_ff p n = none ↔ ∀ k, k < n → p k = false := by
  induction n with
  | zero => exact ⟨fun _ k hk => absurd hk (by omega), fun _ => rfl⟩
  | succ n ih =>
    unfold pw_ff
    cases hq : pw_ff p n with
    | some i =>
      obtain ⟨a, b, -⟩ := pw_ff_s hq
      refine ⟨fun h => (by cases h), fun h => ?_⟩
      rw [h i (by omega)] at b
      cases b
    | none =>
      have h1 := ih.mp hq
      dsimp only
      constructor
      · intro h k hk
        rcases Nat.lt_or_ge k n with q | q
        · exact h1 k q
        · have : k = n := by omega
          subst this
          cases hp : p k with
          | false => rfl
          | true => rw [hp] at h; cases h
      · intro h
        rw [h n (by omega)]
        rfl
theorem pw_lf_s {p : Nat → Bool} {n j : Nat} (h : pw_lf p n = some j) : j < n ∧ p j = true := by
  induction n with
  | zero => cases h
  | succ n ih =>
    unfold pw_lf at h
    split at h
    · cases h; exact ⟨by omega, by assumption⟩
    · obtain ⟨a, b⟩ := ih h; exact ⟨by omega, b⟩
theorem pw_lf_n {p : Nat → Bool} {n : Nat} : pw_lf p n = none ↔ ∀ k, k < n → p k = false := by
  induction n with
  | zero => exact ⟨fun _ k hk => absurd hk (by omega), fun _ => rfl⟩
  | succ n ih =>
    unfold pw_lf
    constructor
    · intro h k hk
      split at h
      · cases h
      · rename_i hp
        rcases Nat.lt_or_ge k n with q | q
        · exact ih.mp h k q
        · have : k = n := by omega
          subst this
          simpa using hp
    · intro h
      rw [h n (by omega)]
      exact ih.mpr (fun k hk => h k (by omega))
/-- one at most: the first is the last -/
theorem pw_ff_lf {p : Nat → Bool} {n m : Nat} (hm : m ≤ n) (h0 : ∀ k, m ≤ k → k < n → p k = false) (h1 : ∀ i j, i < m → j < m → p i = true → p j = true → i = j) : pw_ff p n = pw_lf p m := by
  cases hq : pw_lf p m with
  | none =>
    rw [pw_ff_n]
    intro k hk
    rcases Nat.lt_or_ge k m with q | q
    · exact pw_lf_n.mp hq k q
    · exact h0 k q hk
  | some j =>
    obtain ⟨a, b⟩ := pw_lf_s hq
    cases hz : pw_ff p n with
    | none => rw [pw_ff_n.mp hz j (by omega)] at b; cases b
    | some i =>
      obtain ⟨c, d, -⟩ := pw_ff_s hz
      have hi : i < m := by
        rcases Nat.lt_or_ge i m with q | q
        · exact q
        · rw [h0 i q c] at d; cases d
      rw [h1 i j hi a d b]
theorem pw_ob_bit {p : Nat → Bool} {n i : Nat} : (pw_ob p n).testBit i = (decide (i < n) && p i) := by
  induction n with
  | zero => simp [pw_ob]
  | succ n ih =>
    simp only [pw_ob, Nat.testBit_or, ih]
    split
    · rename_i hp
      rw [Nat.testBit_two_pow]
      rcases Nat.lt_trichotomy i n with q | q | q
      · simp [q, show i < n + 1 by omega, show ¬ n = i by omega]
      · subst q; simp [hp]
      · simp [show ¬ i < n by omega, show ¬ i < n + 1 by omega, show ¬ n = i by omega]
    · rename_i hp
      rcases Nat.lt_trichotomy i n with q | q | q
      · simp [q, show i < n + 1 by omega]
      · subst q; simp at hp; simp [hp]
      · simp [show ¬ i < n by omega, show ¬ i < n + 1 by omega]
theorem pw_ob_lt {p : Nat → Bool} {n : Nat} : pw_ob p n < 2 ^ n := by
  induction n with
  | zero => simp [pw_ob]
  | succ n ih =>
    have h2 : 2 ^ (n + 1) = 2 ^ n * 2 := Nat.pow_succ 2 n
    simp only [pw_ob]
    split
    · exact Nat.or_lt_two_pow (by omega) (by omega)
    · rw [Nat.or_zero]; omega
theorem pw_ob_lt31 {p : Nat → Bool} {n : Nat} (h : n ≤ 30) : pw_ob p n < 2 ^ 31 := Nat.lt_of_lt_of_le pw_ob_lt (Nat.pow_le_pow_right (by omega) (by omega))
theorem pw_ob_congr {p q : Nat → Bool} {n : Nat} (h : ∀ i, i < n → p i = q i) : pw_ob p n = pw_ob q n := by
  induction n with
  | zero => rfl
  | succ n ih => simp only [pw_ob]; rw [ih (fun i hi => h i (by omega)), h n (by omega)]
theorem pw_ct_congr {p q : Nat → Bool} {n : Nat} (h : ∀ i, i < n → p i = q i) : pw_ct_ p n = pw_ct_ q n := by
  induction n with
  | zero => rfl
  | succ n ih => simp only [pw_ct_]; rw [ih (fun i hi => h i (by omega)), h n (by omega)]
theorem pw_ct_le {p : Nat → Bool} {n : Nat} : pw_ct_ p n ≤ n := by
  induction n with
  | zero => exact Nat.le_refl 0
  | succ n ih => simp only [pw_ct_]; split <;> omega
theorem pw_ff_congr {p q : Nat → Bool} {n : Nat} (h : ∀ i, i < n → p i = q i) : pw_ff p n = pw_ff q n := by
  induction n with
  | zero => rfl
  | succ n ih => simp only [pw_ff]; rw [ih (fun i hi => h i (by omega)), h n (by omega)]
theorem pw_lf_congr {p q : Nat → Bool} {n : Nat} (h : ∀ i, i < n → p i = q i) : pw_lf p n = pw_lf q n := by
  induction n with
  | zero => rfl
  | succ n ih => simp only [pw_lf]; rw [ih (fun i hi => h i (by omega)), h n (by omega)]
/-- the bit test of the class, of the model -/
def pw_hs (b a : Int32) : Bool := !decide ((b >>> (a &&& 31)) &&& nI 1 = 0)
def pw_ht (b a : Int32) : Bool := decide ((b >>> (a &&& 31)) &&& nI 1 = nI 1)
theorem pw_and1 (n : Nat) : nI n &&& nI 1 = nI (n % 2) := by rw [fa_and, Nat.and_one_is_mod]
theorem pw_tb_eq (b i : Nat) : b.testBit i = decide (b / 2 ^ i % 2 = 1) := by
  rw [Nat.testBit_eq_decide_div_mod_eq]
theorem pw_hs_n {b i : Nat} (hb : b < 2 ^ 31) (hi : i < 31) : pw_hs (nI b) (nI i) = b.testBit i := by
  unfold pw_hs
  rw [pw_shr hb hi, pw_and1, pw_tb_eq]
  rcases Nat.mod_two_eq_zero_or_one (b / 2 ^ i) with q | q <;> rw [q] <;> decide
theorem pw_ht_n {b i : Nat} (hb : b < 2 ^ 31) (hi : i < 31) : pw_ht (nI b) (nI i) = b.testBit i := by
  unfold pw_ht
  rw [pw_shr hb hi, pw_and1, pw_tb_eq]
  rcases Nat.mod_two_eq_zero_or_one (b / 2 ^ i) with q | q <;> rw [q] <;> decide
