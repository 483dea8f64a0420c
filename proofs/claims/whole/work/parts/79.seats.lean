/-! all seatings, one behind another -/
def pw_lsG {α : Type} (g : Nat → List α) : Nat → Nat → List α
  | 0, _ => []
  | f + 1, s => g s ++ pw_lsG g f (s + 1)
def pw_L (n kn th : Nat) (gd en : Nat → Nat) : Nat → (Nat → Nat) → Nat → List (Nat → Nat)
  | 0, pl, _ => [pl]
  | f + 1, pl, us => if th.testBit (kn - (f + 1)) = true then pw_lsG (fun s => if (pw_frI n th (gd (kn - (f + 1))) (en (kn - (f + 1))) pl us (kn - (f + 1))).testBit s = true then pw_L n kn th gd en f (pw_ns pl (kn - (f + 1)) s) (us ||| 2 ^ s) else []) n 0 else pw_L n kn th gd en f pl us
def pw_sg (th : Nat) (pl : Nat → Nat) (i : Nat) : Nat → Option Nat := fun j => if j < i ∧ th.testBit j = true then some (pl j) else none
def pw_SA (A : pw_m) (pl : Nat → Nat) (i : Nat) : Nat → Option Nat := pw_sg (pw_g A 42 1) pl i
def pw_LA (A : pw_m) (q : Option Nat) (f : Nat) (pl : Nat → Nat) (us : Nat) : List (Nat → Nat) := pw_L (pw_n A) (pw_k A) (pw_g A 42 1) (pw_gd A q) (fun k => pw_g A 10 k) f pl us
def pw_frA (A : pw_m) (q : Option Nat) (k : Nat) (pl : Nat → Nat) (us : Nat) : Nat := pw_frI (pw_n A) (pw_g A 42 1) (pw_gd A q k) (pw_g A 10 k) pl us k
def pw_gL (A : pw_m) (q : Option Nat) (f k : Nat) (pl : Nat → Nat) (us s : Nat) : List (Nat → Nat) := if (pw_frA A q k pl us).testBit s = true then pw_LA A q f (pw_ns pl k s) (us ||| 2 ^ s) else []
theorem pw_LA_t {A : pw_m} {q : Option Nat} {f k us : Nat} {pl : Nat → Nat} (hk : k + (f + 1) = pw_k A) (ht : (pw_g A 42 1).testBit k = true) : pw_LA A q (f + 1) pl us = pw_lsG (pw_gL A q f k pl us) (pw_n A) 0 := by
  have e : pw_k A - (f + 1) = k := by omega
  unfold pw_LA
  rw [pw_L, e, if_pos ht]
  rfl
theorem pw_LA_n {A : pw_m} {q : Option Nat} {f k us : Nat} {pl : Nat → Nat} (hk : k + (f + 1) = pw_k A) (ht : (pw_g A 42 1).testBit k = false) : pw_LA A q (f + 1) pl us = pw_LA A q f pl us := by
  have e : pw_k A - (f + 1) = k := by omega
  unfold pw_LA
  rw [pw_L, e, if_neg (by rw [ht]; decide)]
theorem pw_LA_0 {A : pw_m} {q : Option Nat} {us : Nat} {pl : Nat → Nat} : pw_LA A q 0 pl us = [pl] := rfl
theorem pw_LA_skip {A : pw_m} {q : Option Nat} {us : Nat} {pl : Nat → Nat} : ∀ d k, k + d ≤ pw_k A → (∀ j, k ≤ j → j < k + d → (pw_g A 42 1).testBit j = false) → pw_LA A q (pw_k A - k) pl us = pw_LA A q (pw_k A - (k + d)) pl us := by
  intro d
  induction d with
  | zero => intro k _ _; rfl
  | succ d ih =>
    intro k hk h
    rw [show pw_k A - k = (pw_k A - (k + 1)) + 1 by omega, pw_LA_n (k := k) (by omega) (h k (by omega) (by omega)), ih (k + 1) (by omega) (fun j h1 h2 => h j (by omega) (by omega)), show k + 1 + d = k + (d + 1) by omega]
/-- those placed so far sit apart -/
def pw_PI (A : pw_m) (pl : Nat → Nat) (k us : Nat) : Prop := (∀ j, j < k → (pw_g A 42 1).testBit j = true → pl j < pw_n A) ∧ (∀ i j, i < k → j < k → (pw_g A 42 1).testBit i = true → (pw_g A 42 1).testBit j = true → pl i = pl j → i = j) ∧ ∀ s, us.testBit s = true ↔ ∃ j, j < k ∧ (pw_g A 42 1).testBit j = true ∧ pl j = s
theorem pw_PI_0 {A : pw_m} {pl : Nat → Nat} : pw_PI A pl 0 0 := ⟨fun j h => by omega, fun i j h => by omega, fun s => by rw [Nat.zero_testBit]; exact ⟨fun z => (by cases z), fun ⟨j, h, _⟩ => by omega⟩⟩
theorem pw_PI_skip {A : pw_m} {pl : Nat → Nat} {k k' us : Nat} (h : pw_PI A pl k us) (hk : k ≤ k') (h0 : ∀ j, k ≤ j → j < k' → (pw_g A 42 1).testBit j = false) : pw_PI A pl k' us := by
  have hj : ∀ j, j < k' → (pw_g A 42 1).testBit j = true → j < k := fun j h1 h2 => by
    rcases Nat.lt_or_ge j k with q | q
    · exact q
    · rw [h0 j q h1] at h2; cases h2
  refine ⟨fun j h1 h2 => h.1 j (hj j h1 h2) h2, fun i j h1 h2 h3 h4 h5 => h.2.1 i j (hj i h1 h3) (hj j h2 h4) h3 h4 h5, fun s => ?_⟩
  rw [h.2.2 s]
  exact ⟨fun ⟨j, q1, q2, q3⟩ => ⟨j, by omega, q2, q3⟩, fun ⟨j, q1, q2, q3⟩ => ⟨j, hj j q1 q2, q2, q3⟩⟩
theorem pw_PI_put {A : pw_m} {pl : Nat → Nat} {k us s : Nat} (h : pw_PI A pl k us) (hs : s < pw_n A) (hu : us.testBit s = false) (ht : (pw_g A 42 1).testBit k = true) : pw_PI A (pw_ns pl k s) (k + 1) (us ||| 2 ^ s) := by
  have e : ∀ j, j ≠ k → pw_ns pl k s j = pl j := fun j hj => by unfold pw_ns; rw [if_neg hj]
  have ek : pw_ns pl k s k = s := by unfold pw_ns; rw [if_pos rfl]
  have hn : ∀ j, j < k → (pw_g A 42 1).testBit j = true → pl j ≠ s := fun j h1 h2 h3 => by
    have := (h.2.2 s).mpr ⟨j, h1, h2, h3⟩
    rw [hu] at this; cases this
  refine ⟨fun j h1 h2 => ?_, fun i j h1 h2 h3 h4 h5 => ?_, fun t => ?_⟩
  · by_cases q : j = k
    · subst q; rw [ek]; exact hs
    · rw [e j q]; exact h.1 j (by omega) h2
  · by_cases q : i = k
    · by_cases q2 : j = k
      · omega
      · subst q
        rw [ek, e j q2] at h5
        exact absurd h5.symm (hn j (by omega) h4)
    · by_cases q2 : j = k
      · subst q2
        rw [ek, e i q] at h5
        exact absurd h5 (hn i (by omega) h3)
      · rw [e i q, e j q2] at h5
        exact h.2.1 i j (by omega) (by omega) h3 h4 h5
  · rw [Nat.testBit_or, Nat.testBit_two_pow, Bool.or_eq_true, h.2.2 t]
    constructor
    · intro z
      rcases z with ⟨j, q1, q2, q3⟩ | z
      · exact ⟨j, by omega, q2, by rw [e j (by omega)]; exact q3⟩
      · exact ⟨k, by omega, ht, by rw [ek]; exact of_decide_eq_true z⟩
    · intro ⟨j, q1, q2, q3⟩
      by_cases q : j = k
      · subst q; rw [ek] at q3; exact Or.inr (decide_eq_true q3)
      · rw [e j q] at q3; exact Or.inl ⟨j, by omega, q2, q3⟩
theorem pw_SA_some {A : pw_m} {pl : Nat → Nat} {i j s : Nat} : pw_SA A pl i j = some s ↔ j < i ∧ (pw_g A 42 1).testBit j = true ∧ pl j = s := by
  unfold pw_SA pw_sg
  by_cases h : j < i ∧ (pw_g A 42 1).testBit j = true
  · rw [if_pos h]; exact ⟨fun z => ⟨h.1, h.2, Option.some.inj z⟩, fun z => by rw [z.2.2]⟩
  · rw [if_neg h]; exact ⟨fun z => (by cases z), fun z => absurd ⟨z.1, z.2.1⟩ h⟩
theorem pw_SA_skip {A : pw_m} {pl : Nat → Nat} {k k' : Nat} (hk : k ≤ k') (h0 : ∀ j, k ≤ j → j < k' → (pw_g A 42 1).testBit j = false) : pw_SA A pl k = pw_SA A pl k' := by
  funext j
  unfold pw_SA pw_sg
  by_cases q : j < k
  · by_cases z : (pw_g A 42 1).testBit j = true
    · rw [if_pos ⟨q, z⟩, if_pos ⟨by omega, z⟩]
    · rw [if_neg (fun y => z y.2), if_neg (fun y => z y.2)]
  · rw [if_neg (fun y => q y.1)]
    by_cases q2 : j < k'
    · rw [if_neg (fun y => by rw [h0 j (by omega) q2] at y; cases y.2)]
    · rw [if_neg (fun y => q2 y.1)]
theorem pw_SA_put {A : pw_m} {pl : Nat → Nat} {k s : Nat} (ht : (pw_g A 42 1).testBit k = true) : pw_gs (pw_SA A pl k) k (some s) = pw_SA A (pw_ns pl k s) (k + 1) := by
  funext j
  unfold pw_gs pw_SA pw_sg pw_ns
  by_cases q : j = k
  · subst q; rw [if_pos rfl, if_pos ⟨by omega, ht⟩, if_pos rfl]
  · rw [if_neg q, if_neg q]
    by_cases z : j < k ∧ (pw_g A 42 1).testBit j = true
    · rw [if_pos z, if_pos ⟨by omega, z.2⟩]
    · rw [if_neg z, if_neg (fun y => z ⟨by omega, y.2⟩)]
theorem pw_SA_clr {A : pw_m} {pl : Nat → Nat} {k s : Nat} : pw_gs (pw_SA A (pw_ns pl k s) (k + 1)) k none = pw_SA A pl k := by
  funext j
  unfold pw_gs pw_SA pw_sg pw_ns
  by_cases q : j = k
  · subst q; rw [if_pos rfl, if_neg (by omega)]
  · rw [if_neg q, if_neg q]
    by_cases z : j < k ∧ (pw_g A 42 1).testBit j = true
    · rw [if_pos z, if_pos ⟨by omega, z.2⟩]
    · rw [if_neg z, if_neg (fun y => z ⟨by omega, y.2⟩)]
theorem pw_SA_clr0 {A : pw_m} {pl : Nat → Nat} {k : Nat} : pw_gs (pw_SA A pl k) k none = pw_SA A pl k := by
  funext j
  unfold pw_gs pw_SA pw_sg
  by_cases q : j = k
  · subst q; rw [if_pos rfl, if_neg (by omega)]
  · rw [if_neg q]
theorem pw_SA_k {A : pw_m} {pl : Nat → Nat} {k : Nat} : pw_SA A pl k k = none := by unfold pw_SA pw_sg; rw [if_neg (by omega)]
theorem pw_SA_ks {A : pw_m} {pl : Nat → Nat} {k s : Nat} (ht : (pw_g A 42 1).testBit k = true) : pw_SA A (pw_ns pl k s) (k + 1) k = some s := by unfold pw_SA pw_sg pw_ns; rw [if_pos ⟨by omega, ht⟩, if_pos rfl]
/-- the next upwards, the next downwards -/
theorem pw_nf_spec {th kn : Nat} : ∀ f k, k + f = kn → k ≤ pw_nf th kn k ∧ pw_nf th kn k ≤ kn ∧ (∀ j, k ≤ j → j < pw_nf th kn k → th.testBit j = false) ∧ (pw_nf th kn k < kn → th.testBit (pw_nf th kn k) = true) := by
  intro f
  induction f with
  | zero =>
    intro k hk
    rw [pw_nf_e (by omega)]
    exact ⟨Nat.le_refl _, by omega, fun j h1 h2 => by omega, fun h => by omega⟩
  | succ f ih =>
    intro k hk
    cases ht : th.testBit k with
    | true =>
      rw [pw_nf_t (by omega) ht]
      exact ⟨Nat.le_refl _, by omega, fun j h1 h2 => by omega, fun _ => ht⟩
    | false =>
      rw [pw_nf_s (by omega) ht]
      obtain ⟨a, b, c, d⟩ := ih (k + 1) (by omega)
      refine ⟨by omega, b, fun j h1 h2 => ?_, d⟩
      by_cases q : j = k
      · subst q; exact ht
      · exact c j (by omega) h2
theorem pw_lf_at {p : Nat → Bool} {k : Nat} (hk : p k = true) : ∀ d, (∀ j, k < j → j < k + 1 + d → p j = false) → pw_lf p (k + 1 + d) = some k := by
  intro d
  induction d with
  | zero => intro _; rw [Nat.add_zero, pw_lf, if_pos hk]
  | succ d ih =>
    intro h
    rw [show k + 1 + (d + 1) = (k + 1 + d) + 1 by omega, pw_lf, if_neg (by rw [h (k + 1 + d) (by omega) (by omega)]; decide)]
    exact ih (fun j h1 h2 => h j h1 (by omega))
/-- found so far, with all of a row of seatings more -/
def pw_acc (A : pw_m) (w : Nat) (a : pw_ac) (l : List (Nat → Nat)) : pw_ac := l.foldl (fun a p => pw_fin A w (pw_SA A p (pw_k A)) a) a
theorem pw_acc_a {A : pw_m} {w : Nat} {a : pw_ac} {l l' : List (Nat → Nat)} : pw_acc A w a (l ++ l') = pw_acc A w (pw_acc A w a l) l' := by unfold pw_acc; rw [List.foldl_append]
def pw_ab_ (a : pw_ac) (N : Nat) : Prop := a.1 + N ≤ 262144 ∧ a.2.1 ≤ 6 ∧ a.2.2.1 ≤ 6
theorem pw_fin_b {A : pw_m} {w : Nat} {g : Nat → Option Nat} {a : pw_ac} {N : Nat} (hk : pw_k A ≤ 6) (h : pw_ab_ a (N + 1)) : pw_ab_ (pw_fin A w g a) N := by
  have h1 : pw_mvd A g (pw_k A) ≤ pw_k A := pw_ct_le
  have h2 : pw_knw A w g (pw_k A) ≤ pw_k A := pw_ct_le
  obtain ⟨a1, a2, a3⟩ := h
  unfold pw_fin pw_ab_
  dsimp only
  refine ⟨by omega, ?_, ?_⟩
  · split <;> omega
  · split <;> omega
theorem pw_acc_b {A : pw_m} {w : Nat} (hk : pw_k A ≤ 6) : ∀ (l : List (Nat → Nat)) (a : pw_ac) (N : Nat), pw_ab_ a (l.length + N) → pw_ab_ (pw_acc A w a l) N := by
  intro l
  induction l with
  | nil => intro a N h; rw [List.length_nil, Nat.zero_add] at h; exact h
  | cons p l ih =>
    intro a N h
    unfold pw_acc
    rw [List.foldl_cons]
    exact ih _ N (pw_fin_b hk (by rw [List.length_cons] at h; rw [show l.length + N + 1 = l.length + 1 + N by omega]; exact h))
theorem pw_lsG_len {α : Type} {g : Nat → List α} {c : Nat} (h : ∀ s, (g s).length ≤ c) : ∀ f s, (pw_lsG g f s).length ≤ f * c := by
  intro f
  induction f with
  | zero => intro s; rw [Nat.zero_mul]; exact Nat.le_refl 0
  | succ f ih =>
    intro s
    rw [pw_lsG, List.length_append, Nat.succ_mul]
    have := ih (s + 1)
    have := h s
    omega
theorem pw_LA_len {A : pw_m} {q : Option Nat} (hn : pw_n A ≤ 8) : ∀ f pl us, f ≤ pw_k A → (pw_LA A q f pl us).length ≤ 8 ^ f := by
  intro f
  induction f with
  | zero => intro pl us _; exact Nat.le_refl 1
  | succ f ih =>
    intro pl us hf
    have hp : 8 ^ f ≤ 8 ^ (f + 1) := Nat.pow_le_pow_right (by omega) (by omega)
    cases ht : (pw_g A 42 1).testBit (pw_k A - (f + 1)) with
    | false => rw [pw_LA_n (k := pw_k A - (f + 1)) (by omega) ht]; exact Nat.le_trans (ih pl us (by omega)) hp
    | true =>
      rw [pw_LA_t (k := pw_k A - (f + 1)) (by omega) ht]
      have h1 := pw_lsG_len (g := pw_gL A q f (pw_k A - (f + 1)) pl us) (c := 8 ^ f) (fun s => by
        unfold pw_gL
        split
        · exact ih _ _ (by omega)
        · exact Nat.zero_le _) (pw_n A) 0
      have h2 : pw_n A * 8 ^ f ≤ 8 * 8 ^ f := Nat.mul_le_mul_right _ hn
      rw [Nat.pow_succ, Nat.mul_comm (8 ^ f) 8]
      omega
/-- free seats by their bits -/
theorem pw_al_t {p : Nat → Bool} {n : Nat} : pw_al p n = true ↔ ∀ i, i < n → p i = true := by
  induction n with
  | zero => exact ⟨fun _ i h => by omega, fun _ => rfl⟩
  | succ n ih =>
    rw [pw_al, Bool.and_eq_true, ih]
    constructor
    · intro ⟨h1, h2⟩ i hi
      by_cases q : i = n
      · subst q; exact h2
      · exact h1 i (by omega)
    · intro h
      exact ⟨fun i hi => h i (by omega), h n (by omega)⟩
theorem pw_frI_bit {n th gd en us : Nat} {pl : Nat → Nat} {s : Nat} : ∀ i, (pw_frI n th gd en pl us i).testBit s = true ↔ gd.testBit s = true ∧ us.testBit s = false ∧ ∀ j, j < i → en.testBit j = true → th.testBit j = true → (pw_bs n (pl j)).testBit s = false := by
  intro i
  induction i with
  | zero =>
    rw [pw_frI, pw_an_bit, Bool.and_eq_true, Bool.not_eq_true']
    exact ⟨fun h => ⟨h.1, h.2, fun j hj => by omega⟩, fun h => ⟨h.1, h.2.1⟩⟩
  | succ i ih =>
    rw [pw_frI]
    by_cases q : (en.testBit i && th.testBit i) = true
    · rw [if_pos q, pw_an_bit, Bool.and_eq_true, Bool.not_eq_true', ih]
      rw [Bool.and_eq_true] at q
      constructor
      · intro ⟨⟨h1, h2, h3⟩, h4⟩
        refine ⟨h1, h2, fun j hj e1 e2 => ?_⟩
        by_cases z : j = i
        · subst z; exact h4
        · exact h3 j (by omega) e1 e2
      · intro ⟨h1, h2, h3⟩
        exact ⟨⟨h1, h2, fun j hj => h3 j (by omega)⟩, h3 i (by omega) q.1 q.2⟩
    · rw [if_neg q, ih]
      constructor
      · intro ⟨h1, h2, h3⟩
        refine ⟨h1, h2, fun j hj e1 e2 => ?_⟩
        by_cases z : j = i
        · subst z; exact absurd (by rw [e1, e2]; rfl) q
        · exact h3 j (by omega) e1 e2
      · intro ⟨h1, h2, h3⟩
        exact ⟨h1, h2, fun j hj => h3 j (by omega)⟩
theorem pw_bs_bit {n p s : Nat} (hp : p < n) (hs : s < n) : (pw_bs n p).testBit s = true ↔ p = pw_ah n s ∨ p = pw_bh n s := by
  unfold pw_bs
  rw [Nat.testBit_or, Nat.testBit_two_pow, Nat.testBit_two_pow, Bool.or_eq_true, decide_eq_true_iff, decide_eq_true_iff]
  unfold pw_bh pw_ah
  constructor
  · intro h
    rcases h with h | h
    · left
      split at h
      · rw [if_pos (by omega)]; omega
      · rw [if_neg (by omega)]; omega
    · right
      split at h
      · rw [if_pos (by omega)]; omega
      · rw [if_neg (by omega)]; omega
  · intro h
    rcases h with h | h
    · left
      split at h
      · rw [if_pos (by omega)]; omega
      · rw [if_neg (by omega)]; omega
    · right
      split at h
      · rw [if_pos (by omega)]; omega
      · rw [if_neg (by omega)]; omega
theorem pw_sby_none {g : Nat → Option Nat} {kn s : Nat} : pw_sby g kn s = none ↔ ∀ j, j < kn → g j ≠ some s := by
  unfold pw_sby
  rw [pw_lf_n]
  exact ⟨fun h j hj => of_decide_eq_false (h j hj), fun h j hj => decide_eq_false (h j hj)⟩
theorem pw_en_sby {A : pw_m} {pl : Nat → Nat} {k us p : Nat} (hk : k ≤ pw_k A) (hP : pw_PI A pl k us) : pw_en A k (pw_sby (pw_SA A pl k) (pw_k A) p) = true ↔ ∃ j, j < k ∧ (pw_g A 42 1).testBit j = true ∧ pl j = p ∧ (pw_g A 10 k).testBit j = true := by
  cases hs : pw_sby (pw_SA A pl k) (pw_k A) p with
  | none =>
    refine ⟨fun z => (by cases z), fun ⟨j, q1, q2, q3, q4⟩ => ?_⟩
    exact absurd (pw_SA_some.mpr ⟨q1, q2, q3⟩) (pw_sby_none.mp hs j (by omega))
  | some j =>
    have h1 := pw_SA_some.mp (of_decide_eq_true (pw_lf_s hs).2)
    refine ⟨fun z => ⟨j, h1.1, h1.2.1, h1.2.2, z⟩, fun ⟨i, q1, q2, q3, q4⟩ => ?_⟩
    have e : i = j := hP.2.1 i j q1 h1.1 q2 h1.2.1 (q3.trans h1.2.2.symm)
    subst e
    exact q4
theorem pw_may_free {A : pw_m} {q : Option Nat} {pl : Nat → Nat} {k us s : Nat} (hk : k < pw_k A) (hs : s < pw_n A) (hP : pw_PI A pl k us) : pw_may A q (pw_SA A pl k) k s = (pw_frA A q k pl us).testBit s := by
  rw [Bool.eq_iff_iff]
  unfold pw_frA
  rw [pw_frI_bit]
  unfold pw_may
  simp only [Bool.and_eq_true, Bool.not_eq_true', Option.isNone_iff_eq_none]
  have hg : (pw_gd A q k).testBit s = ((decide (q = some s) || pw_fnow A k s) && !pw_inp A k s) := by
    unfold pw_gd
    rw [pw_ob_bit, decide_eq_true hs, Bool.true_and]
    rfl
  have hu : pw_sby (pw_SA A pl k) (pw_k A) s = none ↔ us.testBit s = false := by
    rw [pw_sby_none]
    constructor
    · intro h
      cases hq : us.testBit s with
      | false => rfl
      | true =>
        obtain ⟨j, q1, q2, q3⟩ := (hP.2.2 s).mp hq
        exact absurd (pw_SA_some.mpr ⟨q1, q2, q3⟩) (h j (by omega))
    · intro h j hj z
      have := (hP.2.2 s).mpr ⟨j, pw_SA_some.mp z⟩
      rw [h] at this; cases this
  have he : ∀ p, pw_en A k (pw_sby (pw_SA A pl k) (pw_k A) p) = false ↔ ¬ ∃ j, j < k ∧ (pw_g A 42 1).testBit j = true ∧ pl j = p ∧ (pw_g A 10 k).testBit j = true := fun p => by
    rw [← pw_en_sby (by omega) hP, Bool.not_eq_true]
  rw [hu, he, he, hg, Bool.and_eq_true, Bool.not_eq_true']
  constructor
  · intro ⟨h1, h2, h3, h4, h5⟩
    refine ⟨⟨h2, h3⟩, h1, fun j hj e1 e2 => ?_⟩
    cases hb : (pw_bs (pw_n A) (pl j)).testBit s with
    | false => rfl
    | true =>
      rcases (pw_bs_bit (hP.1 j hj e2) hs).mp hb with z | z
      · exact absurd ⟨j, hj, e2, z, e1⟩ h5
      · exact absurd ⟨j, hj, e2, z, e1⟩ h4
  · intro ⟨⟨h2, h3⟩, h1, h6⟩
    refine ⟨h1, h2, h3, fun ⟨j, q1, q2, q3, q4⟩ => ?_, fun ⟨j, q1, q2, q3, q4⟩ => ?_⟩
    · have := h6 j q1 q4 q2
      rw [(pw_bs_bit (hP.1 j q1 q2) hs).mpr (Or.inr q3)] at this; cases this
    · have := h6 j q1 q4 q2
      rw [(pw_bs_bit (hP.1 j q1 q2) hs).mpr (Or.inl q3)] at this; cases this
theorem pw_fr_us {A : pw_m} {q : Option Nat} {pl : Nat → Nat} {k us s : Nat} (h : (pw_frA A q k pl us).testBit s = true) : us.testBit s = false := ((pw_frI_bit k).mp h).2.1
