/-! sums, and pairs counted from either side -/
theorem pw_sm_zero {f : Nat → Nat} {n : Nat} (h : ∀ s, s < n → f s = 0) : pw_sm f n = 0 := by
  induction n with
  | zero => rfl
  | succ n ih => rw [pw_sm, ih (fun s hs => h s (by omega)), h n (by omega)]
theorem pw_sm_one {f : Nat → Nat} {n z : Nat} (hz : z < n) (h : ∀ s, s < n → s ≠ z → f s = 0) : pw_sm f n = f z := by
  induction n with
  | zero => omega
  | succ n ih =>
    rw [pw_sm]
    by_cases q : z = n
    · subst q
      rw [pw_sm_zero (fun s hs => h s (by omega) (by omega)), Nat.zero_add]
    · rw [ih (by omega) (fun s hs hn => h s (by omega) hn), h n (by omega) (fun e => q e.symm), Nat.add_zero]
theorem pw_sm_add {f g : Nat → Nat} {n : Nat} : pw_sm (fun s => f s + g s) n = pw_sm f n + pw_sm g n := by
  induction n with
  | zero => rfl
  | succ n ih => rw [pw_sm, pw_sm, pw_sm, ih]; omega
theorem pw_sm_swap {f : Nat → Nat → Nat} {m n : Nat} : pw_sm (fun i => pw_sm (fun s => f i s) n) m = pw_sm (fun s => pw_sm (fun i => f i s) m) n := by
  induction m with
  | zero => rw [pw_sm]; exact (pw_sm_zero (fun s _ => rfl)).symm
  | succ m ih =>
    rw [pw_sm, ih, ← pw_sm_add]
    rfl
theorem pw_ct_sm {p : Nat → Bool} {n : Nat} : pw_ct_ p n = pw_sm (fun i => if p i = true then 1 else 0) n := by
  induction n with
  | zero => rfl
  | succ n ih => rw [pw_ct_, pw_sm, ih]
/-- who sits where, counted by who or by where -/
theorem pw_ct_bij {pl si : Nat → Option Nat} {Q : Nat → Nat → Bool} {k n : Nat} (h1 : ∀ i s, i < k → s < n → (pl i = some s ↔ si s = some i)) (h2 : ∀ i s, i < k → pl i = some s → s < n) (h3 : ∀ s i, s < n → si s = some i → i < k) : pw_ct_ (fun i => (pl i).any (Q i)) k = pw_ct_ (fun s => (si s).any (fun i => Q i s)) n := by
  rw [pw_ct_sm, pw_ct_sm]
  have e1 : ∀ i, i < k → (if (pl i).any (Q i) = true then 1 else 0) = pw_sm (fun s => if pl i = some s ∧ Q i s = true then 1 else 0) n := by
    intro i hi
    cases hp : pl i with
    | none =>
      rw [pw_sm_zero (fun s _ => if_neg (fun z => by cases z.1))]
      rfl
    | some s =>
      have hs := h2 i s hi hp
      rw [pw_sm_one (z := s) hs (fun t _ ht => if_neg (fun z => ht (Option.some.inj z.1).symm))]
      by_cases hQ : Q i s = true
      · rw [if_pos (show (some s).any (Q i) = true from hQ), if_pos ⟨rfl, hQ⟩]
      · rw [if_neg (show ¬ (some s).any (Q i) = true from hQ), if_neg (fun z => hQ z.2)]
  have e2 : ∀ s, s < n → (if (si s).any (fun i => Q i s) = true then 1 else 0) = pw_sm (fun i => if pl i = some s ∧ Q i s = true then 1 else 0) k := by
    intro s hs
    cases hp : si s with
    | none =>
      rw [pw_sm_zero (fun i hi => if_neg (fun z => by rw [(h1 i s hi hs).mp z.1] at hp; cases hp))]
      rfl
    | some i =>
      have hi := h3 s i hs hp
      have hpl := (h1 i s hi hs).mpr hp
      rw [pw_sm_one (z := i) hi (fun j hj hn => if_neg (fun z => hn (by have := (h1 j s hj hs).mp z.1; rw [hp] at this; exact (Option.some.inj this).symm)))]
      by_cases hQ : Q i s = true
      · rw [if_pos (show (some i).any (fun i => Q i s) = true from hQ), if_pos ⟨hpl, hQ⟩]
      · rw [if_neg (show ¬ (some i).any (fun i => Q i s) = true from hQ), if_neg (fun z => hQ z.2)]
  rw [pw_sm_congr e1, pw_sm_congr e2, pw_sm_swap]
theorem pw_si_iff {A : pw_m} (h : pw_ok A) {i s : Nat} (hi : i < pw_k A) : pw_pl A i = some s ↔ pw_si A s = some i := by
  have bk := pw_bk h
  constructor
  · intro q
    cases hs : pw_si A s with
    | none => have := pw_ff_n.mp hs i (by omega); rw [q] at this; simp at this
    | some j =>
      obtain ⟨a, b, -⟩ := pw_ff_s hs
      rw [pw_b45i h a (by omega) (of_decide_eq_true b) q]
  · intro q
    exact of_decide_eq_true (pw_ff_s q).2.1
theorem pw_si_k3 {A : pw_m} (h : pw_ok A) {i s : Nat} (q : pw_si A s = some i) : i < pw_k A := pw_b45k h (pw_si_lt q) (of_decide_eq_true (pw_ff_s q).2.1)
def pw_qm (A : pw_m) (i : Nat) : Bool := (pw_pl A i).any (fun s => pw_en A i (pw_si A (pw_bh (pw_n A) s)))
theorem pw_qm_qu {A : pw_m} (h : pw_ok A) : pw_ct_ (pw_qm A) (pw_k A) = pw_ct_ (pw_qu A) (pw_n A) := by
  have bk := pw_bk h
  have e := pw_ct_bij (pl := pw_pl A) (si := pw_si A) (Q := fun i s => pw_en A i (pw_si A (pw_bh (pw_n A) s))) (k := pw_k A) (n := pw_n A) (fun i s hi _ => pw_si_iff h hi) (fun i s hi q => pw_b45 h (by omega) q) (fun s i _ q => pw_si_k3 h q)
  refine Eq.trans ?_ (e.trans ?_)
  · rfl
  · refine pw_ct_congr (fun s _ => ?_)
    unfold pw_qu pw_en2
    cases pw_si A s <;> rfl
theorem pw_ofk_k : ∀ q, q < 4 → ∀ o, o < 3 → pw_ofk pw_k0 4 (nI q) 4 (nI (o + 1)) = decide (q = 0 ∨ q = o + 1 ∨ (q = 1 ∧ o = 2)) := by decide +kernel
theorem pw_ofk_n : ∀ q, q < 6 → ∀ o, o < 5 → pw_ofk pw_k1 6 (nI q) 6 (nI (o + 1)) = decide (q = 0 ∨ q = o + 1 ∨ (q = 1 ∧ 1 ≤ o ∧ o ≤ 2)) := by decide +kernel
theorem pw_in12 : ∀ o, o < 5 → pw_in (nI o) (nI 1) (nI 2) = decide (1 ≤ o ∧ o ≤ 2) := by decide +kernel
/-- the model's frame -/
def pw_mf_ (A B : pw_m) : Prop := ∀ c, (c < 26 ∨ 41 < c) → B c = A c
theorem pw_mf_r {A : pw_m} : pw_mf_ A A := fun _ _ => rfl
theorem pw_mf_u {A B : pw_m} {c k : Nat} {v : Int32} (h : pw_mf_ A B) (hc : 26 ≤ c ∧ c ≤ 41) : pw_mf_ A (pw_up B c k v) := fun d hd => by rw [pw_up_ne (by omega)]; exact h d hd
theorem pw_mf_t {A B C : pw_m} (h : pw_mf_ A B) (h2 : pw_mf_ B C) : pw_mf_ A C := fun d hd => (h2 d hd).trans (h d hd)
