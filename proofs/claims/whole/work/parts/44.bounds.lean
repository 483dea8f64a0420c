theorem pw_skF_b {A : pw_m} : ∀ f i, i ≤ pw_skF A f i ∧ pw_skF A f i ≤ i + f := by
  intro f
  induction f with
  | zero => intro i; exact ⟨Nat.le_refl _, Nat.le_refl _⟩
  | succ f ih =>
    intro i
    rw [pw_skF]
    split
    · have := ih (i + 1); omega
    · omega
theorem pw_rnF_b {A : pw_m} {t : Int32} : ∀ f i, i ≤ pw_rnF A t f i ∧ pw_rnF A t f i ≤ i + f := by
  intro f
  induction f with
  | zero => intro i; exact ⟨Nat.le_refl _, Nat.le_refl _⟩
  | succ f ih =>
    intro i
    rw [pw_rnF]
    split
    · have := ih (i + 1); omega
    · omega
theorem pw_sk_b {A : pw_m} {i : Nat} (h : i ≤ pw_g A 2 1) : i ≤ pw_sk A i ∧ pw_sk A i ≤ pw_g A 2 1 := by
  have := pw_skF_b (A := A) (pw_g A 2 1 - i) i
  unfold pw_sk; omega
theorem pw_rn_b {A : pw_m} {t : Int32} {i : Nat} (h : i ≤ pw_g A 2 1) : i ≤ pw_rn A t i ∧ pw_rn A t i ≤ pw_g A 2 1 := by
  have := pw_rnF_b (A := A) (t := t) (pw_g A 2 1 - i) i
  unfold pw_rn; split <;> omega
