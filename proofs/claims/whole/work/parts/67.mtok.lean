/-! the model's tokens: letters, sorts, numbers, words -/
def pw_lt_ (A : pw_m) (k : Nat) : Int32 := if k < pw_g A 2 1 then A 3 k else -1
/-- a model's memory holds the text -/
def MX (A m : pw_m) : Prop := m 26 16 = nI (pw_g A 2 1) ∧ ∀ i, i < pw_g A 2 1 → m 35 i = A 3 i
theorem MX.f {A m m' : pw_m} (h : MX A m) (h1 : m' 26 16 = m 26 16) (h2 : m' 35 = m 35) : MX A m' := ⟨h1.trans h.1, fun i hi => by rw [h2]; exact h.2 i hi⟩
theorem MV.x {A m : pw_m} (hv : MV A m) (hok : pw_ok A) : MX A m := ⟨mv_tn hv hok, fun i hi => mv_tl hv hi⟩
def pw_mT (A : pw_m) (e : Nat) : Nat := if pw_tB A e < pw_g A 2 1 then (if F_tk (A 3 (pw_tB A e)) = nI 1 then 1 else if F_tk (A 3 (pw_tB A e)) = nI 2 then 2 else if A 3 (pw_tB A e) = nI 59 then 3 else 4) else 0
def pw_vl (A : pw_m) (b i : Nat) : Int32 := if i ≤ 2 then pw_dg A b i else nI 100
def pw_mV (A : pw_m) (e : Nat) : Int32 := if pw_mT A e = 2 then pw_vl A (pw_tB A e) (pw_tE A e - pw_tB A e) else nI 0
theorem pw_mT_b {A : pw_m} {e : Nat} : pw_mT A e < 5 := by
  unfold pw_mT
  split
  · split
    · omega
    · split
      · omega
      · split <;> omega
  · omega
theorem F_tk_123 (c : Int32) : F_tk c = nI 1 ∨ F_tk c = nI 2 ∨ F_tk c = nI 3 := by
  unfold F_tk
  split
  · exact Or.inl rfl
  · split
    · exact Or.inr (Or.inl rfl)
    · exact Or.inr (Or.inr rfl)
theorem pw_mT1 {A : pw_m} {e : Nat} : pw_mT A e = 1 ↔ pw_tT A e = nI 1 := by
  unfold pw_mT pw_tT
  rw [show pw_tB A e = pw_sk A e from rfl]
  by_cases h : pw_sk A e < pw_g A 2 1
  · rw [if_pos h, if_pos h]
    by_cases h1 : F_tk (A 3 (pw_sk A e)) = nI 1
    · rw [if_pos h1]; exact ⟨fun _ => h1, fun _ => rfl⟩
    · rw [if_neg h1]
      refine ⟨fun z => ?_, fun z => absurd z h1⟩
      split at z
      · omega
      · split at z <;> omega
  · rw [if_neg h, if_neg h]
    exact ⟨fun z => by omega, fun z => absurd z (by decide)⟩
theorem pw_mT2 {A : pw_m} {e : Nat} : pw_mT A e = 2 ↔ pw_tT A e = nI 2 := by
  unfold pw_mT pw_tT
  rw [show pw_tB A e = pw_sk A e from rfl]
  by_cases h : pw_sk A e < pw_g A 2 1
  · rw [if_pos h, if_pos h]
    by_cases h1 : F_tk (A 3 (pw_sk A e)) = nI 1
    · rw [if_pos h1, h1]; exact ⟨fun z => by omega, fun z => absurd z (by decide)⟩
    · rw [if_neg h1]
      by_cases h2 : F_tk (A 3 (pw_sk A e)) = nI 2
      · rw [if_pos h2]; exact ⟨fun _ => h2, fun _ => rfl⟩
      · rw [if_neg h2]
        refine ⟨fun z => ?_, fun z => absurd z h2⟩
        split at z <;> omega
  · rw [if_neg h, if_neg h]
    exact ⟨fun z => by omega, fun z => absurd z (by decide)⟩
theorem pw_mT0 {A : pw_m} {e : Nat} : pw_mT A e = 0 ↔ pw_tT A e = 0 := by
  unfold pw_mT pw_tT
  rw [show pw_tB A e = pw_sk A e from rfl]
  by_cases h : pw_sk A e < pw_g A 2 1
  · rw [if_pos h, if_pos h]
    refine ⟨fun z => ?_, fun z => ?_⟩
    · split at z
      · omega
      · split at z
        · omega
        · split at z <;> omega
    · rcases F_tk_123 (A 3 (pw_sk A e)) with q | q | q <;> rw [q] at z <;> exact absurd z (by decide)
  · rw [if_neg h, if_neg h]
    exact ⟨fun _ => rfl, fun _ => rfl⟩
theorem pw_mT3 {A : pw_m} {e : Nat} : pw_mT A e = 3 ↔ pw_tS A e = true := by
  unfold pw_mT pw_tS pw_tT
  rw [show pw_tB A e = pw_sk A e from rfl]
  by_cases h : pw_sk A e < pw_g A 2 1
  · rw [if_pos h, if_pos h]
    by_cases h1 : F_tk (A 3 (pw_sk A e)) = nI 1
    · rw [if_pos h1, h1]; exact ⟨fun z => by omega, fun z => absurd (of_decide_eq_true z).1 (by decide)⟩
    · rw [if_neg h1]
      by_cases h2 : F_tk (A 3 (pw_sk A e)) = nI 2
      · rw [if_pos h2, h2]; exact ⟨fun z => by omega, fun z => absurd (of_decide_eq_true z).1 (by decide)⟩
      · rw [if_neg h2]
        have h3 : F_tk (A 3 (pw_sk A e)) = nI 3 := by
          rcases F_tk_123 (A 3 (pw_sk A e)) with q | q | q
          · exact absurd q h1
          · exact absurd q h2
          · exact q
        by_cases h4 : A 3 (pw_sk A e) = nI 59
        · rw [if_pos h4]; exact ⟨fun _ => decide_eq_true ⟨h3, h, h4⟩, fun _ => rfl⟩
        · rw [if_neg h4]; exact ⟨fun z => by omega, fun z => absurd (of_decide_eq_true z).2.2 h4⟩
  · rw [if_neg h, if_neg h]
    exact ⟨fun z => by omega, fun z => absurd (of_decide_eq_true z).2.1 h⟩
/-- small letters and figures by their sort -/
theorem pw_small {c : Int32} : pw_in c (nI 97) (nI 122) = decide (F_tk c = nI 1) := by
  unfold pw_in F_tk
  by_cases h : ¬ c < nI 97 ∧ ¬ nI 122 < c
  · rw [if_pos h, decide_eq_true h]; rfl
  · rw [if_neg h, decide_eq_false h]
    split <;> decide
theorem pw_figure {c : Int32} (h1 : ¬ F_tk c = nI 1) : pw_in c (nI 48) (nI 57) = decide (F_tk c = nI 2) := by
  unfold pw_in
  unfold F_tk at h1 ⊢
  by_cases h : ¬ c < nI 97 ∧ ¬ nI 122 < c
  · exact absurd (if_pos h) h1
  · rw [if_neg h]
    by_cases h2 : ¬ c < nI 48 ∧ ¬ nI 57 < c
    · rw [if_pos h2, decide_eq_true h2]; rfl
    · rw [if_neg h2, decide_eq_false h2]; decide
theorem pw_figs {c : Int32} : pw_in c (nI 48) (nI 57) = decide (F_tk c = nI 2) := by
  by_cases h1 : F_tk c = nI 1
  · rw [h1]
    have h : ¬ c < nI 97 ∧ ¬ nI 122 < c := by
      unfold F_tk at h1
      by_cases q : ¬ c < nI 97 ∧ ¬ nI 122 < c
      · exact q
      · rw [if_neg q] at h1
        split at h1 <;> exact absurd h1 (by decide)
    unfold pw_in
    have e : decide (nI 1 = nI 2) = false := by decide
    rw [e]
    refine decide_eq_false (fun z => z.2 ?_)
    have q := h.1
    rw [Int32.lt_iff_toInt_lt] at q ⊢
    rw [nI_toInt (by omega)] at q ⊢
    omega
  · exact pw_figure h1
theorem pw_ltm {A : pw_m} {k : Nat} (h : ¬ k < pw_g A 2 1) : pw_lt_ A k = -1 := by unfold pw_lt_; rw [if_neg h]
theorem pw_ltp {A : pw_m} {k : Nat} (h : k < pw_g A 2 1) : pw_lt_ A k = A 3 k := by unfold pw_lt_; rw [if_pos h]
theorem pw_lt_pos {A : pw_m} (hok : pw_ok A) {k : Nat} (h : k < pw_g A 2 1) : ¬ A 3 k < 0 := by
  rw [(hok.2.2.2.2.2 k h).1]
  exact nI_pos pw_c_lt
theorem F_tkm : F_tk (-1) = nI 3 := by decide
theorem pw_dgs {v c : Int32} : nI 10 * v + c - nI 48 = v * nI 10 + (c - nI 48) := by
  rw [Int32.mul_comm, Int32.sub_eq_add_neg, Int32.sub_eq_add_neg, Int32.add_assoc]
theorem pw_vl_s {A : pw_m} {b i : Nat} (h : i < 2) : nI 10 * pw_vl A b i + A 3 (b + i) - nI 48 = pw_vl A b (i + 1) := by
  unfold pw_vl
  rw [if_pos (by omega), if_pos (by omega), pw_dgs]
  rfl
theorem pw_vl_n {A : pw_m} {b i : Nat} (h : ¬ i < 2) : nI 100 = pw_vl A b (i + 1) := by unfold pw_vl; rw [if_neg (by omega)]
/-- a number in its bounds -/
theorem pw_num_in {A : pw_m} {e lo hi : Nat} (hl : lo < 100) (hh : hi ≤ 100) : (pw_mT A e = 2 ∧ pw_in (pw_mV A e) (nI lo) (nI hi - nI 1) = true) ↔ pw_rgb lo hi (pw_tN A e) = true := by
  unfold pw_tN
  by_cases h2 : pw_tT A e = nI 2
  · have hm := pw_mT2.mpr h2
    have hv : pw_mV A e = pw_vl A (pw_tB A e) (pw_tE A e - pw_tB A e) := by unfold pw_mV; rw [if_pos hm]
    rw [hv]
    by_cases h3 : pw_tE A e - pw_tB A e ≤ 2
    · rw [if_pos ⟨h2, h3⟩]
      unfold pw_vl
      rw [if_pos h3]
      unfold pw_in pw_rgb
      constructor
      · intro ⟨_, q⟩
        exact decide_eq_true ⟨(of_decide_eq_true q).1, Int32.not_lt.mp (of_decide_eq_true q).2⟩
      · intro q
        exact ⟨hm, decide_eq_true ⟨(of_decide_eq_true q).1, Int32.not_lt.mpr (of_decide_eq_true q).2⟩⟩
    · rw [if_neg (fun z => h3 z.2)]
      unfold pw_vl
      rw [if_neg h3]
      constructor
      · intro ⟨_, q⟩
        refine absurd ?_ (of_decide_eq_true q).2
        rw [Int32.lt_iff_toInt_lt, pw_sub1I (by omega), nI_toInt (by omega)]
        omega
      · intro q
        obtain ⟨y, ey, h5, h6⟩ := pw_rgb_t q (by omega) (by omega)
        exact absurd ey.symm (pw_n1 (by omega))
  · rw [if_neg (fun z => h2 z.1)]
    constructor
    · intro ⟨q, _⟩
      exact absurd (pw_mT2.mp q) h2
    · intro q
      obtain ⟨y, ey, h5, h6⟩ := pw_rgb_t q (by omega) (by omega)
      exact absurd ey.symm (pw_n1 (by omega))
theorem pw_num_v {A : pw_m} {e lo hi : Nat} (hl : lo < 100) (hh : hi ≤ 100) (h : pw_rgb lo hi (pw_tN A e) = true) : pw_mV A e = pw_tN A e := by
  have h2 := (pw_num_in hl hh).mpr h
  have h3 := pw_mT2.mp h2.1
  unfold pw_mV
  rw [if_pos h2.1]
  unfold pw_tN at h ⊢
  by_cases q : pw_tE A e - pw_tB A e ≤ 2
  · rw [if_pos ⟨h3, q⟩]; unfold pw_vl; rw [if_pos q]
  · rw [if_neg (fun z => q z.2)] at h
    obtain ⟨y, ey, h5, h6⟩ := pw_rgb_t h (by omega) (by omega)
    exact absurd ey.symm (pw_n1 (by omega))
/-- a word of the table, from its place p on, L letters long -/
theorem pw_wdF_skip {A : pw_m} {b e p L w : Nat} (hL : ∀ m, m < L → pw_k2 (p + m) ≠ nI 46) (hd : pw_k2 (p + L) = nI 46) : ∀ r j f ax, j + r = L → pw_wdF A b e (f + r + 1) (p + j) w ax false = pw_wdF A b e f (p + L + 1) (w + 1) b true := by
  intro r
  induction r with
  | zero =>
    intro j f ax hj
    rw [show j = L by omega, Nat.add_zero, pw_wdF, if_pos hd, if_neg (fun z => by cases z.1)]
  | succ r ih =>
    intro j f ax hj
    rw [show f + (r + 1) + 1 = (f + r + 1) + 1 by omega, pw_wdF, if_neg (hL j (by omega)), if_neg (fun z => by cases z.1), show p + j + 1 = p + (j + 1) by omega]
    exact ih (j + 1) f ax (by omega)
theorem pw_wdF_seg {A : pw_m} {b e p L w : Nat} (hL : ∀ m, m < L → pw_k2 (p + m) ≠ nI 46) (hd : pw_k2 (p + L) = nI 46) : ∀ r j f, j + r = L → b + j ≤ e → (∀ m, m < j → A 3 (b + m) = pw_k2 (p + m)) →
    ((e = b + L ∧ ∀ m, m < L → A 3 (b + m) = pw_k2 (p + m)) → pw_wdF A b e (f + r + 1) (p + j) w (b + j) true = some w) ∧ (¬ (e = b + L ∧ ∀ m, m < L → A 3 (b + m) = pw_k2 (p + m)) → pw_wdF A b e (f + r + 1) (p + j) w (b + j) true = pw_wdF A b e f (p + L + 1) (w + 1) b true) := by
  intro r
  induction r with
  | zero =>
    intro j f hj hb hm
    have ej : j = L := by omega
    subst ej
    rw [Nat.add_zero, pw_wdF, if_pos hd]
    constructor
    · intro h; rw [if_pos ⟨rfl, h.1.symm⟩]
    · intro h; rw [if_neg (fun z => h ⟨z.2.symm, hm⟩)]
  | succ r ih =>
    intro j f hj hb hm
    rw [show f + (r + 1) + 1 = (f + r + 1) + 1 by omega, pw_wdF, if_neg (hL j (by omega))]
    by_cases q : b + j < e ∧ A 3 (b + j) = pw_k2 (p + j)
    · rw [if_pos ⟨rfl, q.1, q.2⟩, show p + j + 1 = p + (j + 1) by omega, show b + j + 1 = b + (j + 1) by omega]
      refine ih (j + 1) f (by omega) (by omega) (fun m h2 => ?_)
      rcases Nat.lt_or_ge m j with z | z
      · exact hm m z
      · rw [show m = j by omega]; exact q.2
    · rw [if_neg (fun z => q z.2), show p + j + 1 = p + (j + 1) by omega, pw_wdF_skip hL hd r (j + 1) f _ (by omega)]
      constructor
      · intro h; exact absurd ⟨by omega, h.2 j (by omega)⟩ q
      · intro _; rfl
/-- what is left of the search at the w-th word -/
def pw_Rw (A : pw_m) (e p w : Nat) : Option Nat := if pw_tT A e = nI 1 then pw_wdF A (pw_tB A e) (pw_tE A e) (74 - p) p w (pw_tB A e) true else none
/-- so many letters, these three from the k-th on -/
def pw_sp (A : pw_m) (e L k x y z : Nat) : Bool := decide (pw_mT A e = 1 ∧ pw_tE A e - pw_tB A e = L ∧ pw_lt_ A (pw_tB A e + k) = nI x ∧ pw_lt_ A (pw_tB A e + k + 1) = nI y ∧ pw_lt_ A (pw_tB A e + k + 2) = nI z)
def pw_mw (A : pw_m) (e p L : Nat) : Prop := pw_mT A e = 1 ∧ pw_tE A e = pw_tB A e + L ∧ ∀ m, m < L → A 3 (pw_tB A e + m) = pw_k2 (p + m)
theorem pw_Rw_y {A : pw_m} {e p w L : Nat} (hL : ∀ m, m < L → pw_k2 (p + m) ≠ nI 46) (hd : pw_k2 (p + L) = nI 46) (hp : p + L < 74) (he : e ≤ pw_g A 2 1) (h : pw_mw A e p L) : pw_Rw A e p w = some w := by
  unfold pw_Rw
  rw [if_pos (pw_mT1.mp h.1), show 74 - p = (74 - (p + L + 1)) + L + 1 by omega]
  have := (pw_wdF_seg (A := A) (b := pw_tB A e) (e := pw_tE A e) (w := w) hL hd L 0 (74 - (p + L + 1)) (by omega) (by have := pw_tb1 he; omega) (fun m hm => by omega)).1 ⟨h.2.1, h.2.2⟩
  exact this
theorem pw_Rw_n {A : pw_m} {e p w L : Nat} (hL : ∀ m, m < L → pw_k2 (p + m) ≠ nI 46) (hd : pw_k2 (p + L) = nI 46) (hp : p + L < 74) (he : e ≤ pw_g A 2 1) (h : ¬ pw_mw A e p L) : pw_Rw A e p w = pw_Rw A e (p + L + 1) (w + 1) := by
  unfold pw_Rw
  by_cases q : pw_tT A e = nI 1
  · rw [if_pos q, if_pos q, show 74 - p = (74 - (p + L + 1)) + L + 1 by omega]
    exact (pw_wdF_seg (A := A) (b := pw_tB A e) (e := pw_tE A e) (w := w) hL hd L 0 (74 - (p + L + 1)) (by omega) (by have := pw_tb1 he; omega) (fun m hm => by omega)).2 (fun z => h ⟨pw_mT1.mpr q, z.1, z.2⟩)
  · rw [if_neg q, if_neg q]
theorem pw_Rw_0 {A : pw_m} {e : Nat} : pw_tW A e = pw_Rw A e 0 0 := rfl
theorem pw_Rw_12 {A : pw_m} {e : Nat} : pw_Rw A e 74 12 = none := by
  unfold pw_Rw
  split
  · rfl
  · rfl
def pw_wc (q : Option Nat) : Nat := match q with
  | none => 0
  | some w => if w = 0 then 1 else w + 2
theorem pw_sp_d {A : pw_m} {e L k x y z : Nat} (h : pw_sp A e L k x y z = true) : pw_mT A e = 1 ∧ pw_tE A e - pw_tB A e = L ∧ pw_lt_ A (pw_tB A e + k) = nI x ∧ pw_lt_ A (pw_tB A e + k + 1) = nI y ∧ pw_lt_ A (pw_tB A e + k + 2) = nI z := of_decide_eq_true h
theorem pw_mw_l {A : pw_m} {e p L : Nat} (he : e ≤ pw_g A 2 1) (h : pw_mw A e p L) {m : Nat} (hm : m < L) : pw_lt_ A (pw_tB A e + m) = pw_k2 (p + m) := by
  have h1 := pw_tb1 he
  rw [pw_ltp (by have := h.2.1; omega)]
  exact h.2.2 m hm
/-- three letters of a word that stands here -/
theorem pw_mw_sp {A : pw_m} {e p L k x y z : Nat} (he : e ≤ pw_g A 2 1) (h : pw_mw A e p L) (hk : k + 2 < L) (hx : pw_k2 (p + k) = nI x) (hy : pw_k2 (p + (k + 1)) = nI y) (hz : pw_k2 (p + (k + 2)) = nI z) : pw_sp A e L k x y z = true := by
  have h2 := h.2.1
  refine decide_eq_true ⟨h.1, by omega, ?_, ?_, ?_⟩
  · rw [pw_mw_l he h (by omega)]; exact hx
  · rw [Nat.add_assoc, pw_mw_l he h (by omega)]; exact hy
  · rw [Nat.add_assoc, pw_mw_l he h (by omega)]; exact hz
theorem pw_sp_l {A : pw_m} {e L k x y z p : Nat} (he : e ≤ pw_g A 2 1) (h : pw_sp A e L k x y z = true) (hk : k + 2 < L) (hx : pw_k2 (p + k) = nI x) (hy : pw_k2 (p + (k + 1)) = nI y) (hz : pw_k2 (p + (k + 2)) = nI z) : ∀ m, k ≤ m → m < k + 3 → A 3 (pw_tB A e + m) = pw_k2 (p + m) := by
  intro m h1 h2
  have h3 := pw_tb1 he
  obtain ⟨q1, q2, q3, q4, q5⟩ := pw_sp_d h
  rcases (show m = k ∨ m = k + 1 ∨ m = k + 2 by omega) with rfl | rfl | rfl
  · rw [hx, ← q3, pw_ltp (by omega)]
  · rw [hy, ← q4, Nat.add_assoc, pw_ltp (by omega)]
  · rw [hz, ← q5, Nat.add_assoc, pw_ltp (by omega)]
