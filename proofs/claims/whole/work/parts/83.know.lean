/-! how many will know -/
def pw_us_ (th : Nat) (p : Nat → Nat) : Nat → Nat
  | 0 => 0
  | k + 1 => if th.testBit k = true then pw_us_ th p k ||| 2 ^ p k else pw_us_ th p k
def pw_ks_ (kb th : Nat) (p : Nat → Nat) : Nat → Nat
  | 0 => 0
  | k + 1 => if th.testBit k = true then pw_ks_ kb th p k ||| (if kb.testBit k = true then 2 ^ p k else 0) else pw_ks_ kb th p k
theorem pw_us_c {th : Nat} {p p' : Nat → Nat} : ∀ k, (∀ j, j < k → p j = p' j) → pw_us_ th p k = pw_us_ th p' k := by
  intro k
  induction k with
  | zero => intro _; rfl
  | succ k ih => intro h; rw [pw_us_, pw_us_, ih (fun j hj => h j (by omega)), h k (by omega)]
theorem pw_ks_c {kb th : Nat} {p p' : Nat → Nat} : ∀ k, (∀ j, j < k → p j = p' j) → pw_ks_ kb th p k = pw_ks_ kb th p' k := by
  intro k
  induction k with
  | zero => intro _; rfl
  | succ k ih => intro h; rw [pw_ks_, pw_ks_, ih (fun j hj => h j (by omega)), h k (by omega)]
theorem pw_us_bit {th : Nat} {p : Nat → Nat} {s : Nat} : ∀ k, (pw_us_ th p k).testBit s = true ↔ ∃ j, j < k ∧ th.testBit j = true ∧ p j = s := by
  intro k
  induction k with
  | zero => rw [pw_us_, Nat.zero_testBit]; exact ⟨fun z => (by cases z), fun ⟨j, h, _⟩ => by omega⟩
  | succ k ih =>
    rw [pw_us_]
    by_cases ht : th.testBit k = true
    · rw [if_pos ht, Nat.testBit_or, Nat.testBit_two_pow, Bool.or_eq_true, ih, decide_eq_true_iff]
      constructor
      · intro z
        rcases z with ⟨j, q1, q2, q3⟩ | z
        · exact ⟨j, by omega, q2, q3⟩
        · exact ⟨k, by omega, ht, z⟩
      · intro ⟨j, q1, q2, q3⟩
        by_cases q : j = k
        · subst q; exact Or.inr q3
        · exact Or.inl ⟨j, by omega, q2, q3⟩
    · rw [if_neg ht, ih]
      constructor
      · intro ⟨j, q1, q2, q3⟩; exact ⟨j, by omega, q2, q3⟩
      · intro ⟨j, q1, q2, q3⟩
        by_cases q : j = k
        · subst q; exact absurd q2 ht
        · exact ⟨j, by omega, q2, q3⟩
theorem pw_ks_bit {kb th : Nat} {p : Nat → Nat} {s : Nat} : ∀ k, (pw_ks_ kb th p k).testBit s = true ↔ ∃ j, j < k ∧ th.testBit j = true ∧ kb.testBit j = true ∧ p j = s := by
  intro k
  induction k with
  | zero => rw [pw_ks_, Nat.zero_testBit]; exact ⟨fun z => (by cases z), fun ⟨j, h, _⟩ => by omega⟩
  | succ k ih =>
    rw [pw_ks_]
    by_cases ht : th.testBit k = true
    · rw [if_pos ht, Nat.testBit_or, Bool.or_eq_true, ih]
      by_cases hb : kb.testBit k = true
      · rw [if_pos hb, Nat.testBit_two_pow, decide_eq_true_iff]
        constructor
        · intro z
          rcases z with ⟨j, q1, q2, q3, q4⟩ | z
          · exact ⟨j, by omega, q2, q3, q4⟩
          · exact ⟨k, by omega, ht, hb, z⟩
        · intro ⟨j, q1, q2, q3, q4⟩
          by_cases q : j = k
          · subst q; exact Or.inr q4
          · exact Or.inl ⟨j, by omega, q2, q3, q4⟩
      · rw [if_neg hb, Nat.zero_testBit]
        constructor
        · intro z
          rcases z with ⟨j, q1, q2, q3, q4⟩ | z
          · exact ⟨j, by omega, q2, q3, q4⟩
          · cases z
        · intro ⟨j, q1, q2, q3, q4⟩
          by_cases q : j = k
          · subst q; exact absurd q3 hb
          · exact Or.inl ⟨j, by omega, q2, q3, q4⟩
    · rw [if_neg ht, ih]
      constructor
      · intro ⟨j, q1, q2, q3, q4⟩; exact ⟨j, by omega, q2, q3, q4⟩
      · intro ⟨j, q1, q2, q3, q4⟩
        by_cases q : j = k
        · subst q; exact absurd q2 ht
        · exact ⟨j, by omega, q2, q3, q4⟩
def pw_mxk (c : (Nat → Nat) → Nat) (x : Option Nat) (p : Nat → Nat) : Option Nat := some (max (x.getD 0) (c p))
theorem pw_mxk_k {c : (Nat → Nat) → Nat} {x : Nat} : ∀ l : List (Nat → Nat), (∀ p ∈ l, c p ≤ x) → l.foldl (pw_mxk c) (some x) = some x := by
  intro l
  induction l with
  | nil => intro _; rfl
  | cons p l ih =>
    intro h
    have h1 := h p List.mem_cons_self
    rw [List.foldl_cons, show pw_mxk c (some x) p = some x from by unfold pw_mxk; rw [show (some x).getD 0 = x from rfl, Nat.max_eq_left h1]]
    exact ih (fun q hq => h q (List.mem_cons_of_mem _ hq))
section PWMO
variable {n kn th kb mc : Nat} {gd en : Nat → Nat}
theorem pw_mo_L : ∀ f pl q, f ≤ kn → (∀ p ∈ pw_L n kn th gd en f pl (pw_us_ th pl (kn - f)), pw_ka n (pw_us_ th p kn) (pw_ks_ kb th p kn) ≤ mc) → pw_mo n kn th gd en kb mc f pl (pw_us_ th pl (kn - f)) (pw_ks_ kb th pl (kn - f)) q = (pw_L n kn th gd en f pl (pw_us_ th pl (kn - f))).foldl (pw_mxk (fun p => pw_ka n (pw_us_ th p kn) (pw_ks_ kb th p kn))) q := by
  intro f
  induction f with
  | zero =>
    intro pl q _ h
    have h0 := h pl (List.mem_singleton.mpr rfl)
    rw [pw_mo]
    show (if pw_ge q mc = true then q else some (max (q.getD 0) (pw_ka n (pw_us_ th pl kn) (pw_ks_ kb th pl kn)))) = some (max (q.getD 0) (pw_ka n (pw_us_ th pl kn) (pw_ks_ kb th pl kn)))
    by_cases hg : pw_ge q mc = true
    · rw [if_pos hg]
      cases q with
      | none => cases hg
      | some a =>
        have ha : mc ≤ a := of_decide_eq_true hg
        rw [show (some a).getD 0 = a from rfl, Nat.max_eq_left (by omega)]
    · rw [if_neg hg]
  | succ f ih =>
    intro pl q hf h
    have e : kn - (f + 1) + (f + 1) = kn := by omega
    have ef : kn - f = kn - (f + 1) + 1 := by omega
    cases hg : pw_ge q mc with
    | true =>
      cases q with
      | none => cases hg
      | some a =>
        have ha : mc ≤ a := of_decide_eq_true hg
        rw [pw_mo, if_pos hg, pw_mxk_k]
        intro p hp
        have := h p hp
        omega
    | false =>
      cases ht : th.testBit (kn - (f + 1)) with
      | false =>
        have e1 : pw_us_ th pl (kn - f) = pw_us_ th pl (kn - (f + 1)) := by rw [ef, pw_us_, if_neg (by rw [ht]; decide)]
        have e2 : pw_ks_ kb th pl (kn - f) = pw_ks_ kb th pl (kn - (f + 1)) := by rw [ef, pw_ks_, if_neg (by rw [ht]; decide)]
        rw [pw_L_n e ht] at h ⊢
        rw [pw_moN e hg ht, ← e1, ← e2]
        rw [← e1] at h
        exact ih pl q (by omega) h
      | true =>
        rw [pw_L_t e ht] at h ⊢
        rw [pw_moS e hg ht]
        have key : ∀ m q, (∀ p ∈ pw_lsA (pw_g1 n kn th gd en f (kn - (f + 1)) pl (pw_us_ th pl (kn - (f + 1)))) m, pw_ka n (pw_us_ th p kn) (pw_ks_ kb th p kn) ≤ mc) → pw_fo (fun s x => if (pw_frI n th (gd (kn - (f + 1))) (en (kn - (f + 1))) pl (pw_us_ th pl (kn - (f + 1))) (kn - (f + 1))).testBit s = true then pw_mo n kn th gd en kb mc f (pw_ns pl (kn - (f + 1)) s) (pw_us_ th pl (kn - (f + 1)) ||| 2 ^ s) (pw_ks_ kb th pl (kn - (f + 1)) ||| (if kb.testBit (kn - (f + 1)) = true then 2 ^ s else 0)) x else x) m q = (pw_lsA (pw_g1 n kn th gd en f (kn - (f + 1)) pl (pw_us_ th pl (kn - (f + 1)))) m).foldl (pw_mxk (fun p => pw_ka n (pw_us_ th p kn) (pw_ks_ kb th p kn))) q := by
          intro m
          induction m with
          | zero => intro q _; rfl
          | succ m im =>
            intro q hm
            rw [pw_fo, im q (fun p hp => hm p (List.mem_append_left _ hp)), pw_lsA, List.foldl_append]
            have hm2 : ∀ p ∈ pw_g1 n kn th gd en f (kn - (f + 1)) pl (pw_us_ th pl (kn - (f + 1))) m, pw_ka n (pw_us_ th p kn) (pw_ks_ kb th p kn) ≤ mc := fun p hp => hm p (List.mem_append_right _ hp)
            have e1 : pw_us_ th pl (kn - (f + 1)) ||| 2 ^ m = pw_us_ th (pw_ns pl (kn - (f + 1)) m) (kn - f) := by
              rw [ef, pw_us_, if_pos ht, pw_us_c (p := pw_ns pl (kn - (f + 1)) m) (p' := pl) (kn - (f + 1)) (fun j hj => by unfold pw_ns; rw [if_neg (by omega)]), show pw_ns pl (kn - (f + 1)) m (kn - (f + 1)) = m from by unfold pw_ns; rw [if_pos rfl]]
            have e2 : pw_ks_ kb th pl (kn - (f + 1)) ||| (if kb.testBit (kn - (f + 1)) = true then 2 ^ m else 0) = pw_ks_ kb th (pw_ns pl (kn - (f + 1)) m) (kn - f) := by
              rw [ef, pw_ks_, if_pos ht, pw_ks_c (p := pw_ns pl (kn - (f + 1)) m) (p' := pl) (kn - (f + 1)) (fun j hj => by unfold pw_ns; rw [if_neg (by omega)]), show pw_ns pl (kn - (f + 1)) m (kn - (f + 1)) = m from by unfold pw_ns; rw [if_pos rfl]]
            unfold pw_g1 at hm2 ⊢
            split
            · rename_i hb
              rw [if_pos hb, e1] at hm2
              rw [e1, e2]
              exact ih _ _ (by omega) hm2
            · rfl
        exact key n q h
end PWMO
/-- counting by who or by where, for a whole seating -/
theorem pw_ct_le2 {p q : Nat → Bool} : ∀ n, (∀ i, i < n → p i = true → q i = true) → pw_ct_ p n ≤ pw_ct_ q n := by
  intro n
  induction n with
  | zero => intro _; exact Nat.le_refl _
  | succ n ih =>
    intro h
    have h1 := ih (fun i hi => h i (by omega))
    rw [pw_ct_, pw_ct_]
    by_cases z : p n = true
    · rw [if_pos z, if_pos (h n (by omega) z)]; omega
    · rw [if_neg z]; omega
theorem pw_ct_or {p q : Nat → Bool} : ∀ n, pw_ct_ (fun i => p i || q i) n ≤ pw_ct_ p n + pw_ct_ q n := by
  intro n
  induction n with
  | zero => exact Nat.le_refl _
  | succ n ih =>
    rw [pw_ct_, pw_ct_, pw_ct_]
    cases p n <;> cases q n <;> simp <;> omega
theorem pw_ct_sh {p : Nat → Bool} : ∀ n, pw_ct_ p (n + 1) = pw_ct_ (fun s => p (s + 1)) n + (if p 0 = true then 1 else 0) := by
  intro n
  induction n with
  | zero => rw [pw_ct_, pw_ct_, pw_ct_]
  | succ n ih => rw [pw_ct_, ih, pw_ct_]; omega
theorem pw_ct_bh {p : Nat → Bool} {n : Nat} (hn : 0 < n) : pw_ct_ (fun s => p (pw_bh n s)) n = pw_ct_ p n := by
  obtain ⟨m, rfl⟩ : ∃ m, n = m + 1 := ⟨n - 1, by omega⟩
  have e1 : pw_ct_ (fun s => p (pw_bh (m + 1) s)) m = pw_ct_ (fun s => p (s + 1)) m := pw_ct_congr (fun s hs => by unfold pw_bh; rw [if_pos (by omega)])
  have e2 : pw_bh (m + 1) m = 0 := by unfold pw_bh; rw [if_neg (by omega)]
  rw [pw_ct_sh (p := p) m, show pw_ct_ (fun s => p (pw_bh (m + 1) s)) (m + 1) = pw_ct_ (fun s => p (pw_bh (m + 1) s)) m + (if p (pw_bh (m + 1) m) = true then 1 else 0) from rfl, e1, e2]
section PWKN
variable {A : pw_m} {p : Nat → Nat}
theorem pw_sby_SA (hP : pw_PI A p (pw_k A) (pw_us_ (pw_g A 42 1) p (pw_k A))) {i s : Nat} (hi : i < pw_k A) : pw_SA A p (pw_k A) i = some s ↔ pw_sby (pw_SA A p (pw_k A)) (pw_k A) s = some i := by
  constructor
  · intro h
    cases hs : pw_sby (pw_SA A p (pw_k A)) (pw_k A) s with
    | none => exact absurd h (pw_sby_none.mp hs i hi)
    | some j =>
      have h1 := pw_SA_some.mp (of_decide_eq_true (pw_lf_s hs).2)
      have h2 := pw_SA_some.mp h
      rw [hP.2.1 j i h1.1 h2.1 h1.2.1 h2.2.1 (h1.2.2.trans h2.2.2.symm)]
  · intro h
    exact of_decide_eq_true (pw_lf_s h).2
theorem pw_ct_SA (hP : pw_PI A p (pw_k A) (pw_us_ (pw_g A 42 1) p (pw_k A))) (Q : Nat → Bool) : pw_ct_ (fun i => (pw_g A 42 1).testBit i && Q (p i)) (pw_k A) = pw_ct_ (fun s => (pw_us_ (pw_g A 42 1) p (pw_k A)).testBit s && Q s) (pw_n A) := by
  have h := pw_ct_bij (pl := pw_SA A p (pw_k A)) (si := pw_sby (pw_SA A p (pw_k A)) (pw_k A)) (Q := fun _ s => Q s) (k := pw_k A) (n := pw_n A) (fun i s hi _ => pw_sby_SA hP hi) (fun i s hi q => by have z := pw_SA_some.mp q; rw [← z.2.2]; exact hP.1 i hi z.2.1) (fun s i _ q => pw_sby_lt q)
  refine Eq.trans ?_ (h.trans ?_)
  · refine pw_ct_congr (fun i hi => ?_)
    cases ht : (pw_g A 42 1).testBit i with
    | false =>
      have e : pw_SA A p (pw_k A) i = none := by unfold pw_SA pw_sg; rw [if_neg (fun z => by rw [ht] at z; cases z.2)]
      rw [e]; rfl
    | true => rw [pw_SA_some.mpr ⟨hi, ht, rfl⟩]; rfl
  · refine pw_ct_congr (fun s hs => ?_)
    cases hb : pw_sby (pw_SA A p (pw_k A)) (pw_k A) s with
    | none =>
      have e : (pw_us_ (pw_g A 42 1) p (pw_k A)).testBit s = false := by
        cases hq : (pw_us_ (pw_g A 42 1) p (pw_k A)).testBit s with
        | false => rfl
        | true =>
          obtain ⟨j, q1, q2, q3⟩ := (pw_us_bit _).mp hq
          exact absurd (pw_SA_some.mpr ⟨q1, q2, q3⟩) (pw_sby_none.mp hb j q1)
      rw [e]; rfl
    | some j =>
      have h1 := pw_SA_some.mp (of_decide_eq_true (pw_lf_s hb).2)
      have e : (pw_us_ (pw_g A 42 1) p (pw_k A)).testBit s = true := (pw_us_bit _).mpr ⟨j, h1⟩
      rw [e]; rfl
/-- who knows, by bits -/
def pw_kbb (A : pw_m) (w : Nat) : Nat := pw_ob (pw_kn A w) (pw_k A)
theorem pw_kbb_bit {w j : Nat} (hj : j < pw_k A) : (pw_kbb A w).testBit j = ((pw_g A 42 1).testBit j && (pw_g A 44 j).testBit w) := by
  unfold pw_kbb
  rw [pw_ob_bit, decide_eq_true hj, Bool.true_and]
  rfl
def pw_kwp (A : pw_m) (w : Nat) (p : Nat → Nat) : Nat := pw_ks_ (pw_kbb A w) (pw_g A 42 1) p (pw_k A)
theorem pw_kwp_i (hP : pw_PI A p (pw_k A) (pw_us_ (pw_g A 42 1) p (pw_k A))) {w i : Nat} (hi : i < pw_k A) (ht : (pw_g A 42 1).testBit i = true) : (pw_kwp A w p).testBit (p i) = (pw_g A 44 i).testBit w := by
  rw [Bool.eq_iff_iff]
  unfold pw_kwp
  rw [pw_ks_bit]
  constructor
  · intro ⟨j, q1, q2, q3, q4⟩
    have e := hP.2.1 j i q1 hi q2 ht q4
    subst e
    rw [pw_kbb_bit q1, Bool.and_eq_true] at q3
    exact q3.2
  · intro h
    exact ⟨i, hi, ht, by rw [pw_kbb_bit hi, ht, h]; rfl, rfl⟩
theorem pw_kwp_s (hP : pw_PI A p (pw_k A) (pw_us_ (pw_g A 42 1) p (pw_k A))) {w s : Nat} : (pw_kwp A w p).testBit s = (match pw_sby (pw_SA A p (pw_k A)) (pw_k A) s with
    | none => 0
    | some t => pw_g A 44 t).testBit w := by
  cases hb : pw_sby (pw_SA A p (pw_k A)) (pw_k A) s with
  | none =>
    dsimp only
    rw [Nat.zero_testBit]
    cases hq : (pw_kwp A w p).testBit s with
    | false => rfl
    | true =>
      obtain ⟨j, q1, q2, q3, q4⟩ := (pw_ks_bit _).mp hq
      exact absurd (pw_SA_some.mpr ⟨q1, q2, q4⟩) (pw_sby_none.mp hb j q1)
  | some t =>
    have h1 := pw_SA_some.mp (of_decide_eq_true (pw_lf_s hb).2)
    dsimp only
    rw [← h1.2.2, pw_kwp_i hP h1.1 h1.2.1]
theorem pw_kwp_us {w s : Nat} (h : (pw_kwp A w p).testBit s = true) : (pw_us_ (pw_g A 42 1) p (pw_k A)).testBit s = true := by
  obtain ⟨j, q1, q2, q3, q4⟩ := (pw_ks_bit _).mp h
  exact (pw_us_bit _).mpr ⟨j, q1, q2, q4⟩
theorem pw_lt_of_us {x : Nat} {n : Nat} (h : ∀ s, x.testBit s = true → s < n) : x < 2 ^ n := by
  apply Nat.lt_pow_two_of_testBit
  intro i hi
  cases hx : x.testBit i with
  | false => rfl
  | true => exact absurd (h i hx) (by omega)
theorem pw_us_n (hP : pw_PI A p (pw_k A) (pw_us_ (pw_g A 42 1) p (pw_k A))) {s : Nat} (h : (pw_us_ (pw_g A 42 1) p (pw_k A)).testBit s = true) : s < pw_n A := by
  obtain ⟨j, q1, q2, q3⟩ := (pw_us_bit _).mp h
  rw [← q3]
  exact hP.1 j q1 q2
theorem pw_hr_bit {n kw s : Nat} (hs : s < n) (hk : kw < 2 ^ n) : (pw_hr n kw).testBit s = kw.testBit (pw_bh n s) := by
  unfold pw_hr
  rw [Nat.testBit_or, Nat.testBit_div_two_pow]
  unfold pw_bh
  by_cases q : s + 1 < n
  · rw [if_pos q]
    have e : (if kw.testBit 0 = true then 2 ^ (n - 1) else 0).testBit s = false := by
      split
      · rw [Nat.testBit_two_pow]; exact decide_eq_false (by omega)
      · exact Nat.zero_testBit s
    rw [e, Bool.or_false]
  · rw [if_neg q, show s + 1 = n by omega, Nat.testBit_lt_two_pow hk, Bool.false_or]
    cases h0 : kw.testBit 0 with
    | true => rw [if_pos rfl, Nat.testBit_two_pow]; exact decide_eq_true (by omega)
    | false => rw [if_neg (by decide)]; exact Nat.zero_testBit s
theorem pw_ka_ct (hn : pw_n A ≤ 8) (hP : pw_PI A p (pw_k A) (pw_us_ (pw_g A 42 1) p (pw_k A))) {w : Nat} : pw_ka (pw_n A) (pw_us_ (pw_g A 42 1) p (pw_k A)) (pw_kwp A w p) = pw_ct_ (fun s => (pw_us_ (pw_g A 42 1) p (pw_k A)).testBit s && ((pw_kwp A w p).testBit s || (pw_kwp A w p).testBit (pw_bh (pw_n A) s))) (pw_n A) := by
  have hu : pw_us_ (pw_g A 42 1) p (pw_k A) < 2 ^ pw_n A := pw_lt_of_us (fun s h => pw_us_n hP h)
  have hk : pw_kwp A w p < 2 ^ pw_n A := pw_lt_of_us (fun s h => pw_us_n hP (pw_kwp_us h))
  unfold pw_ka pw_pc
  rw [pw_ct_up (Nat.lt_of_le_of_lt Nat.and_le_left hu) hn]
  refine pw_ct_congr (fun s hs => ?_)
  rw [Nat.testBit_and, Nat.testBit_or, pw_hr_bit hs hk]
theorem pw_ka_knw (hn : pw_n A ≤ 8) (hP : pw_PI A p (pw_k A) (pw_us_ (pw_g A 42 1) p (pw_k A))) {w : Nat} : pw_ka (pw_n A) (pw_us_ (pw_g A 42 1) p (pw_k A)) (pw_kwp A w p) = pw_knw A w (pw_SA A p (pw_k A)) (pw_k A) := by
  rw [pw_ka_ct hn hP, ← pw_ct_SA hP (fun s => (pw_kwp A w p).testBit s || (pw_kwp A w p).testBit (pw_bh (pw_n A) s))]
  unfold pw_knw
  refine pw_ct_congr (fun i hi => ?_)
  cases ht : (pw_g A 42 1).testBit i with
  | false => rfl
  | true =>
    rw [Bool.true_and, Bool.true_and]
    unfold pw_kb
    rw [pw_SA_some.mpr ⟨hi, ht, rfl⟩, Nat.testBit_or, pw_kwp_i hP hi ht, pw_kwp_s hP]
    rfl
theorem pw_ka_le (hok : pw_ok A) (hP : pw_PI A p (pw_k A) (pw_us_ (pw_g A 42 1) p (pw_k A))) {w : Nat} : pw_ka (pw_n A) (pw_us_ (pw_g A 42 1) p (pw_k A)) (pw_kwp A w p) ≤ min (pw_pc (pw_g A 42 1)) (2 * pw_pc (pw_kbb A w)) := by
  have hn := pw_bn hok
  have bk := pw_bk hok
  have h1 : pw_pc (pw_g A 42 1) = pw_ct_ (fun i => (pw_g A 42 1).testBit i) (pw_k A) := by unfold pw_pc; exact pw_ct_up (pw_b421 hok) (by omega)
  have h2 : pw_pc (pw_kbb A w) = pw_ct_ (fun i => (pw_kbb A w).testBit i) (pw_k A) := by unfold pw_pc; exact pw_ct_up pw_ob_lt (by omega)
  have h3 : pw_ct_ (fun i => (pw_g A 42 1).testBit i && (pw_kwp A w p).testBit (p i)) (pw_k A) = pw_pc (pw_kbb A w) := by
    rw [h2]
    refine pw_ct_congr (fun i hi => ?_)
    cases ht : (pw_g A 42 1).testBit i with
    | false => rw [pw_kbb_bit hi, ht]; rfl
    | true => rw [pw_kbb_bit hi, ht, pw_kwp_i hP hi ht]
  have h4 : pw_ct_ (fun s => (pw_kwp A w p).testBit s) (pw_n A) = pw_pc (pw_kbb A w) := by
    rw [← h3, pw_ct_SA hP (fun s => (pw_kwp A w p).testBit s)]
    refine pw_ct_congr (fun s _ => ?_)
    cases hq : (pw_kwp A w p).testBit s with
    | false => rw [Bool.and_false]
    | true => rw [pw_kwp_us hq]; rfl
  rw [pw_ka_ct hn hP]
  refine Nat.le_min.mpr ⟨?_, ?_⟩
  · rw [← pw_ct_SA hP (fun s => (pw_kwp A w p).testBit s || (pw_kwp A w p).testBit (pw_bh (pw_n A) s)), h1]
    refine pw_ct_le2 _ (fun i _ z => ?_)
    rw [Bool.and_eq_true] at z
    exact z.1
  · have h5 : pw_ct_ (fun s => (pw_us_ (pw_g A 42 1) p (pw_k A)).testBit s && ((pw_kwp A w p).testBit s || (pw_kwp A w p).testBit (pw_bh (pw_n A) s))) (pw_n A) ≤ pw_ct_ (fun s => (pw_kwp A w p).testBit s || (pw_kwp A w p).testBit (pw_bh (pw_n A) s)) (pw_n A) := pw_ct_le2 _ (fun i _ z => by rw [Bool.and_eq_true] at z; exact z.2)
    have h6 := pw_ct_or (p := fun s => (pw_kwp A w p).testBit s) (q := fun s => (pw_kwp A w p).testBit (pw_bh (pw_n A) s)) (pw_n A)
    rcases Nat.eq_zero_or_pos (pw_n A) with z | z
    · rw [z]; exact Nat.zero_le _
    · have h7 := pw_ct_bh (p := fun s => (pw_kwp A w p).testBit s) z
      have h8 : pw_ct_ (fun s => (pw_kwp A w p).testBit (pw_bh (pw_n A) s)) (pw_n A) = pw_pc (pw_kbb A w) := h7.trans h4
      omega
end PWKN
/-- every seating sits apart -/
theorem pw_LA_PI {A : pw_m} {q : Option Nat} : ∀ f pl us p, f ≤ pw_k A → pw_PI A pl (pw_k A - f) us → p ∈ pw_LA A q f pl us → pw_PI A p (pw_k A) (pw_us_ (pw_g A 42 1) p (pw_k A)) := by
  intro f
  induction f with
  | zero =>
    intro pl us p _ hP h
    rw [List.mem_singleton.mp h]
    rw [Nat.sub_zero] at hP
    exact ⟨hP.1, hP.2.1, fun s => pw_us_bit _⟩
  | succ f ih =>
    intro pl us p hf hP h
    have e : pw_k A - (f + 1) + (f + 1) = pw_k A := by omega
    cases hk : (pw_g A 42 1).testBit (pw_k A - (f + 1)) with
    | false =>
      rw [pw_LA_n e hk] at h
      refine ih pl us p (by omega) (pw_PI_skip hP (by omega) (fun j h1 h2 => ?_)) h
      rw [show j = pw_k A - (f + 1) by omega]; exact hk
    | true =>
      rw [pw_LA_t e hk, pw_lsG0] at h
      have key : ∀ m, m ≤ pw_n A → p ∈ pw_lsA (pw_gL A q f (pw_k A - (f + 1)) pl us) m → pw_PI A p (pw_k A) (pw_us_ (pw_g A 42 1) p (pw_k A)) := by
        intro m
        induction m with
        | zero => intro _ h; cases h
        | succ m im =>
          intro hm h
          rcases List.mem_append.mp h with z | z
          · exact im (by omega) z
          · unfold pw_gL at z
            split at z
            · rename_i hb
              refine ih _ _ p (by omega) ?_ z
              have h3 := pw_PI_put hP (show m < pw_n A by omega) (pw_fr_us hb) hk
              rw [show pw_k A - (f + 1) + 1 = pw_k A - f by omega] at h3
              exact h3
            · cases z
      exact key (pw_n A) (Nat.le_refl _) h
theorem pw_mxk_s {c : (Nat → Nat) → Nat} : ∀ (l : List (Nat → Nat)) (x : Nat), l.foldl (pw_mxk c) (some x) = some (l.foldl (fun x p => max x (c p)) x) := by
  intro l
  induction l with
  | nil => intro x; rfl
  | cons p l ih => intro x; rw [List.foldl_cons, List.foldl_cons, show pw_mxk c (some x) p = some (max x (c p)) from rfl, ih]
theorem pw_max_congr {c c' : (Nat → Nat) → Nat} : ∀ (l : List (Nat → Nat)) (x : Nat), (∀ p ∈ l, c p = c' p) → l.foldl (fun x p => max x (c p)) x = l.foldl (fun x p => max x (c' p)) x := by
  intro l
  induction l with
  | nil => intro x _; rfl
  | cons p l ih =>
    intro x h
    rw [List.foldl_cons, List.foldl_cons, ih _ (fun q hq => h q (List.mem_cons_of_mem _ hq)), h p List.mem_cons_self]
theorem pw_acc_m {A : pw_m} {w : Nat} : ∀ (l : List (Nat → Nat)) (a : pw_ac), 0 < a.1 → (pw_acc A w a l).2.2.1 = l.foldl (fun x p => max x (pw_knw A w (pw_SA A p (pw_k A)) (pw_k A))) a.2.2.1 := by
  intro l
  induction l with
  | nil => intro a _; rfl
  | cons p l ih =>
    intro a ha
    unfold pw_acc at ih ⊢
    rw [List.foldl_cons, List.foldl_cons, ih _ (by show 0 < a.1 + 1; omega)]
    congr 1
    show (if a.1 = 0 ∨ a.2.2.1 < _ then _ else a.2.2.1) = _
    by_cases q : a.2.2.1 < pw_knw A w (pw_SA A p (pw_k A)) (pw_k A)
    · rw [if_pos (Or.inr q), Nat.max_eq_right (by omega)]
    · rw [if_neg (by omega), Nat.max_eq_left (by omega)]
theorem pw_F_mo {A : pw_m} (hok : pw_ok A) (w : Nat) : F_mo A w = (pw_LA A none (pw_k A) (fun _ => 0) 0).foldl (pw_mxk (fun p => pw_knw A w (pw_SA A p (pw_k A)) (pw_k A))) none := by
  have hP : ∀ p ∈ pw_LA A none (pw_k A) (fun _ => 0) 0, pw_PI A p (pw_k A) (pw_us_ (pw_g A 42 1) p (pw_k A)) := fun p hp => pw_LA_PI (pw_k A) (fun _ => 0) 0 p (Nat.le_refl _) (by rw [Nat.sub_self]; exact pw_PI_0) hp
  have h := pw_mo_L (n := pw_n A) (kn := pw_k A) (th := pw_g A 42 1) (kb := pw_kbb A w) (mc := min (pw_pc (pw_g A 42 1)) (2 * pw_pc (pw_kbb A w))) (gd := pw_gd A none) (en := fun k => pw_g A 10 k) (pw_k A) (fun _ => 0) none (Nat.le_refl _) (fun p hp => by
    rw [Nat.sub_self] at hp
    exact pw_ka_le hok (hP p hp))
  rw [Nat.sub_self] at h
  have e : F_mo A w = (pw_LA A none (pw_k A) (fun _ => 0) 0).foldl (pw_mxk (fun p => pw_ka (pw_n A) (pw_us_ (pw_g A 42 1) p (pw_k A)) (pw_kwp A w p))) none := h
  rw [e]
  cases hL : pw_LA A none (pw_k A) (fun _ => 0) 0 with
  | nil => rfl
  | cons p l =>
    rw [hL] at hP
    rw [List.foldl_cons, List.foldl_cons]
    show l.foldl _ (some (max 0 _)) = l.foldl _ (some (max 0 _))
    rw [pw_mxk_s, pw_mxk_s]
    dsimp only
    rw [pw_ka_knw (pw_bn hok) (hP p List.mem_cons_self)]
    congr 1
    exact pw_max_congr l _ (fun q hq => pw_ka_knw (pw_bn hok) (hP q (List.mem_cons_of_mem _ hq)))
