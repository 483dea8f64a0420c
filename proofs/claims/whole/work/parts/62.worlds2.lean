/-! worlds by number, worlds by turns: the same sums, the same bits -/
def pw_gfl (op : Nat → Nat → Nat) (f : Nat → Nat) : Nat → Nat
  | 0 => 0
  | n + 1 => op (pw_gfl op f n) (f n)
section PWFL
variable {op : Nat → Nat → Nat} {f g : Nat → Nat}
theorem pw_gfl_congr {n : Nat} (h : ∀ i, i < n → f i = g i) : pw_gfl op f n = pw_gfl op g n := by
  induction n with
  | zero => rfl
  | succ n ih => rw [pw_gfl, pw_gfl, ih (fun i hi => h i (by omega)), h n (by omega)]
theorem pw_gfl_add (ha : ∀ x y z, op (op x y) z = op x (op y z)) (h0 : ∀ x, op x 0 = x) (a b : Nat) : pw_gfl op f (a + b) = op (pw_gfl op f a) (pw_gfl op (fun j => f (a + j)) b) := by
  induction b with
  | zero => rw [Nat.add_zero, pw_gfl, h0]
  | succ b ih => rw [← Nat.add_assoc, pw_gfl, ih, pw_gfl, ha]
theorem pw_gfl_mul (ha : ∀ x y z, op (op x y) z = op x (op y z)) (h0 : ∀ x, op x 0 = x) (a b : Nat) : pw_gfl op f (a * b) = pw_gfl op (fun i => pw_gfl op (fun j => f (i * b + j)) b) a := by
  induction a with
  | zero => rw [Nat.zero_mul]; rfl
  | succ a ih => rw [Nat.succ_mul, pw_gfl_add ha h0, ih, pw_gfl]
theorem pw_gfl_rot (ha : ∀ x y z, op (op x y) z = op x (op y z)) (h0 : ∀ x, op x 0 = x) (h1 : ∀ x, op 0 x = x) (hc : ∀ x y, op x y = op y x) (n : Nat) : pw_gfl op f (n + 1) = op (pw_gfl op (fun i => f (i + 1)) n) (f 0) := by
  rw [Nat.add_comm n 1, pw_gfl_add ha h0 1 n]
  rw [show pw_gfl op f 1 = op 0 (f 0) from rfl, h1, hc]
  congr 1
  exact pw_gfl_congr (fun i _ => by rw [Nat.add_comm])
end PWFL
def pw_wq (kn who : Nat) : Option Nat := if who = kn then none else some who
theorem pw_gflW {op : Nat → Nat → Nat} (ha : ∀ x y z, op (op x y) z = op x (op y z)) (h0 : ∀ x, op x 0 = x) (h1 : ∀ x, op 0 x = x) (hc : ∀ x y, op x y = op y x) (F : Nat → Nat → Option Nat → Nat) (n kn : Nat) (hn : 0 < n) :
    pw_gfl op (fun k => F (k / (kn + 1) / n) (k / (kn + 1) % n) (pw_wq kn (k % (kn + 1)))) (n * n * (kn + 1)) = pw_gfl op (fun st => pw_gfl op (fun sp => pw_gfl op (fun t => F st sp (pw_mi t)) (kn + 1)) n) n := by
  rw [pw_gfl_mul ha h0, pw_gfl_mul ha h0]
  refine pw_gfl_congr (fun st hst => pw_gfl_congr (fun sp hsp => ?_))
  have e1 : ∀ w, w < kn + 1 → ((st * n + sp) * (kn + 1) + w) / (kn + 1) = st * n + sp := fun w hw => by
    rw [Nat.mul_comm, Nat.mul_add_div (by omega), Nat.div_eq_of_lt hw, Nat.add_zero]
  have e2 : ∀ w, w < kn + 1 → ((st * n + sp) * (kn + 1) + w) % (kn + 1) = w := fun w hw => by
    rw [Nat.mul_comm, Nat.mul_add_mod, Nat.mod_eq_of_lt hw]
  have e3 : (st * n + sp) / n = st := by rw [Nat.mul_comm, Nat.mul_add_div hn, Nat.div_eq_of_lt hsp, Nat.add_zero]
  have e4 : (st * n + sp) % n = sp := by rw [Nat.mul_comm, Nat.mul_add_mod, Nat.mod_eq_of_lt hsp]
  have e5 : pw_gfl op (fun w => F (((st * n + sp) * (kn + 1) + w) / (kn + 1) / n) (((st * n + sp) * (kn + 1) + w) / (kn + 1) % n) (pw_wq kn (((st * n + sp) * (kn + 1) + w) % (kn + 1)))) (kn + 1) = pw_gfl op (fun w => F st sp (pw_wq kn w)) (kn + 1) := pw_gfl_congr (fun w hw => by rw [e1 w hw, e2 w hw, e3, e4])
  rw [e5, pw_gfl_rot (f := fun t => F st sp (pw_mi t)) ha h0 h1 hc, pw_gfl]
  have e6 : pw_wq kn kn = none := by unfold pw_wq; rw [if_pos rfl]
  rw [e6]
  congr 1
  exact pw_gfl_congr (fun i hi => by unfold pw_wq; rw [if_neg (by omega), pw_mi_u])
/-- the class's fold, place by place -/
theorem pw_fo_p {op : Nat → Nat → Nat} (ha : ∀ x y z, op (op x y) z = op x (op y z)) (h0 : ∀ x, op x 0 = x) {π : pw_z → Nat} {g : Nat → pw_z → pw_z} {d : Nat → Nat} : ∀ n z, (∀ s z, s < n → π (g s z) = op (π z) (d s)) → π (pw_fo g n z) = op (π z) (pw_gfl op d n) := by
  intro n
  induction n with
  | zero => intro z _; rw [pw_fo, pw_gfl, h0]
  | succ n ih => intro z h; rw [pw_fo, h n _ (by omega), ih z (fun s z hs => h s z (by omega)), pw_gfl, ha]
theorem pw_z3_p {op : Nat → Nat → Nat} (ha : ∀ x y z, op (op x y) z = op x (op y z)) (h0 : ∀ x, op x 0 = x) (h1 : ∀ x, op 0 x = x) {π : pw_z → Nat} {A : pw_m} {dy : Nat} {g : Option Nat} {F : Nat → Nat → Option Nat → Nat} (hz : π (0, 0, 0, fun _ => 0) = 0) (h : ∀ st sp t z, st < pw_n A → sp < pw_n A → π (pw_zs A dy g st sp t z) = op (π z) (F st sp (pw_mi t))) : π (pw_z3 A dy g) = pw_gfl op (fun st => pw_gfl op (fun sp => pw_gfl op (fun t => F st sp (pw_mi t)) (pw_k A + 1)) (pw_n A)) (pw_n A) := by
  have e := pw_fo_p ha h0 (π := π) (g := pw_z2 A dy g) (d := fun st => pw_gfl op (fun sp => pw_gfl op (fun t => F st sp (pw_mi t)) (pw_k A + 1)) (pw_n A)) (pw_n A) (0, 0, 0, fun _ => 0) (fun st z hst => pw_fo_p ha h0 (π := π) (g := pw_z1 A dy g st) (d := fun sp => pw_gfl op (fun t => F st sp (pw_mi t)) (pw_k A + 1)) (pw_n A) z (fun sp z hsp => pw_fo_p ha h0 (π := π) (g := pw_zs A dy g st sp) (d := fun t => F st sp (pw_mi t)) (pw_k A + 1) z (fun t z ht => h st sp t z hst hsp)))
  rw [hz, h1] at e
  exact e
def pw_Wn (A : pw_m) (st sp : Nat) (q : Option Nat) : Nat := if pw_isW A st sp q = true then 1 else 0
def pw_Ww (A : pw_m) (dy st sp : Nat) (q : Option Nat) : Nat := if pw_isW A st sp q = true then 2 ^ ((st + sp * dy) % pw_n A) else 0
def pw_Wf (A : pw_m) (st sp : Nat) (q : Option Nat) : Nat := if pw_isW A st sp q = true then 2 ^ pw_zb q else 0
def pw_Wr (A : pw_m) (dy : Nat) (g : Option Nat) (s st sp : Nat) (q : Option Nat) : Nat := if q ≠ g ∧ (st + sp * dy) % pw_n A = s ∧ pw_isW A st sp q = true then 1 else 0
theorem pw_per_s {n st sp dy : Nat} (h : 0 < n) : pw_per n st sp dy = some ((st + sp * dy) % n) := by unfold pw_per; rw [if_neg (by omega)]
theorem pw_z3n {A : pw_m} {dy : Nat} {g : Option Nat} : (pw_z3 A dy g).1 = pw_gfl (· + ·) (fun st => pw_gfl (· + ·) (fun sp => pw_gfl (· + ·) (fun t => pw_Wn A st sp (pw_mi t)) (pw_k A + 1)) (pw_n A)) (pw_n A) :=
  pw_z3_p (op := (· + ·)) (π := (·.1)) Nat.add_assoc Nat.add_zero Nat.zero_add (F := pw_Wn A) rfl (fun st sp t z hst hsp => by
    unfold pw_zs pw_Wn
    rw [pw_per_s (by omega)]
    dsimp only
    split <;> rfl)
theorem pw_z3w {A : pw_m} {dy : Nat} {g : Option Nat} : (pw_z3 A dy g).2.1 = pw_gfl (· ||| ·) (fun st => pw_gfl (· ||| ·) (fun sp => pw_gfl (· ||| ·) (fun t => pw_Ww A dy st sp (pw_mi t)) (pw_k A + 1)) (pw_n A)) (pw_n A) :=
  pw_z3_p (op := (· ||| ·)) (π := (·.2.1)) Nat.or_assoc Nat.or_zero Nat.zero_or (F := pw_Ww A dy) rfl (fun st sp t z hst hsp => by
    unfold pw_zs pw_Ww
    rw [pw_per_s (by omega)]
    dsimp only
    split
    · rfl
    · exact (Nat.or_zero _).symm)
theorem pw_z3f {A : pw_m} {dy : Nat} {g : Option Nat} : (pw_z3 A dy g).2.2.1 = pw_gfl (· ||| ·) (fun st => pw_gfl (· ||| ·) (fun sp => pw_gfl (· ||| ·) (fun t => pw_Wf A st sp (pw_mi t)) (pw_k A + 1)) (pw_n A)) (pw_n A) :=
  pw_z3_p (op := (· ||| ·)) (π := (·.2.2.1)) Nat.or_assoc Nat.or_zero Nat.zero_or (F := pw_Wf A) rfl (fun st sp t z hst hsp => by
    unfold pw_zs pw_Wf
    rw [pw_per_s (by omega)]
    dsimp only
    split
    · rfl
    · exact (Nat.or_zero _).symm)
theorem pw_z3r {A : pw_m} {dy : Nat} {g : Option Nat} {s : Nat} : (pw_z3 A dy g).2.2.2 s = pw_gfl (· + ·) (fun st => pw_gfl (· + ·) (fun sp => pw_gfl (· + ·) (fun t => pw_Wr A dy g s st sp (pw_mi t)) (pw_k A + 1)) (pw_n A)) (pw_n A) :=
  pw_z3_p (op := (· + ·)) (π := (·.2.2.2 s)) Nat.add_assoc Nat.add_zero Nat.zero_add (F := pw_Wr A dy g s) rfl (fun st sp t z hst hsp => by
    unfold pw_zs pw_Wr
    rw [pw_per_s (by omega)]
    dsimp only
    by_cases hW : pw_isW A st sp (pw_mi t) = true
    · rw [if_pos hW]
      dsimp only
      by_cases hs : s = (st + sp * dy) % pw_n A
      · rw [if_pos hs, ← hs]
        by_cases hg : pw_mi t = g
        · rw [if_pos hg, if_neg (fun z => z.1 hg)]
        · rw [if_neg hg, if_pos ⟨hg, rfl, hW⟩]
      · rw [if_neg hs, if_neg (fun z => hs z.2.1.symm), Nat.add_zero]
    · rw [if_neg hW, if_neg (fun z => hW z.2.2), Nat.add_zero])
/-- a world by its number -/

def pw_W1 (A : pw_m) (F : Nat → Nat → Option Nat → Nat) (k : Nat) : Nat := F (k / (pw_k A + 1) / pw_n A) (k / (pw_k A + 1) % pw_n A) (pw_wq (pw_k A) (k % (pw_k A + 1)))
def pw_wN (A : pw_m) : Nat := pw_n A * pw_n A * (pw_k A + 1)
theorem pw_wN0 {A : pw_m} (h : ¬ 0 < pw_n A) : pw_wN A = 0 := by unfold pw_wN; rw [show pw_n A = 0 by omega]; simp
theorem pw_W_sum {A : pw_m} {F : Nat → Nat → Option Nat → Nat} {op : Nat → Nat → Nat} (ha : ∀ x y z, op (op x y) z = op x (op y z)) (h0 : ∀ x, op x 0 = x) (h1 : ∀ x, op 0 x = x) (hc : ∀ x y, op x y = op y x) : pw_gfl op (pw_W1 A F) (pw_wN A) = pw_gfl op (fun st => pw_gfl op (fun sp => pw_gfl op (fun t => F st sp (pw_mi t)) (pw_k A + 1)) (pw_n A)) (pw_n A) := by
  by_cases hn : 0 < pw_n A
  · exact pw_gflW ha h0 h1 hc F (pw_n A) (pw_k A) hn
  · rw [pw_wN0 hn, show pw_n A = 0 by omega]; rfl
theorem pw_wn_m {A : pw_m} {dy : Nat} {g : Option Nat} : pw_gfl (· + ·) (pw_W1 A (pw_Wn A)) (pw_wN A) = (pw_z3 A dy g).1 := by
  rw [pw_z3n]; exact pw_W_sum Nat.add_assoc Nat.add_zero Nat.zero_add Nat.add_comm
theorem pw_ww_m {A : pw_m} {dy : Nat} {g : Option Nat} : pw_gfl (· ||| ·) (pw_W1 A (pw_Ww A dy)) (pw_wN A) = (pw_z3 A dy g).2.1 := by
  rw [pw_z3w]; exact pw_W_sum Nat.or_assoc Nat.or_zero Nat.zero_or Nat.or_comm
theorem pw_wf_m {A : pw_m} {dy : Nat} {g : Option Nat} : pw_gfl (· ||| ·) (pw_W1 A (pw_Wf A)) (pw_wN A) = (pw_z3 A dy g).2.2.1 := by
  rw [pw_z3f]; exact pw_W_sum Nat.or_assoc Nat.or_zero Nat.zero_or Nat.or_comm
theorem pw_wr_m {A : pw_m} {dy : Nat} {g : Option Nat} {s : Nat} : pw_gfl (· + ·) (pw_W1 A (pw_Wr A dy g s)) (pw_wN A) = (pw_z3 A dy g).2.2.2 s := by
  rw [pw_z3r]; exact pw_W_sum Nat.add_assoc Nat.add_zero Nat.zero_add Nat.add_comm
theorem pw_wN_le {A : pw_m} (hn : pw_n A ≤ 8) (hk : pw_k A ≤ 6) : pw_wN A ≤ 448 := by
  unfold pw_wN
  have h1 : pw_n A * pw_n A ≤ 8 * 8 := Nat.mul_le_mul hn hn
  have h2 : pw_n A * pw_n A * (pw_k A + 1) ≤ 64 * 7 := Nat.mul_le_mul h1 (by omega)
  omega
theorem pw_gfl_le1 {f : Nat → Nat} {n : Nat} (h : ∀ i, f i ≤ 1) : pw_gfl (· + ·) f n ≤ n := by
  induction n with
  | zero => exact Nat.le_refl _
  | succ n ih => show pw_gfl (· + ·) f n + f n ≤ n + 1; have := h n; omega
theorem pw_gfl_or_lt {f : Nat → Nat} {n b : Nat} (h : ∀ i, i < n → f i < 2 ^ b) : pw_gfl (· ||| ·) f n < 2 ^ b := by
  induction n with
  | zero => exact Nat.two_pow_pos b
  | succ n ih => exact Nat.or_lt_two_pow (ih (fun i hi => h i (by omega))) (h n (by omega))
/-- the parts of a world's number -/
theorem pw_wk_b {A : pw_m} {k : Nat} (h : k < pw_wN A) : 0 < pw_n A ∧ k % (pw_k A + 1) ≤ pw_k A ∧ k / (pw_k A + 1) % pw_n A < pw_n A ∧ k / (pw_k A + 1) / pw_n A < pw_n A := by
  have hn : 0 < pw_n A := by
    rcases Nat.eq_zero_or_pos (pw_n A) with q | q
    · rw [pw_wN0 (by omega)] at h; omega
    · exact q
  have h1 := Nat.mod_lt k (show 0 < pw_k A + 1 by omega)
  refine ⟨hn, by omega, Nat.mod_lt _ hn, ?_⟩
  unfold pw_wN at h
  apply (Nat.div_lt_iff_lt_mul hn).mpr
  exact (Nat.div_lt_iff_lt_mul (by omega)).mpr h
