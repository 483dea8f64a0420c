/-! the class's recursions, over the list of all seatings -/
def pw_lsA {α : Type} (g : Nat → List α) : Nat → List α
  | 0 => []
  | s + 1 => pw_lsA g s ++ g s
theorem pw_lsGA {α : Type} {g : Nat → List α} : ∀ f s, pw_lsA g s ++ pw_lsG g f s = pw_lsA g (s + f) := by
  intro f
  induction f with
  | zero => intro s; rw [pw_lsG, List.append_nil, Nat.add_zero]
  | succ f ih => intro s; rw [pw_lsG, ← List.append_assoc, show pw_lsA g s ++ g s = pw_lsA g (s + 1) from rfl, ih, show s + 1 + f = s + (f + 1) by omega]
theorem pw_lsG0 {α : Type} {g : Nat → List α} (n : Nat) : pw_lsG g n 0 = pw_lsA g n := by
  have h := pw_lsGA (g := g) n 0
  rw [show pw_lsA g 0 = [] from rfl, List.nil_append, Nat.zero_add] at h
  exact h
section PWLL
variable {n kn th : Nat} {gd en : Nat → Nat}
/-- the seats of one more -/
def pw_g1 (n kn th : Nat) (gd en : Nat → Nat) (f k : Nat) (pl : Nat → Nat) (us s : Nat) : List (Nat → Nat) := if (pw_frI n th (gd k) (en k) pl us k).testBit s = true then pw_L n kn th gd en f (pw_ns pl k s) (us ||| 2 ^ s) else []
theorem pw_L_t {f k us : Nat} {pl : Nat → Nat} (hk : k + (f + 1) = kn) (ht : th.testBit k = true) : pw_L n kn th gd en (f + 1) pl us = pw_lsA (pw_g1 n kn th gd en f k pl us) n := by
  have e : kn - (f + 1) = k := by omega
  rw [pw_L, e, if_pos ht, pw_lsG0]
  rfl
theorem pw_L_n {f k us : Nat} {pl : Nat → Nat} (hk : k + (f + 1) = kn) (ht : th.testBit k = false) : pw_L n kn th gd en (f + 1) pl us = pw_L n kn th gd en f pl us := by
  have e : kn - (f + 1) = k := by omega
  rw [pw_L, e, if_neg (by rw [ht]; decide)]
theorem pw_wy_L : ∀ f pl us, f ≤ kn → pw_wy n kn th gd en f pl us = (pw_L n kn th gd en f pl us).length := by
  intro f
  induction f with
  | zero => intro pl us _; rfl
  | succ f ih =>
    intro pl us hf
    have e : kn - (f + 1) + (f + 1) = kn := by omega
    cases ht : th.testBit (kn - (f + 1)) with
    | false => rw [pw_L_n e ht, ← ih pl us (by omega), pw_wy, if_neg (by rw [ht]; decide)]
    | true =>
      rw [pw_L_t e ht, pw_wy, if_pos ht]
      have key : ∀ m, pw_sumS (fun s => (pw_frI n th (gd (kn - (f + 1))) (en (kn - (f + 1))) pl us (kn - (f + 1))).testBit s) (fun s => pw_wy n kn th gd en f (pw_ns pl (kn - (f + 1)) s) (us ||| 2 ^ s)) m = (pw_lsA (pw_g1 n kn th gd en f (kn - (f + 1)) pl us) m).length := by
        intro m
        induction m with
        | zero => rfl
        | succ m im =>
          rw [pw_sumS, im, pw_lsA, List.length_append]
          congr 1
          unfold pw_g1
          split
          · exact ih _ _ (by omega)
          · rfl
      exact key n
theorem pw_fT_L : ∀ f pl us, f ≤ kn → pw_fT n kn th gd en f pl us = (pw_L n kn th gd en f pl us).head? := by
  intro f
  induction f with
  | zero => intro pl us _; rfl
  | succ f ih =>
    intro pl us hf
    have e : kn - (f + 1) + (f + 1) = kn := by omega
    cases ht : th.testBit (kn - (f + 1)) with
    | false => rw [pw_L_n e ht, ← ih pl us (by omega), pw_fTN e ht]
    | true =>
      rw [pw_L_t e ht, pw_fTS e ht]
      have key : ∀ m, pw_fs (fun s => if (pw_frI n th (gd (kn - (f + 1))) (en (kn - (f + 1))) pl us (kn - (f + 1))).testBit s = true then pw_fT n kn th gd en f (pw_ns pl (kn - (f + 1)) s) (us ||| 2 ^ s) else none) m = (pw_lsA (pw_g1 n kn th gd en f (kn - (f + 1)) pl us) m).head? := by
        intro m
        induction m with
        | zero => rfl
        | succ m im =>
          rw [pw_lsA, List.head?_append, pw_fs, im]
          have e2 : (pw_g1 n kn th gd en f (kn - (f + 1)) pl us m).head? = if (pw_frI n th (gd (kn - (f + 1))) (en (kn - (f + 1))) pl us (kn - (f + 1))).testBit m = true then pw_fT n kn th gd en f (pw_ns pl (kn - (f + 1)) m) (us ||| 2 ^ m) else none := by
            unfold pw_g1
            split
            · exact (ih _ _ (by omega)).symm
            · rfl
          rw [e2]
          cases (pw_lsA (pw_g1 n kn th gd en f (kn - (f + 1)) pl us) m).head? <;> rfl
      exact key n
/-- every seating goes on as it began -/
theorem pw_L_mem : ∀ f pl us p, f ≤ kn → p ∈ pw_L n kn th gd en f pl us → ∀ j, j < kn - f → p j = pl j := by
  intro f
  induction f with
  | zero =>
    intro pl us p _ h j _
    rw [List.mem_singleton.mp h]
  | succ f ih =>
    intro pl us p hf h j hj
    have e : kn - (f + 1) + (f + 1) = kn := by omega
    cases ht : th.testBit (kn - (f + 1)) with
    | false =>
      rw [pw_L_n e ht] at h
      exact ih pl us p (by omega) h j (by omega)
    | true =>
      rw [pw_L_t e ht] at h
      have key : ∀ m, p ∈ pw_lsA (pw_g1 n kn th gd en f (kn - (f + 1)) pl us) m → p j = pl j := by
        intro m
        induction m with
        | zero => intro h; cases h
        | succ m im =>
          intro h
          rcases List.mem_append.mp h with q | q
          · exact im q
          · unfold pw_g1 at q
            split at q
            · rw [ih _ _ p (by omega) q j (by omega)]
              unfold pw_ns
              rw [if_neg (by omega)]
            · cases q
      exact key n h
/-- how many are away so far -/
def pw_cw (th : Nat) (row : Nat → Int32) (p : Nat → Nat) (k : Nat) : Nat := pw_ct_ (fun j => th.testBit j && !decide (row j = nI (p j))) k
theorem pw_cw_c {row : Nat → Int32} {p p' : Nat → Nat} {k : Nat} (h : ∀ j, j < k → p j = p' j) : pw_cw th row p k = pw_cw th row p' k := pw_ct_congr (fun j hj => by rw [h j hj])
def pw_mn (c : (Nat → Nat) → Nat) (x : Nat) (p : Nat → Nat) : Nat := if x ≤ c p then x else c p
theorem pw_mn_k {c : (Nat → Nat) → Nat} {x : Nat} : ∀ l : List (Nat → Nat), (∀ p ∈ l, x ≤ c p) → l.foldl (pw_mn c) x = x := by
  intro l
  induction l with
  | nil => intro _; rfl
  | cons p l ih =>
    intro h
    rw [List.foldl_cons, show pw_mn c x p = x from if_pos (h p List.mem_cons_self)]
    exact ih (fun q hq => h q (List.mem_cons_of_mem _ hq))
theorem pw_fw_L {row : Nat → Int32} : ∀ f pl us fd, f ≤ kn → pw_fw n kn th gd en row f pl us (pw_cw th row pl (kn - f)) fd = (pw_L n kn th gd en f pl us).foldl (pw_mn (fun p => pw_cw th row p kn)) fd := by
  intro f
  induction f with
  | zero => intro pl us fd _; rfl
  | succ f ih =>
    intro pl us fd hf
    have e : kn - (f + 1) + (f + 1) = kn := by omega
    by_cases hfd : fd ≤ pw_cw th row pl (kn - (f + 1))
    · rw [pw_fw, if_pos hfd, pw_mn_k]
      intro p hp
      have h1 := pw_L_mem (f + 1) pl us p hf hp
      have h2 : pw_cw th row p (kn - (f + 1)) ≤ pw_cw th row p kn := pw_ct_mono (by omega)
      rw [pw_cw_c h1] at h2
      omega
    · cases ht : th.testBit (kn - (f + 1)) with
      | false =>
        rw [pw_L_n e ht, ← ih pl us fd (by omega), pw_fwN e (by omega) ht]
        congr 1
        rw [show kn - f = kn - (f + 1) + 1 by omega]
        unfold pw_cw
        rw [pw_ct_, ht]
        rfl
      | true =>
        rw [pw_L_t e ht, pw_fwS e (by omega) ht]
        have key : ∀ m fd, pw_fo (fun s x => if (pw_frI n th (gd (kn - (f + 1))) (en (kn - (f + 1))) pl us (kn - (f + 1))).testBit s = true then pw_fw n kn th gd en row f (pw_ns pl (kn - (f + 1)) s) (us ||| 2 ^ s) (pw_cw th row pl (kn - (f + 1)) + if row (kn - (f + 1)) = nI s then 0 else 1) x else x) m fd = (pw_lsA (pw_g1 n kn th gd en f (kn - (f + 1)) pl us) m).foldl (pw_mn (fun p => pw_cw th row p kn)) fd := by
          intro m
          induction m with
          | zero => intro fd; rfl
          | succ m im =>
            intro fd
            rw [pw_fo, im, pw_lsA, List.foldl_append]
            unfold pw_g1
            split
            · rw [← ih _ _ _ (by omega)]
              congr 1
              rw [show kn - f = kn - (f + 1) + 1 by omega]
              unfold pw_cw
              rw [pw_ct_, ht, show pw_ns pl (kn - (f + 1)) m (kn - (f + 1)) = m from by unfold pw_ns; rw [if_pos rfl]]
              congr 1
              · exact pw_ct_congr (fun j hj => by unfold pw_ns; rw [if_neg (by omega)])
              · by_cases q : row (kn - (f + 1)) = nI m
                · rw [if_pos q, decide_eq_true q]; rfl
                · rw [if_neg q, decide_eq_false q]; rfl
            · rfl
        exact key n fd
end PWLL
/-- what is found, place by place -/
theorem pw_acc_1 {A : pw_m} {w : Nat} : ∀ (l : List (Nat → Nat)) (a : pw_ac), (pw_acc A w a l).1 = a.1 + l.length := by
  intro l
  induction l with
  | nil => intro a; rfl
  | cons p l ih =>
    intro a
    unfold pw_acc at ih ⊢
    rw [List.foldl_cons, ih, List.length_cons]
    show a.1 + 1 + l.length = _
    omega
theorem pw_acc_f {A : pw_m} {w : Nat} : ∀ (l : List (Nat → Nat)) (a : pw_ac), 0 < a.1 → (pw_acc A w a l).2.2.2 = a.2.2.2 := by
  intro l
  induction l with
  | nil => intro a _; rfl
  | cons p l ih =>
    intro a ha
    unfold pw_acc at ih ⊢
    rw [List.foldl_cons, ih _ (by show 0 < a.1 + 1; omega)]
    funext j
    show (if j < pw_k A ∧ (pw_g A 42 1).testBit j = true ∧ a.1 = 0 then _ else a.2.2.2 j) = _
    rw [if_neg (by omega)]
theorem pw_acc_w {A : pw_m} {w : Nat} : ∀ (l : List (Nat → Nat)) (a : pw_ac), 0 < a.1 → (pw_acc A w a l).2.1 = l.foldl (pw_mn (fun p => pw_mvd A (pw_SA A p (pw_k A)) (pw_k A))) a.2.1 := by
  intro l
  induction l with
  | nil => intro a _; rfl
  | cons p l ih =>
    intro a ha
    unfold pw_acc at ih ⊢
    rw [List.foldl_cons, List.foldl_cons, ih _ (by show 0 < a.1 + 1; omega)]
    congr 1
    show (if a.1 = 0 ∨ _ < a.2.1 then _ else a.2.1) = _
    unfold pw_mn
    by_cases q : a.2.1 ≤ pw_mvd A (pw_SA A p (pw_k A)) (pw_k A)
    · rw [if_pos q, if_neg (by omega)]
    · rw [if_neg q, if_pos (by omega)]
theorem pw_mvd_cw {A : pw_m} (hok : pw_ok A) {p : Nat → Nat} {row : Nat → Int32} (hp : ∀ j, j < pw_k A → (pw_g A 42 1).testBit j = true → p j < 2 ^ 31) (hr : ∀ j, j < pw_k A → row j = A 45 j) : pw_mvd A (pw_SA A p (pw_k A)) (pw_k A) = pw_cw (pw_g A 42 1) row p (pw_k A) := by
  have bk := pw_bk hok
  unfold pw_mvd pw_cw
  refine pw_ct_congr (fun j hj => ?_)
  cases ht : (pw_g A 42 1).testBit j with
  | false => rfl
  | true =>
    have e1 : pw_SA A p (pw_k A) j = some (p j) := pw_SA_some.mpr ⟨hj, ht, rfl⟩
    rw [e1, hr j hj, pw_q45 hok (by omega)]
    congr 2
    have h1 := pw_o_some (p := pw_oc (A 45 j)) (a := p j) (fun a z => by have := pw_mplb hok (show j < 6 by omega) z; omega) (hp j hj ht)
    exact decide_eq_decide.mpr ⟨fun z => h1.mpr z.symm, fun z => (h1.mp z).symm⟩
/-- every place of a seating is a seat -/
theorem pw_LA_lt {A : pw_m} {q : Option Nat} : ∀ f pl us p, f ≤ pw_k A → (∀ j, j < pw_k A - f → (pw_g A 42 1).testBit j = true → pl j < pw_n A) → p ∈ pw_LA A q f pl us → ∀ j, j < pw_k A → (pw_g A 42 1).testBit j = true → p j < pw_n A := by
  intro f
  induction f with
  | zero =>
    intro pl us p _ hpl h j hj ht
    rw [List.mem_singleton.mp h]
    exact hpl j (by omega) ht
  | succ f ih =>
    intro pl us p hf hpl h j hj ht
    have e : pw_k A - (f + 1) + (f + 1) = pw_k A := by omega
    cases hk : (pw_g A 42 1).testBit (pw_k A - (f + 1)) with
    | false =>
      rw [pw_LA_n e hk] at h
      refine ih pl us p (by omega) (fun i hi hti => ?_) h j hj ht
      by_cases q2 : i = pw_k A - (f + 1)
      · rw [q2, hk] at hti; cases hti
      · exact hpl i (by omega) hti
    | true =>
      rw [pw_LA_t e hk, pw_lsG0] at h
      have key : ∀ m, m ≤ pw_n A → p ∈ pw_lsA (pw_gL A q f (pw_k A - (f + 1)) pl us) m → p j < pw_n A := by
        intro m
        induction m with
        | zero => intro _ h; cases h
        | succ m im =>
          intro hm h
          rcases List.mem_append.mp h with z | z
          · exact im (by omega) z
          · unfold pw_gL at z
            split at z
            · refine ih _ _ p (by omega) (fun i hi hti => ?_) z j hj ht
              unfold pw_ns
              by_cases q2 : i = pw_k A - (f + 1)
              · rw [if_pos q2]; omega
              · rw [if_neg q2]; exact hpl i (by omega) hti
            · cases z
      exact key (pw_n A) (Nat.le_refl _) h
