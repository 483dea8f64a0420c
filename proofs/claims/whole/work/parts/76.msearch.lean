/-! the model's search: who sits where so far, what was found so far -/
theorem mvL {A B C : pw_m} (h : MV A (pw_up B 26 33 (-1))) (h1 : ∀ c, 27 ≤ c → c ≤ 35 → C c = B c) (h2 : ∀ j, j ≤ 16 → C 26 j = B 26 j) : MV A (pw_up C 26 33 (-1)) := by
  refine h.f (fun c q1 q2 => by rw [pw_up_ne (by omega), pw_up_ne (by omega)]; exact h1 c q1 q2) (fun j hj => ?_)
  by_cases q : j = 33
  · subst q; rw [pw_up_gs, pw_up_gs]
  · rw [pw_up_26 q, pw_up_26 q]; exact h2 j (by omega)
theorem mvL_i {A B : pw_m} (h : MV A B) : MV A (pw_up B 26 33 (-1)) := by rw [pw_up_id h.2.2.2.2.2]; exact h
/-- found; fewest, most; the first -/
abbrev pw_ac : Type := Nat × Nat × Nat × (Nat → Option Nat)
def pw_sM (B : pw_m) (g : Nat → Option Nat) (a : pw_ac) : pw_m := fun c => if c = 40 then (fun j => if j < 6 then pw_o (g j) else B 40 j) else if c = 41 then (fun j => if j < 6 then pw_o (a.2.2.2 j) else B 41 j) else if c = 26 then upd (upd (upd (B 26) 34 (nI a.1)) 36 (nI a.2.1)) 37 (nI a.2.2.1) else B c
theorem pw_sM_o {B : pw_m} {g : Nat → Option Nat} {a : pw_ac} {c : Nat} (h : c ≠ 40) (h2 : c ≠ 41) (h3 : c ≠ 26) : pw_sM B g a c = B c := by unfold pw_sM; rw [if_neg h, if_neg h2, if_neg h3]
theorem pw_sM_6 {B : pw_m} {g : Nat → Option Nat} {a : pw_ac} {j : Nat} (h : j ≠ 34) (h2 : j ≠ 36) (h3 : j ≠ 37) : pw_sM B g a 26 j = B 26 j := by
  unfold pw_sM upd
  rw [if_neg (by omega), if_neg (by omega), if_pos rfl]
  rw [if_neg h3, if_neg h2, if_neg h]
theorem pw_sM_40 {B : pw_m} {g : Nat → Option Nat} {a : pw_ac} {j : Nat} (h : j < 6) : pw_sM B g a 40 j = pw_o (g j) := by unfold pw_sM; rw [if_pos rfl, if_pos h]
theorem pw_sM_41 {B : pw_m} {g : Nat → Option Nat} {a : pw_ac} {j : Nat} (h : j < 6) : pw_sM B g a 41 j = pw_o (a.2.2.2 j) := by unfold pw_sM; rw [if_neg (by omega), if_pos rfl, if_pos h]
theorem pw_sM_34 {B : pw_m} {g : Nat → Option Nat} {a : pw_ac} : pw_sM B g a 26 34 = nI a.1 := rfl
theorem pw_sM_36 {B : pw_m} {g : Nat → Option Nat} {a : pw_ac} : pw_sM B g a 26 36 = nI a.2.1 := rfl
theorem pw_sM_37 {B : pw_m} {g : Nat → Option Nat} {a : pw_ac} : pw_sM B g a 26 37 = nI a.2.2.1 := rfl
theorem mvL_s {A B : pw_m} {g : Nat → Option Nat} {a : pw_ac} (h : MV A (pw_up B 26 33 (-1))) : MV A (pw_up (pw_sM B g a) 26 33 (-1)) := mvL h (fun c q1 q2 => pw_sM_o (by omega) (by omega) (by omega)) (fun j hj => pw_sM_6 (by omega) (by omega) (by omega))
/-- he sits, or rises -/
def pw_gs (g : Nat → Option Nat) (i : Nat) (v : Option Nat) : Nat → Option Nat := fun j => if j = i then v else g j
theorem pw_sM_up {B : pw_m} {g : Nat → Option Nat} {a : pw_ac} {i : Nat} {v : Option Nat} (hi : i < 6) : pw_up (pw_sM B g a) 40 i (pw_o v) = pw_sM B (pw_gs g i v) a := by
  funext c
  by_cases h : c = 40
  · subst h
    rw [pw_up_eq]
    unfold upd pw_sM
    rw [if_pos rfl, if_pos rfl]
    funext j
    unfold pw_gs
    by_cases q : j = i
    · subst q; rw [if_pos rfl, if_pos hi, if_pos rfl]
    · rw [if_neg q, if_neg q]
  · rw [pw_up_ne h]; unfold pw_sM; rw [if_neg h, if_neg h]
/-- who sits on s so far -/
def pw_sby (g : Nat → Option Nat) (kn s : Nat) : Option Nat := pw_lf (fun j => decide (g j = some s)) kn
theorem pw_sby_lt {g : Nat → Option Nat} {kn s j : Nat} (h : pw_sby g kn s = some j) : j < kn := (pw_lf_s h).1
def pw_may (A : pw_m) (q : Option Nat) (g : Nat → Option Nat) (i s : Nat) : Bool := (pw_sby g (pw_k A) s).isNone && ((decide (q = some s) || pw_fnow A i s) && (!pw_inp A i s && (!pw_en A i (pw_sby g (pw_k A) (pw_bh (pw_n A) s)) && !pw_en A i (pw_sby g (pw_k A) (pw_ah (pw_n A) s)))))
/-- the next who is there, upwards -/
def pw_nfF (th : Nat) : Nat → Nat → Nat
  | 0, k => k
  | f + 1, k => if th.testBit k = true then k else pw_nfF th f (k + 1)
def pw_nf (th kn k : Nat) : Nat := pw_nfF th (kn - k) k
theorem pw_nf_e {th kn k : Nat} (h : ¬ k < kn) : pw_nf th kn k = k := by unfold pw_nf; rw [show kn - k = 0 by omega]; rfl
theorem pw_nf_t {th kn k : Nat} (h : k < kn) (ht : th.testBit k = true) : pw_nf th kn k = k := by unfold pw_nf; rw [show kn - k = (kn - k - 1) + 1 by omega, pw_nfF, if_pos ht]
theorem pw_nf_s {th kn k : Nat} (h : k < kn) (ht : th.testBit k = false) : pw_nf th kn k = pw_nf th kn (k + 1) := by unfold pw_nf; rw [show kn - k = (kn - (k + 1)) + 1 by omega, pw_nfF, if_neg (by rw [ht]; decide)]
/-- how many move, how many know; what is found then -/
def pw_mvd (A : pw_m) (g : Nat → Option Nat) : Nat → Nat := pw_ct_ (fun i => (pw_g A 42 1).testBit i && !decide (g i = pw_pl A i))
def pw_kb (A : pw_m) (w : Nat) (g : Nat → Option Nat) (i : Nat) : Bool := (pw_g A 44 i ||| (match (g i).bind (fun s => pw_sby g (pw_k A) (pw_bh (pw_n A) s)) with
  | none => 0
  | some t => pw_g A 44 t)).testBit w
def pw_knw (A : pw_m) (w : Nat) (g : Nat → Option Nat) : Nat → Nat := pw_ct_ (fun i => (pw_g A 42 1).testBit i && pw_kb A w g i)
def pw_fin (A : pw_m) (w : Nat) (g : Nat → Option Nat) (a : pw_ac) : pw_ac := (a.1 + 1, if a.1 = 0 ∨ pw_mvd A g (pw_k A) < a.2.1 then pw_mvd A g (pw_k A) else a.2.1, if a.1 = 0 ∨ a.2.2.1 < pw_knw A w g (pw_k A) then pw_knw A w g (pw_k A) else a.2.2.1, fun j => if j < pw_k A ∧ (pw_g A 42 1).testBit j = true ∧ a.1 = 0 then g j else a.2.2.2 j)
