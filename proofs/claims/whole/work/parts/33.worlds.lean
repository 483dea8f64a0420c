/-! what is seen: worlds -/
section PWQ3
variable {A : pw_m}
theorem pw_q15 (h : pw_ok A) {i : Nat} (hi : i < pw_g A 14 4) : A 15 i = nI (pw_g A 15 i) := (h.2.2.2.1.2 i hi).1.1.1
theorem pw_b15 (h : pw_ok A) {i : Nat} (hi : i < pw_g A 14 4) : pw_g A 15 i < pw_k A := (h.2.2.2.1.2 i hi).1.1.2
theorem pw_q16 (h : pw_ok A) {i : Nat} (hi : i < pw_g A 14 4) : A 16 i = nI (pw_g A 16 i) := (h.2.2.2.1.2 i hi).1.2.1
theorem pw_b16 (h : pw_ok A) {i : Nat} (hi : i < pw_g A 14 4) : pw_g A 16 i < pw_n A := (h.2.2.2.1.2 i hi).1.2.2
theorem pw_q17 (h : pw_ok A) {i : Nat} (hi : i < pw_g A 14 4) : A 17 i = nI (pw_g A 17 i) := (h.2.2.2.1.2 i hi).2.1.1
theorem pw_b17 (h : pw_ok A) {i : Nat} (hi : i < pw_g A 14 4) : pw_g A 17 i < 1000 := (h.2.2.2.1.2 i hi).2.1.2
def pw_tk (A : pw_m) (i : Nat) : Bool := decide (A 18 i = 1)
theorem pw_q18 (h : pw_ok A) {i : Nat} (hi : i < pw_g A 14 4) : A 18 i = pw_b (pw_tk A i) := by
  unfold pw_tk
  rcases (h.2.2.2.1.2 i hi).2.2 with e | e <;> rw [e] <;> decide
end PWQ3
def pw_al (p : Nat → Bool) : Nat → Bool
  | 0 => true
  | n + 1 => pw_al p n && p n
theorem pw_al_f {p : Nat → Bool} {i n : Nat} (h : pw_al p i = false) (hn : i ≤ n) : pw_al p n = false := by
  induction n with
  | zero => have : i = 0 := by omega
            subst this; exact h
  | succ n ih =>
    rcases Nat.lt_or_ge n i with q | q
    · have : i = n + 1 := by omega
      subst this; exact h
    · simp [pw_al, ih q]
theorem pw_al_congr {p q : Nat → Bool} {n : Nat} (h : ∀ i, i < n → p i = q i) : pw_al p n = pw_al q n := by
  induction n with
  | zero => rfl
  | succ n ih => simp only [pw_al]; rw [ih (fun i hi => h i (by omega)), h n (by omega)]
/-- one that is seen fits: where, step, for whom -/
def pw_iw (A : pw_m) (st sp : Nat) (q : Option Nat) (i : Nat) : Bool := (decide (pw_per (pw_n A) st sp (pw_g A 17 i) = some (pw_g A 16 i)) && !decide (q = some (pw_g A 15 i))) == pw_tk A i
def pw_isW (A : pw_m) (st sp : Nat) (q : Option Nat) : Bool := pw_al (pw_iw A st sp q) (pw_g A 14 4)

set_option maxHeartbeats 4000000 in
set_option maxRecDepth 100000 in
theorem c_isWorld (st sp : Nat) (q : Option Nat) (mm : pw_m) (hok : pw_ok mm) (hst : st < 8) (hsp : sp < 8) (hq : ∀ c, q = some c → c < 6) : pw_Ct 1 yX6_isWorld m_X6_isWorld [.ref 14, .ref 4, .int (nI st), .int (nI sp), .int (pw_o (q))] mm (fun r m' => r = some (.int (pw_b (pw_isW mm st sp q))) ∧ m' = mm) := by
  refine pw_ct (by decide +kernel) rfl (Nat.le_of_ble_eq_true rfl) (fun x => ?_)
  generalize hZ : pw_Z x _ = Z
  have bn := pw_bn hok
  have bk := pw_bk hok
  have b14 := pw_b144 hok
  have loop : ∀ i : Nat, i ≤ pw_g mm 14 4 → pw_al (pw_iw mm st sp q) i = true → pw_V x m_X6_isWorld 1 Z 3 [(0, .ref 14), (1, .ref 4), (2, .int (nI st)), (3, .int (nI sp)), (4, .int (pw_o (q))), (5, .int (nI i))] [] mm := by
    refine pw_dn (pw_g mm 14 4) (fun i hi ih ha => ?_)
    refine pw_blk (pc' := 9) [.iload 5, .aload 0, .getfield 604] (by decide +kernel) ?_
    show pw_V x m_X6_isWorld 1 Z 9 [(0, .ref 14), (1, .ref 4), (2, .int (nI st)), (3, .int (nI sp)), (4, .int (pw_o (q))), (5, .int (nI i))] [.int (mm 14 4), .int (nI i)] mm
    rw [show mm 14 4 = nI (pw_g mm 14 4) from pw_q144 hok]
    refine pw_in_ge (tgt := 74) (off := 65) (by omega) (by omega) (by decide +kernel) (by decide) (fun h9 => ?_) (fun h9 => ?_)
    · refine pw_blk (pc' := 75) [.iconst 1] (by decide +kernel) ?_
      show pw_V x m_X6_isWorld 1 Z 75 [(0, .ref 14), (1, .ref 4), (2, .int (nI st)), (3, .int (nI sp)), (4, .int (pw_o (q))), (5, .int (nI i))] [.int (nI 1)] mm
      rw [← hZ]
      refine pw_rz (by decide +kernel) (Or.inr rfl) ?_
      have e : i = pw_g mm 14 4 := by omega
      subst e
      refine ⟨?_, rfl⟩
      rw [show pw_isW mm st sp q = true from ha]; rfl
    · have b15 := pw_b15 hok h9
      have b16 := pw_b16 hok h9
      have b17 := pw_b17 hok h9
      have bm := pw_mulb hsp b17
      refine pw_blk (pc' := 22) [.aload 1, .iload 2, .iload 3, .aload 0, .getfield 602, .iload 5, .iaload] (by decide +kernel) ?_
      refine ⟨i, rfl, by omega, ?_⟩
      show pw_V x m_X6_isWorld 1 Z 22 [(0, .ref 14), (1, .ref 4), (2, .int (nI st)), (3, .int (nI sp)), (4, .int (pw_o (q))), (5, .int (nI i))] [.int (mm 17 i), .int (nI sp), .int (nI st), .ref 4] mm
      rw [show mm 17 i = nI (pw_g mm 17 i) from pw_q17 hok (by omega)]
      refine pw_cV (vs := [.int (nI st), .int (nI sp), .int (nI (pw_g mm 17 i))]) (rest := []) k_X5_perilFrom (c_perilFrom st sp (pw_g mm 17 i) mm hok (by omega)) l_6_46 rfl rfl rfl rfl (by omega) (Nat.le_of_ble_eq_true rfl) (by decide +kernel) ?_
      rintro _ m1 ⟨rfl, e1⟩
      rw [e1]
      clear e1 m1
      show pw_V x m_X6_isWorld 1 Z 25 [(0, .ref 14), (1, .ref 4), (2, .int (nI st)), (3, .int (nI sp)), (4, .int (pw_o (q))), (5, .int (nI i))] [.int (pw_o (pw_per (pw_n mm) st sp (pw_g mm 17 i)))] mm
      refine pw_blk (pc' := 32) [.aload 0, .getfield 601, .iload 5, .iaload] (by decide +kernel) ?_
      refine ⟨i, rfl, by omega, ?_⟩
      show pw_V x m_X6_isWorld 1 Z 32 [(0, .ref 14), (1, .ref 4), (2, .int (nI st)), (3, .int (nI sp)), (4, .int (pw_o (q))), (5, .int (nI i))] [.int (mm 16 i), .int (pw_o (pw_per (pw_n mm) st sp (pw_g mm 17 i)))] mm
      rw [show mm 16 i = nI (pw_g mm 16 i) from pw_q16 hok (by omega)]
      refine pw_on_ne (tgt := 51) (off := 19) (by decide +kernel) (by decide) (fun a ha => Nat.lt_trans (pw_perb ha) (by omega)) (by omega) (fun h32 => ?_) (fun h32 => ?_)
      · refine pw_blk (pc' := 63) [.iconst 0, .istore 6, .iload 6, .aload 0, .getfield 603, .iload 5, .baload] (by decide +kernel) ?_
        refine ⟨i, rfl, by omega, ?_⟩
        show pw_V x m_X6_isWorld 1 Z 63 [(6, .int (nI 0)), (0, .ref 14), (1, .ref 4), (2, .int (nI st)), (3, .int (nI sp)), (4, .int (pw_o (q))), (5, .int (nI i))] [.int (mm 18 i), .int (nI 0)] mm
        rw [show mm 18 i = pw_b (pw_tk mm i) from pw_q18 hok (by omega)]
        refine pw_ic_eq (tgt := 68) (off := 5) (by decide +kernel) (by decide) (fun h63 => ?_) (fun h63 => ?_)
        · refine pw_blk (pc' := 71) [.iinc 5 1] (by decide +kernel) ?_
          show pw_V x m_X6_isWorld 1 Z 71 [(5, .int ((nI i) + (nI 1))), (6, .int (nI 0)), (0, .ref 14), (1, .ref 4), (2, .int (nI st)), (3, .int (nI sp)), (4, .int (pw_o (q)))] [] mm
          rw [show (nI i) + (nI 1) = nI (i + 1) from nI_add _ _]
          refine pw_goto (tgt := 3) (off := -68) (by decide +kernel) (by decide) ?_
          have e9 : pw_iw mm st sp q i = true := by simp [pw_iw, h32]; revert h63; cases pw_tk mm i <;> decide
          refine pw_lvp [2, 3, 4, 5, 6, 0] rfl ?_
          exact ih (by omega) (by simp [pw_al, ha, e9])
        · refine pw_blk (pc' := 67) [.iconst 0] (by decide +kernel) ?_
          show pw_V x m_X6_isWorld 1 Z 67 [(6, .int (nI 0)), (0, .ref 14), (1, .ref 4), (2, .int (nI st)), (3, .int (nI sp)), (4, .int (pw_o (q))), (5, .int (nI i))] [.int (nI 0)] mm
          rw [← hZ]
          refine pw_rz (by decide +kernel) (Or.inl rfl) ?_
          have e9 : pw_iw mm st sp q i = false := by simp [pw_iw, h32]; revert h63; cases pw_tk mm i <;> decide
          refine ⟨?_, rfl⟩
          rw [show pw_isW mm st sp q = false from pw_al_f (i := i + 1) (by simp [pw_al, e9]) (by omega)]; rfl
      · refine pw_blk (pc' := 44) [.iload 4, .aload 0, .getfield 600, .iload 5, .iaload] (by decide +kernel) ?_
        refine ⟨i, rfl, by omega, ?_⟩
        show pw_V x m_X6_isWorld 1 Z 44 [(0, .ref 14), (1, .ref 4), (2, .int (nI st)), (3, .int (nI sp)), (4, .int (pw_o (q))), (5, .int (nI i))] [.int (mm 15 i), .int (pw_o (q))] mm
        rw [show mm 15 i = nI (pw_g mm 15 i) from pw_q15 hok (by omega)]
        refine pw_on_eq (tgt := 51) (off := 7) (by decide +kernel) (by decide) (fun a ha => Nat.lt_trans (hq _ ha) (by omega)) (by omega) (fun h44 => ?_) (fun h44 => ?_)
        · refine pw_blk (pc' := 63) [.iconst 0, .istore 6, .iload 6, .aload 0, .getfield 603, .iload 5, .baload] (by decide +kernel) ?_
          refine ⟨i, rfl, by omega, ?_⟩
          show pw_V x m_X6_isWorld 1 Z 63 [(6, .int (nI 0)), (0, .ref 14), (1, .ref 4), (2, .int (nI st)), (3, .int (nI sp)), (4, .int (pw_o (q))), (5, .int (nI i))] [.int (mm 18 i), .int (nI 0)] mm
          rw [show mm 18 i = pw_b (pw_tk mm i) from pw_q18 hok (by omega)]
          refine pw_ic_eq (tgt := 68) (off := 5) (by decide +kernel) (by decide) (fun h63 => ?_) (fun h63 => ?_)
          · refine pw_blk (pc' := 71) [.iinc 5 1] (by decide +kernel) ?_
            show pw_V x m_X6_isWorld 1 Z 71 [(5, .int ((nI i) + (nI 1))), (6, .int (nI 0)), (0, .ref 14), (1, .ref 4), (2, .int (nI st)), (3, .int (nI sp)), (4, .int (pw_o (q)))] [] mm
            rw [show (nI i) + (nI 1) = nI (i + 1) from nI_add _ _]
            refine pw_goto (tgt := 3) (off := -68) (by decide +kernel) (by decide) ?_
            have e9 : pw_iw mm st sp q i = true := by simp [pw_iw, h32, h44]; revert h63; cases pw_tk mm i <;> decide
            refine pw_lvp [2, 3, 4, 5, 6, 0] rfl ?_
            exact ih (by omega) (by simp [pw_al, ha, e9])
          · refine pw_blk (pc' := 67) [.iconst 0] (by decide +kernel) ?_
            show pw_V x m_X6_isWorld 1 Z 67 [(6, .int (nI 0)), (0, .ref 14), (1, .ref 4), (2, .int (nI st)), (3, .int (nI sp)), (4, .int (pw_o (q))), (5, .int (nI i))] [.int (nI 0)] mm
            rw [← hZ]
            refine pw_rz (by decide +kernel) (Or.inl rfl) ?_
            have e9 : pw_iw mm st sp q i = false := by simp [pw_iw, h32, h44]; revert h63; cases pw_tk mm i <;> decide
            refine ⟨?_, rfl⟩
            rw [show pw_isW mm st sp q = false from pw_al_f (i := i + 1) (by simp [pw_al, e9]) (by omega)]; rfl
        · refine pw_blk (pc' := 48) [.iconst 1] (by decide +kernel) ?_
          show pw_V x m_X6_isWorld 1 Z 48 [(0, .ref 14), (1, .ref 4), (2, .int (nI st)), (3, .int (nI sp)), (4, .int (pw_o (q))), (5, .int (nI i))] [.int (nI 1)] mm
          refine pw_goto (tgt := 52) (off := 4) (by decide +kernel) (by decide) ?_
          refine pw_blk (pc' := 63) [.istore 6, .iload 6, .aload 0, .getfield 603, .iload 5, .baload] (by decide +kernel) ?_
          refine ⟨i, rfl, by omega, ?_⟩
          show pw_V x m_X6_isWorld 1 Z 63 [(6, .int (nI 1)), (0, .ref 14), (1, .ref 4), (2, .int (nI st)), (3, .int (nI sp)), (4, .int (pw_o (q))), (5, .int (nI i))] [.int (mm 18 i), .int (nI 1)] mm
          rw [show mm 18 i = pw_b (pw_tk mm i) from pw_q18 hok (by omega)]
          refine pw_ic_eq (tgt := 68) (off := 5) (by decide +kernel) (by decide) (fun h63 => ?_) (fun h63 => ?_)
          · refine pw_blk (pc' := 71) [.iinc 5 1] (by decide +kernel) ?_
            show pw_V x m_X6_isWorld 1 Z 71 [(5, .int ((nI i) + (nI 1))), (6, .int (nI 1)), (0, .ref 14), (1, .ref 4), (2, .int (nI st)), (3, .int (nI sp)), (4, .int (pw_o (q)))] [] mm
            rw [show (nI i) + (nI 1) = nI (i + 1) from nI_add _ _]
            refine pw_goto (tgt := 3) (off := -68) (by decide +kernel) (by decide) ?_
            have e9 : pw_iw mm st sp q i = true := by simp [pw_iw, h32, h44]; revert h63; cases pw_tk mm i <;> decide
            refine pw_lvp [2, 3, 4, 5, 6, 0] rfl ?_
            exact ih (by omega) (by simp [pw_al, ha, e9])
          · refine pw_blk (pc' := 67) [.iconst 0] (by decide +kernel) ?_
            show pw_V x m_X6_isWorld 1 Z 67 [(6, .int (nI 1)), (0, .ref 14), (1, .ref 4), (2, .int (nI st)), (3, .int (nI sp)), (4, .int (pw_o (q))), (5, .int (nI i))] [.int (nI 0)] mm
            rw [← hZ]
            refine pw_rz (by decide +kernel) (Or.inl rfl) ?_
            have e9 : pw_iw mm st sp q i = false := by simp [pw_iw, h32, h44]; revert h63; cases pw_tk mm i <;> decide
            refine ⟨?_, rfl⟩
            rw [show pw_isW mm st sp q = false from pw_al_f (i := i + 1) (by simp [pw_al, e9]) (by omega)]; rfl
  show pw_V x m_X6_isWorld 1 Z 0 [(0, .ref 14), (1, .ref 4), (2, .int (nI st)), (3, .int (nI sp)), (4, .int (pw_o (q)))] [] mm
  refine pw_blk (pc' := 3) [.iconst 0, .istore 5] (by decide +kernel) ?_
  show pw_V x m_X6_isWorld 1 Z 3 [(5, .int (nI 0)), (0, .ref 14), (1, .ref 4), (2, .int (nI st)), (3, .int (nI sp)), (4, .int (pw_o (q)))] [] mm
  refine pw_lvp [1, 2, 3, 4, 5, 0] rfl ?_
  exact loop 0 (by omega) rfl

/-- for whom, by the number of the turn: none first -/
def pw_mi (t : Nat) : Option Nat := if t = 0 then none else some (t - 1)
theorem pw_mi_u {t : Nat} : pw_mi (t + 1) = some t := by simp [pw_mi]
theorem pw_mi_s {t : Nat} : pw_o (pw_mi t) + nI 1 = pw_o (pw_mi (t + 1)) := by
  cases t with
  | zero => decide
  | succ u =>
    rw [pw_mi_u, pw_mi_u]
    exact nI_add u 1
theorem pw_mi_inv {t c : Nat} (h : pw_mi t = some c) : t = c + 1 := by
  cases t with
  | zero => cases h
  | succ u => rw [pw_mi_u] at h; cases h; rfl
theorem pw_mi_n {t : Nat} (h : pw_mi t = none) : t = 0 := by
  cases t with
  | zero => rfl
  | succ u => rw [pw_mi_u] at h; cases h
theorem pw_mi_b {t N : Nat} (h : t ≤ N) : ∀ c, pw_mi t = some c → c < N := by
  intro c hc
  unfold pw_mi at hc
  split at hc
  · cases hc
  · cases hc; omega
/-- how many; where; for whom; by seats in how many the guest is in peril -/
abbrev pw_z : Type := Nat × Nat × Nat × (Nat → Nat)
def pw_svm (A : pw_m) (z : pw_z) : pw_m := fun c => if c = 14 then upd (upd (upd (A 14) 5 (nI z.1)) 6 (nI z.2.1)) 7 (nI z.2.2.1) else if c = 19 then (fun k => if k < 8 then nI (z.2.2.2 k) else A 19 k) else A c
theorem pw_svm_o {A : pw_m} {z : pw_z} {c : Nat} (h : c ≠ 14) (h2 : c ≠ 19) : pw_svm A z c = A c := by unfold pw_svm; rw [if_neg h, if_neg h2]
theorem pw_svm_r {A : pw_m} {z : pw_z} {k : Nat} (h : k < 8) : pw_svm A z 19 k = nI (z.2.2.2 k) := by unfold pw_svm; rw [if_neg (by omega), if_pos rfl]; simp only [h, if_true]
theorem pw_svm_n {A : pw_m} {z : pw_z} {k : Nat} (h : ¬ k < 8) : pw_svm A z 19 k = A 19 k := by unfold pw_svm; rw [if_neg (by omega), if_pos rfl]; simp only [h, if_false]
theorem pw_ok_svm {A : pw_m} {z : pw_z} (h : pw_ok A) : pw_ok (pw_svm A z) := pw_ok_f (fun c hc => pw_svm_o (by omega) (by omega)) (by rw [pw_svm_o (by omega) (by omega)]) rfl h
def pw_zb (q : Option Nat) : Nat := match q with
  | none => 6
  | some a => a
def pw_zs (A : pw_m) (dy : Nat) (g : Option Nat) (st sp t : Nat) (z : pw_z) : pw_z := match pw_per (pw_n A) st sp dy with
  | none => z
  | some p => if pw_isW A st sp (pw_mi t) = true then (z.1 + 1, z.2.1 ||| 2 ^ p, z.2.2.1 ||| 2 ^ pw_zb (pw_mi t), fun k => if k = p then z.2.2.2 p + (if pw_mi t = g then 0 else 1) else z.2.2.2 k) else z
def pw_z1 (A : pw_m) (dy : Nat) (g : Option Nat) (st sp : Nat) (z : pw_z) : pw_z := pw_fo (pw_zs A dy g st sp) (pw_k A + 1) z
def pw_z2 (A : pw_m) (dy : Nat) (g : Option Nat) (st : Nat) (z : pw_z) : pw_z := pw_fo (pw_z1 A dy g st) (pw_n A) z
def pw_z3 (A : pw_m) (dy : Nat) (g : Option Nat) : pw_z := pw_fo (pw_z2 A dy g) (pw_n A) (0, 0, 0, fun _ => 0)
theorem pw_svm_s {A : pw_m} {z : pw_z} {a b c p v : Nat} (hp : p < 8) : pw_up (pw_up (pw_up (pw_up (pw_svm A z) 14 5 (nI a)) 14 6 (nI b)) 14 7 (nI c)) 19 p (nI v) = pw_svm A (a, b, c, fun k => if k = p then v else z.2.2.2 k) := by
  funext d
  by_cases h : d = 19
  · subst h
    rw [pw_up_eq, pw_up_ne (by omega), pw_up_ne (by omega), pw_up_ne (by omega)]
    funext k
    by_cases q : k < 8
    · rw [pw_svm_r q]
      unfold upd
      by_cases e : k = p
      · rw [if_pos e]; simp only [if_pos e]
      · rw [if_neg e, pw_svm_r q]; simp only [if_neg e]
    · unfold upd
      rw [if_neg (by omega), pw_svm_n q, pw_svm_n q]
  · rw [pw_up_ne h]
    by_cases h2 : d = 14
    · subst h2
      rw [pw_up_eq, pw_up_eq, pw_up_eq]
      funext k
      simp only [pw_svm, upd, if_true]
      split
      · rfl
      · split
        · rfl
        · split
          · rfl
          · rfl
    · rw [pw_up_ne h2, pw_up_ne h2, pw_up_ne h2, pw_svm_o h2 h, pw_svm_o h2 h]
def pw_svI (A : pw_m) (i : Nat) : pw_m := fun c => if c = 14 then upd (upd (upd (A 14) 5 (nI 0)) 6 (nI 0)) 7 (nI 0) else if c = 19 then pw_c6 (A 19) (fun _ => nI 0) i else A c
theorem pw_svI_0 {A : pw_m} : pw_up (pw_up (pw_up A 14 5 (nI 0)) 14 6 (nI 0)) 14 7 (nI 0) = pw_svI A 0 := by
  funext c
  by_cases h : c = 14
  · subst h; rw [pw_up_eq, pw_up_eq, pw_up_eq]; rfl
  · rw [pw_up_ne h, pw_up_ne h, pw_up_ne h]
    unfold pw_svI
    rw [if_neg h]
    split
    · rename_i e; subst e; rw [pw_c6_0]
    · rfl
theorem pw_svI_s {A : pw_m} {i : Nat} : pw_up (pw_svI A i) 19 i (nI 0) = pw_svI A (i + 1) := by
  funext c
  by_cases h : c = 19
  · subst h; rw [pw_up_eq]; exact pw_c6_s (g := fun _ => nI 0)
  · rw [pw_up_ne h]; unfold pw_svI; rw [if_neg h, if_neg h]
theorem pw_svI_8 {A : pw_m} : pw_svI A 8 = pw_svm A (0, 0, 0, fun _ => 0) := rfl

set_option maxHeartbeats 4000000 in
set_option maxRecDepth 100000 in
theorem c_survey (dy : Nat) (gx : Option Nat) (mm : pw_m) (hok : pw_ok mm) (hdy : dy < 1000) (hgx : ∀ c, gx = some c → c < 6) : pw_Ct 3 yX6_survey m_X6_survey [.ref 14, .ref 4, .int (nI dy), .int (pw_o (gx))] mm (fun r m' => r = none ∧ m' = pw_svm mm (pw_z3 mm dy gx)) := by
  refine pw_ct (by decide +kernel) rfl (Nat.le_of_ble_eq_true rfl) (fun x => ?_)
  generalize hZ : pw_Z x _ = Z
  have bn := pw_bn hok
  have bk := pw_bk hok
  show pw_V x m_X6_survey 3 Z 0 [(0, .ref 14), (1, .ref 4), (2, .int (nI dy)), (3, .int (pw_o (gx)))] [] mm
  refine pw_blk (pc' := 18) [.aload 0, .iconst 0, .putfield 605, .aload 0, .iconst 0, .putfield 606, .aload 0, .iconst 0, .putfield 607, .iconst 0, .istore 4] (by decide +kernel) ?_
  show pw_V x m_X6_survey 3 Z 18 [(4, .int (nI 0)), (0, .ref 14), (1, .ref 4), (2, .int (nI dy)), (3, .int (pw_o (gx)))] [] (pw_up (pw_up (pw_up mm 14 5 (nI 0)) 14 6 (nI 0)) 14 7 (nI 0))
  refine pw_lvp [1, 2, 3, 4, 0] rfl ?_
  rw [pw_svI_0]
  suffices lc : ∀ i : Nat, i ≤ 8 → pw_V x m_X6_survey 3 Z 18 [(0, .ref 14), (1, .ref 4), (2, .int (nI dy)), (3, .int (pw_o (gx))), (4, .int (nI i))] [] (pw_svI mm i) from lc 0 (by omega)
  refine pw_dn 8 (fun i hi ih => ?_)
  refine pw_blk (pc' := 22) [.iload 4, .iconst (8)] (by decide +kernel) ?_
  show pw_V x m_X6_survey 3 Z 22 [(0, .ref 14), (1, .ref 4), (2, .int (nI dy)), (3, .int (pw_o (gx))), (4, .int (nI i))] [.int (nI 8), .int (nI i)] (pw_svI mm i)
  refine pw_in_ge (tgt := 39) (off := 17) (by omega) (by omega) (by decide +kernel) (by decide) (fun h22 => ?_) (fun h22 => ?_)
  · have e8 : i = 8 := by omega
    subst e8
    rw [pw_svI_8]
    refine pw_blk (pc' := 42) [.iconst 0, .istore 4] (by decide +kernel) ?_
    show pw_V x m_X6_survey 3 Z 42 [(4, .int (nI 0)), (0, .ref 14), (1, .ref 4), (2, .int (nI dy)), (3, .int (pw_o (gx)))] [] (pw_svm mm (0, 0, 0, fun _ => 0))
    refine pw_lvp [1, 2, 3, 4, 0] rfl ?_
    suffices lo : ∀ stx : Nat, stx ≤ pw_n mm → pw_V x m_X6_survey 3 Z 42 [(0, .ref 14), (1, .ref 4), (2, .int (nI dy)), (3, .int (pw_o (gx))), (4, .int (nI stx))] [] (pw_svm mm (pw_fo (pw_z2 mm dy gx) stx (0, 0, 0, fun _ => 0))) from lo 0 (by omega)
    refine pw_dn (pw_n mm) (fun stx hst ih1 => ?_)
    refine pw_blk (pc' := 48) [.iload 4, .aload 1, .getfield 500] (by decide +kernel) ?_
    show pw_V x m_X6_survey 3 Z 48 [(0, .ref 14), (1, .ref 4), (2, .int (nI dy)), (3, .int (pw_o (gx))), (4, .int (nI stx))] [.int (mm 4 0), .int (nI stx)] (pw_svm mm (pw_fo (pw_z2 mm dy gx) stx (0, 0, 0, fun _ => 0)))
    rw [show mm 4 0 = nI (pw_n mm) from pw_q40 hok]
    refine pw_in_ge (tgt := 192) (off := 144) (by omega) (by omega) (by decide +kernel) (by decide) (fun h48 => ?_) (fun h48 => ?_)
    · rw [← hZ]
      refine pw_rv (by decide +kernel) ?_
      have es : stx = pw_n mm := by omega
      subst es
      exact ⟨rfl, rfl⟩
    · refine pw_blk (pc' := 54) [.iconst 0, .istore 5] (by decide +kernel) ?_
      show pw_V x m_X6_survey 3 Z 54 [(5, .int (nI 0)), (0, .ref 14), (1, .ref 4), (2, .int (nI dy)), (3, .int (pw_o (gx))), (4, .int (nI stx))] [] (pw_svm mm (pw_fo (pw_z2 mm dy gx) stx (0, 0, 0, fun _ => 0)))
      refine pw_lvp [1, 2, 3, 4, 5, 0] rfl ?_
      suffices lm : ∀ spx : Nat, spx ≤ pw_n mm → pw_V x m_X6_survey 3 Z 54 [(0, .ref 14), (1, .ref 4), (2, .int (nI dy)), (3, .int (pw_o (gx))), (4, .int (nI stx)), (5, .int (nI spx))] [] (pw_svm mm (pw_fo (pw_z1 mm dy gx stx) spx (pw_fo (pw_z2 mm dy gx) stx (0, 0, 0, fun _ => 0)))) from lm 0 (by omega)
      refine pw_dn (pw_n mm) (fun spx hsp ih2 => ?_)
      refine pw_blk (pc' := 60) [.iload 5, .aload 1, .getfield 500] (by decide +kernel) ?_
      show pw_V x m_X6_survey 3 Z 60 [(0, .ref 14), (1, .ref 4), (2, .int (nI dy)), (3, .int (pw_o (gx))), (4, .int (nI stx)), (5, .int (nI spx))] [.int (mm 4 0), .int (nI spx)] (pw_svm mm (pw_fo (pw_z1 mm dy gx stx) spx (pw_fo (pw_z2 mm dy gx) stx (0, 0, 0, fun _ => 0))))
      rw [show mm 4 0 = nI (pw_n mm) from pw_q40 hok]
      refine pw_in_ge (tgt := 186) (off := 126) (by omega) (by omega) (by decide +kernel) (by decide) (fun h60 => ?_) (fun h60 => ?_)
      · have es : spx = pw_n mm := by omega
        rw [show (pw_fo (pw_z1 mm dy gx stx) spx (pw_fo (pw_z2 mm dy gx) stx (0, 0, 0, fun _ => 0))) = (pw_fo (pw_z2 mm dy gx) (stx + 1) (0, 0, 0, fun _ => 0)) from by rw [es]; rfl]
        show pw_V x m_X6_survey 3 Z 186 [(0, .ref 14), (1, .ref 4), (2, .int (nI dy)), (3, .int (pw_o (gx))), (4, .int (nI stx)), (5, .int (nI spx))] [] (pw_svm mm (pw_fo (pw_z2 mm dy gx) (stx + 1) (0, 0, 0, fun _ => 0)))
        refine pw_blk (pc' := 189) [.iinc 4 1] (by decide +kernel) ?_
        show pw_V x m_X6_survey 3 Z 189 [(4, .int ((nI stx) + (nI 1))), (0, .ref 14), (1, .ref 4), (2, .int (nI dy)), (3, .int (pw_o (gx))), (5, .int (nI spx))] [] (pw_svm mm (pw_fo (pw_z2 mm dy gx) (stx + 1) (0, 0, 0, fun _ => 0)))
        rw [show (nI stx) + (nI 1) = nI (stx + 1) from nI_add _ _]
        refine pw_goto (tgt := 42) (off := -147) (by decide +kernel) (by decide) ?_
        refine pw_lvp [1, 2, 3, 4, 0] rfl ?_
        exact ih1 (by omega)
      · refine pw_blk (pc' := 69) [.aload 1, .iload 4, .iload 5, .iload 2] (by decide +kernel) ?_
        show pw_V x m_X6_survey 3 Z 69 [(0, .ref 14), (1, .ref 4), (2, .int (nI dy)), (3, .int (pw_o (gx))), (4, .int (nI stx)), (5, .int (nI spx))] [.int (nI dy), .int (nI spx), .int (nI stx), .ref 4] (pw_svm mm (pw_fo (pw_z1 mm dy gx stx) spx (pw_fo (pw_z2 mm dy gx) stx (0, 0, 0, fun _ => 0))))
        refine pw_cV (vs := [.int (nI stx), .int (nI spx), .int (nI dy)]) (rest := []) k_X5_perilFrom (c_perilFrom stx spx dy (pw_svm mm (pw_fo (pw_z1 mm dy gx stx) spx (pw_fo (pw_z2 mm dy gx) stx (0, 0, 0, fun _ => 0)))) (pw_ok_svm hok) (by have := pw_mulb (show spx < 8 by omega) hdy; omega)) l_6_46 rfl rfl rfl rfl (by omega) (Nat.le_of_ble_eq_true rfl) (by decide +kernel) ?_
        rintro _ m1 ⟨rfl, e1⟩
        rw [e1]
        clear e1 m1
        show pw_V x m_X6_survey 3 Z 72 [(0, .ref 14), (1, .ref 4), (2, .int (nI dy)), (3, .int (pw_o (gx))), (4, .int (nI stx)), (5, .int (nI spx))] [.int (pw_o (pw_per (pw_n mm) stx spx dy))] (pw_svm mm (pw_fo (pw_z1 mm dy gx stx) spx (pw_fo (pw_z2 mm dy gx) stx (0, 0, 0, fun _ => 0))))
        refine pw_blk (pc' := 77) [.istore 6, .iconst (-1), .istore 7] (by decide +kernel) ?_
        show pw_V x m_X6_survey 3 Z 77 [(7, .int (-1)), (6, .int (pw_o (pw_per (pw_n mm) stx spx dy))), (0, .ref 14), (1, .ref 4), (2, .int (nI dy)), (3, .int (pw_o (gx))), (4, .int (nI stx)), (5, .int (nI spx))] [] (pw_svm mm (pw_fo (pw_z1 mm dy gx stx) spx (pw_fo (pw_z2 mm dy gx) stx (0, 0, 0, fun _ => 0))))
        refine pw_lvp [2, 3, 4, 5, 6, 7, 1, 0] rfl ?_
        suffices li : ∀ tx : Nat, tx ≤ pw_k mm + 1 → ∀ zx : pw_z, zx = (pw_fo (pw_zs mm dy gx stx spx) tx (pw_fo (pw_z1 mm dy gx stx) spx (pw_fo (pw_z2 mm dy gx) stx (0, 0, 0, fun _ => 0)))) → pw_V x m_X6_survey 3 Z 77 [(0, .ref 14), (1, .ref 4), (2, .int (nI dy)), (3, .int (pw_o (gx))), (4, .int (nI stx)), (5, .int (nI spx)), (6, .int (pw_o (pw_per (pw_n mm) stx spx dy))), (7, .int (pw_o (pw_mi tx)))] [] (pw_svm mm zx) from li 0 (by omega) _ rfl
        refine pw_dn (pw_k mm + 1) (fun tx htx ih3 zx hz => ?_)
        have hokI : pw_ok (pw_svm mm zx) := pw_ok_svm hok
        refine pw_blk (pc' := 83) [.iload 7, .aload 1, .getfield 501] (by decide +kernel) ?_
        show pw_V x m_X6_survey 3 Z 83 [(0, .ref 14), (1, .ref 4), (2, .int (nI dy)), (3, .int (pw_o (gx))), (4, .int (nI stx)), (5, .int (nI spx)), (6, .int (pw_o (pw_per (pw_n mm) stx spx dy))), (7, .int (pw_o (pw_mi tx)))] [.int (mm 4 1), .int (pw_o (pw_mi tx))] (pw_svm mm zx)
        rw [show mm 4 1 = nI (pw_k mm) from pw_q41 hok]
        rcases h83o : pw_mi tx with _ | s83
        · show pw_V x m_X6_survey 3 Z 83 [(0, .ref 14), (1, .ref 4), (2, .int (nI dy)), (3, .int (pw_o (gx))), (4, .int (nI stx)), (5, .int (nI spx)), (6, .int (pw_o (pw_per (pw_n mm) stx spx dy))), (7, .int (-1))] [.int (nI (pw_k mm)), .int (-1)] (pw_svm mm zx)
          refine pw_ic_ge (tgt := 180) (off := 97) (by decide +kernel) (by decide) (fun h => absurd (pw_m1_lt (by omega)) (pw_nlt h)) (fun _ => ?_)
          refine pw_blk (pc' := 89) [.iload 6, .iconst (-1)] (by decide +kernel) ?_
          show pw_V x m_X6_survey 3 Z 89 [(0, .ref 14), (1, .ref 4), (2, .int (nI dy)), (3, .int (pw_o (gx))), (4, .int (nI stx)), (5, .int (nI spx)), (6, .int (pw_o (pw_per (pw_n mm) stx spx dy))), (7, .int (-1))] [.int (-1), .int (pw_o (pw_per (pw_n mm) stx spx dy))] (pw_svm mm zx)
          rcases h89 : pw_per (pw_n mm) stx spx dy with _ | s89
          · show pw_V x m_X6_survey 3 Z 89 [(0, .ref 14), (1, .ref 4), (2, .int (nI dy)), (3, .int (pw_o (gx))), (4, .int (nI stx)), (5, .int (nI spx)), (6, .int (-1)), (7, .int (-1))] [.int (-1), .int (-1)] (pw_svm mm zx)
            refine pw_ic_eq (tgt := 174) (off := 85) (by decide +kernel) (by decide) (fun _ => ?_) (fun h => absurd rfl h)
            refine pw_blk (pc' := 177) [.iinc 7 1] (by decide +kernel) ?_
            show pw_V x m_X6_survey 3 Z 177 [(7, .int ((-1) + nI 1)), (0, .ref 14), (1, .ref 4), (2, .int (nI dy)), (3, .int (pw_o (gx))), (4, .int (nI stx)), (5, .int (nI spx)), (6, .int (-1))] [] (pw_svm mm zx)
            rw [show (-1) + nI 1 = pw_o (pw_mi (tx + 1)) from by rw [← pw_mi_s, h83o]; rfl]
            refine pw_goto (tgt := 77) (off := -100) (by decide +kernel) (by decide) ?_
            have e7 := pw_mi_n h83o
            rw [show ((-1) : Int32) = pw_o (pw_per (pw_n mm) stx spx dy) from by rw [h89]; rfl]
            refine pw_lvp [1, 2, 3, 4, 5, 6, 7, 0] rfl ?_
            refine ih3 (by omega) _ ?_
            rw [pw_fo, ← hz]
            simp [pw_zs, pw_zb, h22, h83o, h89]
          · show pw_V x m_X6_survey 3 Z 89 [(0, .ref 14), (1, .ref 4), (2, .int (nI dy)), (3, .int (pw_o (gx))), (4, .int (nI stx)), (5, .int (nI spx)), (6, .int (nI s89)), (7, .int (-1))] [.int (-1), .int (nI s89)] (pw_svm mm zx)
            have b89 := pw_perb h89
            refine pw_ic_eq (tgt := 174) (off := 85) (by decide +kernel) (by decide) (fun h => absurd h (pw_n1 (by omega))) (fun _ => ?_)
            refine pw_blk (pc' := 100) [.aload 0, .aload 1, .iload 4, .iload 5, .iload 7] (by decide +kernel) ?_
            show pw_V x m_X6_survey 3 Z 100 [(0, .ref 14), (1, .ref 4), (2, .int (nI dy)), (3, .int (pw_o (gx))), (4, .int (nI stx)), (5, .int (nI spx)), (6, .int (nI s89)), (7, .int (-1))] [.int (-1), .int (nI spx), .int (nI stx), .ref 4, .ref 14] (pw_svm mm zx)
            refine pw_cV (vs := [.ref 4, .int (nI stx), .int (nI spx), .int (-1)]) (rest := []) k_X6_isWorld (c_isWorld stx spx none (pw_svm mm zx) hokI (by omega) (by omega) (fun c hc => by cases hc)) l_6_53 rfl rfl rfl rfl (by omega) (Nat.le_of_ble_eq_true rfl) (by decide +kernel) ?_
            rintro _ m1 ⟨rfl, e1⟩
            rw [e1]
            clear e1 m1
            show pw_V x m_X6_survey 3 Z 103 [(0, .ref 14), (1, .ref 4), (2, .int (nI dy)), (3, .int (pw_o (gx))), (4, .int (nI stx)), (5, .int (nI spx)), (6, .int (nI s89)), (7, .int (-1))] [.int (pw_b (pw_isW mm stx spx none))] (pw_svm mm zx)
            refine pw_ib_eq (tgt := 174) (off := 71) (by decide +kernel) (by decide) (fun h103 => ?_) (fun h103 => ?_)
            · refine pw_blk (pc' := 177) [.iinc 7 1] (by decide +kernel) ?_
              show pw_V x m_X6_survey 3 Z 177 [(7, .int ((-1) + nI 1)), (0, .ref 14), (1, .ref 4), (2, .int (nI dy)), (3, .int (pw_o (gx))), (4, .int (nI stx)), (5, .int (nI spx)), (6, .int (nI s89))] [] (pw_svm mm zx)
              rw [show (-1) + nI 1 = pw_o (pw_mi (tx + 1)) from by rw [← pw_mi_s, h83o]; rfl]
              refine pw_goto (tgt := 77) (off := -100) (by decide +kernel) (by decide) ?_
              have e7 := pw_mi_n h83o
              rw [show (nI s89 : Int32) = pw_o (pw_per (pw_n mm) stx spx dy) from by rw [h89]; rfl]
              refine pw_lvp [1, 2, 3, 4, 5, 6, 7, 0] rfl ?_
              refine ih3 (by omega) _ ?_
              rw [pw_fo, ← hz]
              simp [pw_zs, pw_zb, h22, h83o, h89, h103]
            · refine pw_blk (pc' := 138) [.aload 0, .dup, .getfield 605, .iconst 1, .iadd, .putfield 605, .aload 0, .dup, .getfield 606, .iconst 1, .iload 6, .ishl, .ior, .putfield 606, .aload 0, .dup, .getfield 607, .iconst 1, .iload 7, .iconst (-1)] (by decide +kernel) ?_
              show pw_V x m_X6_survey 3 Z 138 [(0, .ref 14), (1, .ref 4), (2, .int (nI dy)), (3, .int (pw_o (gx))), (4, .int (nI stx)), (5, .int (nI spx)), (6, .int (nI s89)), (7, .int (-1))] [.int (-1), .int (-1), .int (nI 1), .int ((pw_svm mm zx) 14 7), .ref 14] (pw_up (pw_up (pw_svm mm zx) 14 5 (((pw_svm mm zx) 14 5) + (nI 1))) 14 6 (((pw_svm mm zx) 14 6) ||| ((nI 1) <<< ((nI s89) &&& 31))))
              rw [show (pw_svm mm zx) 14 7 = nI (zx.2.2.1) from rfl]
              rw [show (pw_svm mm zx) 14 5 = nI (zx.1) from rfl]
              rw [show (nI (zx.1)) + (nI 1) = nI ((zx.1) + 1) from nI_add _ _]
              rw [show (pw_svm mm zx) 14 6 = nI (zx.2.1) from rfl]
              rw [show (nI 1) <<< ((nI s89) &&& 31) = nI (2 ^ s89) from pw_shl1 (by omega)]
              rw [show (nI (zx.2.1)) ||| (nI (2 ^ s89)) = nI ((zx.2.1) ||| (2 ^ s89)) from fa_or _ _]
              refine pw_ic_ne (tgt := 146) (off := 8) (by decide +kernel) (by decide) (fun h => absurd rfl h) (fun _ => ?_)
              refine pw_blk (pc' := 143) [.iconst (6)] (by decide +kernel) ?_
              show pw_V x m_X6_survey 3 Z 143 [(0, .ref 14), (1, .ref 4), (2, .int (nI dy)), (3, .int (pw_o (gx))), (4, .int (nI stx)), (5, .int (nI spx)), (6, .int (nI s89)), (7, .int (-1))] [.int (nI 6), .int (nI 1), .int (nI (zx.2.2.1)), .ref 14] (pw_up (pw_up (pw_svm mm zx) 14 5 (nI ((zx.1) + 1))) 14 6 (nI ((zx.2.1) ||| (2 ^ s89))))
              refine pw_goto (tgt := 148) (off := 5) (by decide +kernel) (by decide) ?_
              refine pw_blk (pc' := 164) [.ishl, .ior, .putfield 607, .aload 0, .getfield 608, .iload 6, .dup2, .iaload, .iload 7, .iload 3] (by decide +kernel) ?_
              refine ⟨s89, rfl, by omega, ?_⟩
              show pw_V x m_X6_survey 3 Z 164 [(0, .ref 14), (1, .ref 4), (2, .int (nI dy)), (3, .int (pw_o (gx))), (4, .int (nI stx)), (5, .int (nI spx)), (6, .int (nI s89)), (7, .int (-1))] [.int (pw_o (gx)), .int (-1), .int ((pw_svm mm zx) 19 s89), .int (nI s89), .ref 19] (pw_up (pw_up (pw_up (pw_svm mm zx) 14 5 (nI ((zx.1) + 1))) 14 6 (nI ((zx.2.1) ||| (2 ^ s89)))) 14 7 ((nI (zx.2.2.1)) ||| ((nI 1) <<< ((nI 6) &&& 31))))
              rw [show (pw_svm mm zx) 19 s89 = nI (zx.2.2.2 s89) from pw_svm_r (by omega)]
              rw [show (nI 1) <<< ((nI 6) &&& 31) = nI (2 ^ 6) from pw_shl1 (by omega)]
              rw [show (nI (zx.2.2.1)) ||| (nI (2 ^ 6)) = nI ((zx.2.2.1) ||| (2 ^ 6)) from fa_or _ _]
              refine pw_oo_ne (a := none) (b := gx) (tgt := 171) (off := 7) (by decide +kernel) (by decide) (fun c hc => by cases hc) (fun c hc => by have := hgx c hc; omega) (fun h164 => ?_) (fun h164 => ?_)
              · refine pw_blk (pc' := 174) [.iconst 1, .iadd, .iastore] (by decide +kernel) ?_
                refine ⟨s89, rfl, by omega, ?_⟩
                show pw_V x m_X6_survey 3 Z 174 [(0, .ref 14), (1, .ref 4), (2, .int (nI dy)), (3, .int (pw_o (gx))), (4, .int (nI stx)), (5, .int (nI spx)), (6, .int (nI s89)), (7, .int (-1))] [] (pw_up (pw_up (pw_up (pw_up (pw_svm mm zx) 14 5 (nI ((zx.1) + 1))) 14 6 (nI ((zx.2.1) ||| (2 ^ s89)))) 14 7 (nI ((zx.2.2.1) ||| (2 ^ 6)))) 19 s89 ((nI (zx.2.2.2 s89)) + (nI 1)))
                rw [show (nI (zx.2.2.2 s89)) + (nI 1) = nI ((zx.2.2.2 s89) + 1) from nI_add _ _]
                refine pw_blk (pc' := 177) [.iinc 7 1] (by decide +kernel) ?_
                show pw_V x m_X6_survey 3 Z 177 [(7, .int ((-1) + nI 1)), (0, .ref 14), (1, .ref 4), (2, .int (nI dy)), (3, .int (pw_o (gx))), (4, .int (nI stx)), (5, .int (nI spx)), (6, .int (nI s89))] [] (pw_up (pw_up (pw_up (pw_up (pw_svm mm zx) 14 5 (nI ((zx.1) + 1))) 14 6 (nI ((zx.2.1) ||| (2 ^ s89)))) 14 7 (nI ((zx.2.2.1) ||| (2 ^ 6)))) 19 s89 (nI ((zx.2.2.2 s89) + 1)))
                rw [show (-1) + nI 1 = pw_o (pw_mi (tx + 1)) from by rw [← pw_mi_s, h83o]; rfl]
                refine pw_goto (tgt := 77) (off := -100) (by decide +kernel) (by decide) ?_
                have e7 := pw_mi_n h83o
                rw [pw_svm_s (by omega)]
                rw [show (nI s89 : Int32) = pw_o (pw_per (pw_n mm) stx spx dy) from by rw [h89]; rfl]
                refine pw_lvp [1, 2, 3, 4, 5, 6, 7, 0] rfl ?_
                refine ih3 (by omega) _ ?_
                rw [pw_fo, ← hz]
                simp [pw_zs, pw_zb, h22, h83o, h89, h103, h164]
              · refine pw_blk (pc' := 168) [.iconst 0] (by decide +kernel) ?_
                show pw_V x m_X6_survey 3 Z 168 [(0, .ref 14), (1, .ref 4), (2, .int (nI dy)), (3, .int (pw_o (gx))), (4, .int (nI stx)), (5, .int (nI spx)), (6, .int (nI s89)), (7, .int (-1))] [.int (nI 0), .int (nI (zx.2.2.2 s89)), .int (nI s89), .ref 19] (pw_up (pw_up (pw_up (pw_svm mm zx) 14 5 (nI ((zx.1) + 1))) 14 6 (nI ((zx.2.1) ||| (2 ^ s89)))) 14 7 (nI ((zx.2.2.1) ||| (2 ^ 6))))
                refine pw_goto (tgt := 172) (off := 4) (by decide +kernel) (by decide) ?_
                refine pw_blk (pc' := 174) [.iadd, .iastore] (by decide +kernel) ?_
                refine ⟨s89, rfl, by omega, ?_⟩
                show pw_V x m_X6_survey 3 Z 174 [(0, .ref 14), (1, .ref 4), (2, .int (nI dy)), (3, .int (pw_o (gx))), (4, .int (nI stx)), (5, .int (nI spx)), (6, .int (nI s89)), (7, .int (-1))] [] (pw_up (pw_up (pw_up (pw_up (pw_svm mm zx) 14 5 (nI ((zx.1) + 1))) 14 6 (nI ((zx.2.1) ||| (2 ^ s89)))) 14 7 (nI ((zx.2.2.1) ||| (2 ^ 6)))) 19 s89 ((nI (zx.2.2.2 s89)) + (nI 0)))
                rw [show (nI (zx.2.2.2 s89)) + (nI 0) = nI ((zx.2.2.2 s89) + 0) from nI_add _ _]
                refine pw_blk (pc' := 177) [.iinc 7 1] (by decide +kernel) ?_
                show pw_V x m_X6_survey 3 Z 177 [(7, .int ((-1) + nI 1)), (0, .ref 14), (1, .ref 4), (2, .int (nI dy)), (3, .int (pw_o (gx))), (4, .int (nI stx)), (5, .int (nI spx)), (6, .int (nI s89))] [] (pw_up (pw_up (pw_up (pw_up (pw_svm mm zx) 14 5 (nI ((zx.1) + 1))) 14 6 (nI ((zx.2.1) ||| (2 ^ s89)))) 14 7 (nI ((zx.2.2.1) ||| (2 ^ 6)))) 19 s89 (nI ((zx.2.2.2 s89) + 0)))
                rw [show (-1) + nI 1 = pw_o (pw_mi (tx + 1)) from by rw [← pw_mi_s, h83o]; rfl]
                refine pw_goto (tgt := 77) (off := -100) (by decide +kernel) (by decide) ?_
                have e7 := pw_mi_n h83o
                rw [pw_svm_s (by omega)]
                rw [show (nI s89 : Int32) = pw_o (pw_per (pw_n mm) stx spx dy) from by rw [h89]; rfl]
                refine pw_lvp [1, 2, 3, 4, 5, 6, 7, 0] rfl ?_
                refine ih3 (by omega) _ ?_
                rw [pw_fo, ← hz]
                simp [pw_zs, pw_zb, h22, h83o, h89, h103, h164.symm]
        · show pw_V x m_X6_survey 3 Z 83 [(0, .ref 14), (1, .ref 4), (2, .int (nI dy)), (3, .int (pw_o (gx))), (4, .int (nI stx)), (5, .int (nI spx)), (6, .int (pw_o (pw_per (pw_n mm) stx spx dy))), (7, .int (nI s83))] [.int (nI (pw_k mm)), .int (nI s83)] (pw_svm mm zx)
          have b83 := pw_mi_b htx _ h83o
          refine pw_in_ge (tgt := 180) (off := 97) (by omega) (by omega) (by decide +kernel) (by decide) (fun h83 => ?_) (fun h83 => ?_)
          · have e7 := pw_mi_inv h83o
            have hz2 : zx = pw_fo (pw_z1 mm dy gx stx) (spx + 1) (pw_fo (pw_z2 mm dy gx) stx (0, 0, 0, fun _ => 0)) := by rw [hz, show tx = pw_k mm + 1 by omega]; rfl
            rw [hz2]
            show pw_V x m_X6_survey 3 Z 180 [(0, .ref 14), (1, .ref 4), (2, .int (nI dy)), (3, .int (pw_o (gx))), (4, .int (nI stx)), (5, .int (nI spx)), (6, .int (pw_o (pw_per (pw_n mm) stx spx dy))), (7, .int (nI s83))] [] (pw_svm mm (pw_fo (pw_z1 mm dy gx stx) (spx + 1) (pw_fo (pw_z2 mm dy gx) stx (0, 0, 0, fun _ => 0))))
            refine pw_blk (pc' := 183) [.iinc 5 1] (by decide +kernel) ?_
            show pw_V x m_X6_survey 3 Z 183 [(5, .int ((nI spx) + (nI 1))), (0, .ref 14), (1, .ref 4), (2, .int (nI dy)), (3, .int (pw_o (gx))), (4, .int (nI stx)), (6, .int (pw_o (pw_per (pw_n mm) stx spx dy))), (7, .int (nI s83))] [] (pw_svm mm (pw_fo (pw_z1 mm dy gx stx) (spx + 1) (pw_fo (pw_z2 mm dy gx) stx (0, 0, 0, fun _ => 0))))
            rw [show (nI spx) + (nI 1) = nI (spx + 1) from nI_add _ _]
            refine pw_goto (tgt := 54) (off := -129) (by decide +kernel) (by decide) ?_
            refine pw_lvp [1, 2, 3, 4, 5, 0] rfl ?_
            exact ih2 (by omega)
          · refine pw_blk (pc' := 89) [.iload 6, .iconst (-1)] (by decide +kernel) ?_
            show pw_V x m_X6_survey 3 Z 89 [(0, .ref 14), (1, .ref 4), (2, .int (nI dy)), (3, .int (pw_o (gx))), (4, .int (nI stx)), (5, .int (nI spx)), (6, .int (pw_o (pw_per (pw_n mm) stx spx dy))), (7, .int (nI s83))] [.int (-1), .int (pw_o (pw_per (pw_n mm) stx spx dy))] (pw_svm mm zx)
            rcases h89 : pw_per (pw_n mm) stx spx dy with _ | s89
            · show pw_V x m_X6_survey 3 Z 89 [(0, .ref 14), (1, .ref 4), (2, .int (nI dy)), (3, .int (pw_o (gx))), (4, .int (nI stx)), (5, .int (nI spx)), (6, .int (-1)), (7, .int (nI s83))] [.int (-1), .int (-1)] (pw_svm mm zx)
              refine pw_ic_eq (tgt := 174) (off := 85) (by decide +kernel) (by decide) (fun _ => ?_) (fun h => absurd rfl h)
              refine pw_blk (pc' := 177) [.iinc 7 1] (by decide +kernel) ?_
              show pw_V x m_X6_survey 3 Z 177 [(7, .int ((nI s83) + nI 1)), (0, .ref 14), (1, .ref 4), (2, .int (nI dy)), (3, .int (pw_o (gx))), (4, .int (nI stx)), (5, .int (nI spx)), (6, .int (-1))] [] (pw_svm mm zx)
              rw [show (nI s83) + nI 1 = pw_o (pw_mi (tx + 1)) from by rw [← pw_mi_s, h83o]; rfl]
              refine pw_goto (tgt := 77) (off := -100) (by decide +kernel) (by decide) ?_
              have e7 := pw_mi_inv h83o
              rw [show ((-1) : Int32) = pw_o (pw_per (pw_n mm) stx spx dy) from by rw [h89]; rfl]
              refine pw_lvp [1, 2, 3, 4, 5, 6, 7, 0] rfl ?_
              refine ih3 (by omega) _ ?_
              rw [pw_fo, ← hz]
              simp [pw_zs, pw_zb, h22, h83o, h89]
            · show pw_V x m_X6_survey 3 Z 89 [(0, .ref 14), (1, .ref 4), (2, .int (nI dy)), (3, .int (pw_o (gx))), (4, .int (nI stx)), (5, .int (nI spx)), (6, .int (nI s89)), (7, .int (nI s83))] [.int (-1), .int (nI s89)] (pw_svm mm zx)
              have b89 := pw_perb h89
              refine pw_ic_eq (tgt := 174) (off := 85) (by decide +kernel) (by decide) (fun h => absurd h (pw_n1 (by omega))) (fun _ => ?_)
              refine pw_blk (pc' := 100) [.aload 0, .aload 1, .iload 4, .iload 5, .iload 7] (by decide +kernel) ?_
              show pw_V x m_X6_survey 3 Z 100 [(0, .ref 14), (1, .ref 4), (2, .int (nI dy)), (3, .int (pw_o (gx))), (4, .int (nI stx)), (5, .int (nI spx)), (6, .int (nI s89)), (7, .int (nI s83))] [.int (nI s83), .int (nI spx), .int (nI stx), .ref 4, .ref 14] (pw_svm mm zx)
              refine pw_cV (vs := [.ref 4, .int (nI stx), .int (nI spx), .int (nI s83)]) (rest := []) k_X6_isWorld (c_isWorld stx spx (some s83) (pw_svm mm zx) hokI (by omega) (by omega) (fun c hc => by cases hc; omega)) l_6_53 rfl rfl rfl rfl (by omega) (Nat.le_of_ble_eq_true rfl) (by decide +kernel) ?_
              rintro _ m1 ⟨rfl, e1⟩
              rw [e1]
              clear e1 m1
              show pw_V x m_X6_survey 3 Z 103 [(0, .ref 14), (1, .ref 4), (2, .int (nI dy)), (3, .int (pw_o (gx))), (4, .int (nI stx)), (5, .int (nI spx)), (6, .int (nI s89)), (7, .int (nI s83))] [.int (pw_b (pw_isW mm stx spx (some s83)))] (pw_svm mm zx)
              refine pw_ib_eq (tgt := 174) (off := 71) (by decide +kernel) (by decide) (fun h103 => ?_) (fun h103 => ?_)
              · refine pw_blk (pc' := 177) [.iinc 7 1] (by decide +kernel) ?_
                show pw_V x m_X6_survey 3 Z 177 [(7, .int ((nI s83) + nI 1)), (0, .ref 14), (1, .ref 4), (2, .int (nI dy)), (3, .int (pw_o (gx))), (4, .int (nI stx)), (5, .int (nI spx)), (6, .int (nI s89))] [] (pw_svm mm zx)
                rw [show (nI s83) + nI 1 = pw_o (pw_mi (tx + 1)) from by rw [← pw_mi_s, h83o]; rfl]
                refine pw_goto (tgt := 77) (off := -100) (by decide +kernel) (by decide) ?_
                have e7 := pw_mi_inv h83o
                rw [show (nI s89 : Int32) = pw_o (pw_per (pw_n mm) stx spx dy) from by rw [h89]; rfl]
                refine pw_lvp [1, 2, 3, 4, 5, 6, 7, 0] rfl ?_
                refine ih3 (by omega) _ ?_
                rw [pw_fo, ← hz]
                simp [pw_zs, pw_zb, h22, h83o, h89, h103]
              · refine pw_blk (pc' := 138) [.aload 0, .dup, .getfield 605, .iconst 1, .iadd, .putfield 605, .aload 0, .dup, .getfield 606, .iconst 1, .iload 6, .ishl, .ior, .putfield 606, .aload 0, .dup, .getfield 607, .iconst 1, .iload 7, .iconst (-1)] (by decide +kernel) ?_
                show pw_V x m_X6_survey 3 Z 138 [(0, .ref 14), (1, .ref 4), (2, .int (nI dy)), (3, .int (pw_o (gx))), (4, .int (nI stx)), (5, .int (nI spx)), (6, .int (nI s89)), (7, .int (nI s83))] [.int (-1), .int (nI s83), .int (nI 1), .int ((pw_svm mm zx) 14 7), .ref 14] (pw_up (pw_up (pw_svm mm zx) 14 5 (((pw_svm mm zx) 14 5) + (nI 1))) 14 6 (((pw_svm mm zx) 14 6) ||| ((nI 1) <<< ((nI s89) &&& 31))))
                rw [show (pw_svm mm zx) 14 7 = nI (zx.2.2.1) from rfl]
                rw [show (pw_svm mm zx) 14 5 = nI (zx.1) from rfl]
                rw [show (nI (zx.1)) + (nI 1) = nI ((zx.1) + 1) from nI_add _ _]
                rw [show (pw_svm mm zx) 14 6 = nI (zx.2.1) from rfl]
                rw [show (nI 1) <<< ((nI s89) &&& 31) = nI (2 ^ s89) from pw_shl1 (by omega)]
                rw [show (nI (zx.2.1)) ||| (nI (2 ^ s89)) = nI ((zx.2.1) ||| (2 ^ s89)) from fa_or _ _]
                refine pw_ic_ne (tgt := 146) (off := 8) (by decide +kernel) (by decide) (fun _ => ?_) (fun h => absurd h (pw_n1 (by omega)))
                refine pw_blk (pc' := 164) [.iload 7, .ishl, .ior, .putfield 607, .aload 0, .getfield 608, .iload 6, .dup2, .iaload, .iload 7, .iload 3] (by decide +kernel) ?_
                refine ⟨s89, rfl, by omega, ?_⟩
                show pw_V x m_X6_survey 3 Z 164 [(0, .ref 14), (1, .ref 4), (2, .int (nI dy)), (3, .int (pw_o (gx))), (4, .int (nI stx)), (5, .int (nI spx)), (6, .int (nI s89)), (7, .int (nI s83))] [.int (pw_o (gx)), .int (nI s83), .int ((pw_svm mm zx) 19 s89), .int (nI s89), .ref 19] (pw_up (pw_up (pw_up (pw_svm mm zx) 14 5 (nI ((zx.1) + 1))) 14 6 (nI ((zx.2.1) ||| (2 ^ s89)))) 14 7 ((nI (zx.2.2.1)) ||| ((nI 1) <<< ((nI s83) &&& 31))))
                rw [show (pw_svm mm zx) 19 s89 = nI (zx.2.2.2 s89) from pw_svm_r (by omega)]
                rw [show (nI 1) <<< ((nI s83) &&& 31) = nI (2 ^ s83) from pw_shl1 (by omega)]
                rw [show (nI (zx.2.2.1)) ||| (nI (2 ^ s83)) = nI ((zx.2.2.1) ||| (2 ^ s83)) from fa_or _ _]
                refine pw_oo_ne (a := some s83) (b := gx) (tgt := 171) (off := 7) (by decide +kernel) (by decide) (fun c hc => by cases hc; omega) (fun c hc => by have := hgx c hc; omega) (fun h164 => ?_) (fun h164 => ?_)
                · refine pw_blk (pc' := 174) [.iconst 1, .iadd, .iastore] (by decide +kernel) ?_
                  refine ⟨s89, rfl, by omega, ?_⟩
                  show pw_V x m_X6_survey 3 Z 174 [(0, .ref 14), (1, .ref 4), (2, .int (nI dy)), (3, .int (pw_o (gx))), (4, .int (nI stx)), (5, .int (nI spx)), (6, .int (nI s89)), (7, .int (nI s83))] [] (pw_up (pw_up (pw_up (pw_up (pw_svm mm zx) 14 5 (nI ((zx.1) + 1))) 14 6 (nI ((zx.2.1) ||| (2 ^ s89)))) 14 7 (nI ((zx.2.2.1) ||| (2 ^ s83)))) 19 s89 ((nI (zx.2.2.2 s89)) + (nI 1)))
                  rw [show (nI (zx.2.2.2 s89)) + (nI 1) = nI ((zx.2.2.2 s89) + 1) from nI_add _ _]
                  refine pw_blk (pc' := 177) [.iinc 7 1] (by decide +kernel) ?_
                  show pw_V x m_X6_survey 3 Z 177 [(7, .int ((nI s83) + nI 1)), (0, .ref 14), (1, .ref 4), (2, .int (nI dy)), (3, .int (pw_o (gx))), (4, .int (nI stx)), (5, .int (nI spx)), (6, .int (nI s89))] [] (pw_up (pw_up (pw_up (pw_up (pw_svm mm zx) 14 5 (nI ((zx.1) + 1))) 14 6 (nI ((zx.2.1) ||| (2 ^ s89)))) 14 7 (nI ((zx.2.2.1) ||| (2 ^ s83)))) 19 s89 (nI ((zx.2.2.2 s89) + 1)))
                  rw [show (nI s83) + nI 1 = pw_o (pw_mi (tx + 1)) from by rw [← pw_mi_s, h83o]; rfl]
                  refine pw_goto (tgt := 77) (off := -100) (by decide +kernel) (by decide) ?_
                  have e7 := pw_mi_inv h83o
                  rw [pw_svm_s (by omega)]
                  rw [show (nI s89 : Int32) = pw_o (pw_per (pw_n mm) stx spx dy) from by rw [h89]; rfl]
                  refine pw_lvp [1, 2, 3, 4, 5, 6, 7, 0] rfl ?_
                  refine ih3 (by omega) _ ?_
                  rw [pw_fo, ← hz]
                  simp [pw_zs, pw_zb, h22, h83o, h89, h103, h164]
                · refine pw_blk (pc' := 168) [.iconst 0] (by decide +kernel) ?_
                  show pw_V x m_X6_survey 3 Z 168 [(0, .ref 14), (1, .ref 4), (2, .int (nI dy)), (3, .int (pw_o (gx))), (4, .int (nI stx)), (5, .int (nI spx)), (6, .int (nI s89)), (7, .int (nI s83))] [.int (nI 0), .int (nI (zx.2.2.2 s89)), .int (nI s89), .ref 19] (pw_up (pw_up (pw_up (pw_svm mm zx) 14 5 (nI ((zx.1) + 1))) 14 6 (nI ((zx.2.1) ||| (2 ^ s89)))) 14 7 (nI ((zx.2.2.1) ||| (2 ^ s83))))
                  refine pw_goto (tgt := 172) (off := 4) (by decide +kernel) (by decide) ?_
                  refine pw_blk (pc' := 174) [.iadd, .iastore] (by decide +kernel) ?_
                  refine ⟨s89, rfl, by omega, ?_⟩
                  show pw_V x m_X6_survey 3 Z 174 [(0, .ref 14), (1, .ref 4), (2, .int (nI dy)), (3, .int (pw_o (gx))), (4, .int (nI stx)), (5, .int (nI spx)), (6, .int (nI s89)), (7, .int (nI s83))] [] (pw_up (pw_up (pw_up (pw_up (pw_svm mm zx) 14 5 (nI ((zx.1) + 1))) 14 6 (nI ((zx.2.1) ||| (2 ^ s89)))) 14 7 (nI ((zx.2.2.1) ||| (2 ^ s83)))) 19 s89 ((nI (zx.2.2.2 s89)) + (nI 0)))
                  rw [show (nI (zx.2.2.2 s89)) + (nI 0) = nI ((zx.2.2.2 s89) + 0) from nI_add _ _]
                  refine pw_blk (pc' := 177) [.iinc 7 1] (by decide +kernel) ?_
                  show pw_V x m_X6_survey 3 Z 177 [(7, .int ((nI s83) + nI 1)), (0, .ref 14), (1, .ref 4), (2, .int (nI dy)), (3, .int (pw_o (gx))), (4, .int (nI stx)), (5, .int (nI spx)), (6, .int (nI s89))] [] (pw_up (pw_up (pw_up (pw_up (pw_svm mm zx) 14 5 (nI ((zx.1) + 1))) 14 6 (nI ((zx.2.1) ||| (2 ^ s89)))) 14 7 (nI ((zx.2.2.1) ||| (2 ^ s83)))) 19 s89 (nI ((zx.2.2.2 s89) + 0)))
                  rw [show (nI s83) + nI 1 = pw_o (pw_mi (tx + 1)) from by rw [← pw_mi_s, h83o]; rfl]
                  refine pw_goto (tgt := 77) (off := -100) (by decide +kernel) (by decide) ?_
                  have e7 := pw_mi_inv h83o
                  rw [pw_svm_s (by omega)]
                  rw [show (nI s89 : Int32) = pw_o (pw_per (pw_n mm) stx spx dy) from by rw [h89]; rfl]
                  refine pw_lvp [1, 2, 3, 4, 5, 6, 7, 0] rfl ?_
                  refine ih3 (by omega) _ ?_
                  rw [pw_fo, ← hz]
                  simp [pw_zs, pw_zb, h22, h83o, h89, h103, h164.symm]
  · refine pw_blk (pc' := 36) [.aload 0, .getfield 608, .iload 4, .iconst 0, .iastore, .iinc 4 1] (by decide +kernel) ?_
    refine ⟨i, rfl, by omega, ?_⟩
    show pw_V x m_X6_survey 3 Z 36 [(4, .int ((nI i) + (nI 1))), (0, .ref 14), (1, .ref 4), (2, .int (nI dy)), (3, .int (pw_o (gx)))] [] (pw_up (pw_svI mm i) 19 i (nI 0))
    rw [show (nI i) + (nI 1) = nI (i + 1) from nI_add _ _]
    refine pw_goto (tgt := 18) (off := -18) (by decide +kernel) (by decide) ?_
    rw [pw_svI_s]
    refine pw_lvp [1, 2, 3, 4, 0] rfl ?_
    exact ih (by omega)
