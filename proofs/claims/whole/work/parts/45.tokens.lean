/-! the text, token by token: functions of the letters (cell 3) and their number (cell 2, place 1) -/
def pw_tx (A B : pw_m) : Prop := B 3 = A 3 ∧ B 2 1 = A 2 1
theorem pw_tx_r {A : pw_m} : pw_tx A A := ⟨rfl, rfl⟩
theorem pw_tx_u {A B : pw_m} {c k : Nat} {v : Int32} (h : pw_tx A B) (h1 : c ≠ 3 ∧ ¬ (c = 2 ∧ k = 1)) : pw_tx A (pw_up B c k v) := by
  refine ⟨by rw [pw_up_ne (fun q => h1.1 q.symm)]; exact h.1, ?_⟩
  by_cases hc : c = 2
  · subst hc
    rw [pw_up_eq]
    unfold upd
    rw [if_neg (fun q => h1.2 ⟨rfl, q.symm⟩)]
    exact h.2
  · rw [pw_up_ne (fun q => hc q.symm)]; exact h.2
theorem pw_tx_f {A B m : pw_m} (h : pw_tx A B) (h1 : m 3 = B 3) (h2 : m 2 1 = B 2 1) : pw_tx A m := ⟨h1.trans h.1, h2.trans h.2⟩
theorem pw_tx_g {A B : pw_m} (h : pw_tx A B) : pw_g B 2 1 = pw_g A 2 1 := by unfold pw_g; rw [h.2]
theorem pw_skF_c {A B : pw_m} (h : B 3 = A 3) : ∀ f i, pw_skF B f i = pw_skF A f i := by
  intro f
  induction f with
  | zero => intro i; rfl
  | succ f ih => intro i; rw [pw_skF, pw_skF, h, ih]
theorem pw_rnF_c {A B : pw_m} {t : Int32} (h : B 3 = A 3) : ∀ f i, pw_rnF B t f i = pw_rnF A t f i := by
  intro f
  induction f with
  | zero => intro i; rfl
  | succ f ih => intro i; rw [pw_rnF, pw_rnF, h, ih]
theorem pw_dg_c {A B : pw_m} (h : B 3 = A 3) (b : Nat) : ∀ f, pw_dg B b f = pw_dg A b f := by
  intro f
  induction f with
  | zero => rfl
  | succ f ih => rw [pw_dg, pw_dg, h, ih]
theorem pw_wdF_c {A B : pw_m} (h : B 3 = A 3) (b e : Nat) : ∀ f i nb ax al, pw_wdF B b e f i nb ax al = pw_wdF A b e f i nb ax al := by
  intro f
  induction f with
  | zero => intro i nb ax al; rfl
  | succ f ih => intro i nb ax al; rw [pw_wdF, pw_wdF, h, ih, ih, ih]
theorem pw_sk_c {A B : pw_m} (h : pw_tx A B) (i : Nat) : pw_sk B i = pw_sk A i := by unfold pw_sk; rw [pw_tx_g h, pw_skF_c h.1]
theorem pw_rn_c {A B : pw_m} (h : pw_tx A B) (t : Int32) (i : Nat) : pw_rn B t i = pw_rn A t i := by unfold pw_rn; rw [pw_tx_g h, pw_rnF_c h.1]
/-- the token that is read from e on: where it begins, its sort, where it ends; is it a semicolon, its number, its word -/
def pw_tB (A : pw_m) (e : Nat) : Nat := pw_sk A e
def pw_tT (A : pw_m) (e : Nat) : Int32 := if pw_sk A e < pw_g A 2 1 then F_tk (A 3 (pw_sk A e)) else nI 0
def pw_tE (A : pw_m) (e : Nat) : Nat := if pw_sk A e < pw_g A 2 1 then pw_rn A (F_tk (A 3 (pw_sk A e))) (pw_sk A e + 1) else pw_g A 2 1
def pw_tS (A : pw_m) (e : Nat) : Bool := decide (pw_tT A e = nI 3 ∧ pw_tB A e < pw_g A 2 1 ∧ A 3 (pw_tB A e) = nI 59)
def pw_tN (A : pw_m) (e : Nat) : Int32 := if pw_tT A e = nI 2 ∧ pw_tE A e - pw_tB A e ≤ 2 then pw_dg A (pw_tB A e) (pw_tE A e - pw_tB A e) else -1
def pw_tW (A : pw_m) (e : Nat) : Option Nat := if pw_tT A e = nI 1 then pw_wdF A (pw_tB A e) (pw_tE A e) 74 0 0 (pw_tB A e) true else none
theorem pw_tb1 {A : pw_m} {e : Nat} (h : e ≤ pw_g A 2 1) : e ≤ pw_tB A e ∧ pw_tB A e ≤ pw_tE A e ∧ pw_tE A e ≤ pw_g A 2 1 := by
  have h1 := pw_sk_b h
  unfold pw_tE pw_tB
  split
  · rename_i hq
    have h2 := pw_rn_b (A := A) (t := F_tk (A 3 (pw_sk A e))) (i := pw_sk A e + 1) (by omega)
    omega
  · omega
theorem c_adv {A : pw_m} (mm : pw_m) (ht : pw_tx A mm) (hx : A 2 1 = nI (pw_g A 2 1)) (bwr : pw_g A 2 1 ≤ 160) (e : Nat) (he : mm 2 4 = nI e) (he2 : e ≤ pw_g A 2 1) : pw_Ct 1 yX3_advance m_X3_advance [.ref 2] mm (fun r m' => r = none ∧ m' = pw_up (pw_up (pw_up mm 2 3 (nI (pw_tB A e))) 2 2 (pw_tT A e)) 2 4 (nI (pw_tE A e))) := by
  have hg := pw_tx_g ht
  have h := c_advance mm (by rw [hg, ht.2]; exact hx) (by rw [hg]; exact bwr) e he (by rw [hg]; exact he2)
  have e1 : G_adv mm e = pw_up (pw_up (pw_up mm 2 3 (nI (pw_tB A e))) 2 2 (pw_tT A e)) 2 4 (nI (pw_tE A e)) := by
    unfold G_adv pw_tB pw_tT pw_tE
    rw [pw_sk_c ht, hg, ht.1, pw_rn_c ht]
    split <;> rfl
  rw [e1] at h
  exact h
theorem c_semi {A : pw_m} (mm : pw_m) (ht : pw_tx A mm) (hx : A 2 1 = nI (pw_g A 2 1)) (bwr : pw_g A 2 1 ≤ 160) (e : Nat) (hb : mm 2 3 = nI (pw_tB A e)) (h2 : mm 2 2 = pw_tT A e) (he2 : e ≤ pw_g A 2 1) : pw_Ct 0 yX3_isSemicolon m_X3_isSemicolon [.ref 2] mm (fun r m' => r = some (.int (pw_b (pw_tS A e))) ∧ m' = mm) := by
  have hg := pw_tx_g ht
  have hb1 := pw_tb1 he2
  have h := c_isSemicolon mm (by rw [hg, ht.2]; exact hx) (by rw [hg]; exact bwr) (pw_tB A e) hb (by rw [hg]; omega)
  have e1 : F_sc mm (pw_tB A e) = pw_tS A e := by unfold F_sc pw_tS; rw [h2, hg, ht.1]
  rw [e1] at h
  exact h
theorem c_numb {A : pw_m} (mm : pw_m) (ht : pw_tx A mm) (hx : A 2 1 = nI (pw_g A 2 1)) (bwr : pw_g A 2 1 ≤ 160) (e : Nat) (hb : mm 2 3 = nI (pw_tB A e)) (h2 : mm 2 2 = pw_tT A e) (h4 : mm 2 4 = nI (pw_tE A e)) (he2 : e ≤ pw_g A 2 1) : pw_Ct 0 yX3_number m_X3_number [.ref 2] mm (fun r m' => r = some (.int (pw_tN A e)) ∧ m' = mm) := by
  have hg := pw_tx_g ht
  have hb1 := pw_tb1 he2
  have h := c_number mm (by rw [hg, ht.2]; exact hx) (by rw [hg]; exact bwr) (pw_tB A e) (pw_tE A e) hb h4 (by omega) (by rw [hg]; omega)
  have e1 : F_num mm (pw_tB A e) (pw_tE A e) = pw_tN A e := by unfold F_num pw_tN; rw [h2, pw_dg_c ht.1]
  rw [e1] at h
  exact h
theorem c_word {A : pw_m} (mm : pw_m) (ht : pw_tx A mm) (hx : A 2 1 = nI (pw_g A 2 1)) (bwr : pw_g A 2 1 ≤ 160) (e : Nat) (hb : mm 2 3 = nI (pw_tB A e)) (h2 : mm 2 2 = pw_tT A e) (h4 : mm 2 4 = nI (pw_tE A e)) (he2 : e ≤ pw_g A 2 1) : pw_Ct 0 yX2_wordThatStandsHere m_X2_wordThatStandsHere [.ref 1] mm (fun r m' => r = some (.int (pw_o (pw_tW A e))) ∧ m' = mm) := by
  have hg := pw_tx_g ht
  have hb1 := pw_tb1 he2
  have h := c_wordThatStandsHere mm (by rw [hg, ht.2]; exact hx) (by rw [hg]; exact bwr) (pw_tB A e) (pw_tE A e) hb h4 (by omega) (by rw [hg]; omega)
  have e1 : F_wd mm (pw_tB A e) (pw_tE A e) = pw_tW A e := by unfold F_wd pw_tW; rw [h2, pw_wdF_c ht.1]
  rw [e1] at h
  exact h
/-- a word's number is less than 12 -/
def pw_dots (i : Nat) : Nat := pw_ct_ (fun j => decide (pw_k2 j = nI 46)) i
theorem pw_dots74 : pw_dots 74 = 12 := by decide +kernel
theorem pw_ct_mono {p : Nat → Bool} {a b : Nat} (h : a ≤ b) : pw_ct_ p a ≤ pw_ct_ p b := by
  induction b with
  | zero => have : a = 0 := by omega
            subst this; exact Nat.le_refl _
  | succ b ih =>
    rcases Nat.lt_or_ge b a with q | q
    · have : a = b + 1 := by omega
      subst this; exact Nat.le_refl _
    · have := ih q
      simp only [pw_ct_]; omega
theorem pw_wdF_b {A : pw_m} {b e : Nat} : ∀ f i nb ax al r, i + f ≤ 74 → nb ≤ pw_dots i → pw_wdF A b e f i nb ax al = some r → r < 12 := by
  intro f
  induction f with
  | zero => intro i nb ax al r _ _ h; cases h
  | succ f ih =>
    intro i nb ax al r hi hn h
    have hd : pw_dots (i + 1) = pw_dots i + (if decide (pw_k2 i = nI 46) = true then 1 else 0) := rfl
    have hm : pw_dots (i + 1) ≤ pw_dots 74 := pw_ct_mono (by omega)
    rw [pw_dots74] at hm
    rw [pw_wdF] at h
    split at h
    · rename_i h46
      rw [decide_eq_true h46, if_pos rfl] at hd
      split at h
      · cases h; omega
      · exact ih (i + 1) (nb + 1) b true r (by omega) (by omega) h
    · rename_i h46
      have hle : nb ≤ pw_dots (i + 1) := by omega
      split at h
      · exact ih (i + 1) nb (ax + 1) true r (by omega) hle h
      · exact ih (i + 1) nb ax false r (by omega) hle h
theorem pw_tW_b {A : pw_m} {e w : Nat} (h : pw_tW A e = some w) : w < 12 := by
  unfold pw_tW at h
  split at h
  · exact pw_wdF_b 74 0 0 (pw_tB A e) true w (by omega) (Nat.zero_le _) h
  · cases h
/-- a clause: the bounds of its numbers, how many there are -/
def pw_nb (w : Nat) : Nat := if w = 0 ∨ w = 4 ∨ w = 10 then 1 else if w = 11 then 0 else 2
def pw_le_ (w : Nat) : Nat := if w = 0 then 3 else 0
def pw_mf (s k w : Nat) : Nat := if w = 0 then 9 else if w = 5 ∨ w = 6 ∨ w = 7 then 10 else if w = 8 ∨ w = 10 then k else s
def pw_ms (k w : Nat) : Nat := if w = 8 then k else if w = 9 then 8 else 10
def pw_kw (w : Nat) : Bool := decide (5 ≤ w ∧ w ≤ 7)
/-- no less than lo, less than hi -/
def pw_rgb (lo hi : Nat) (a : Int32) : Bool := decide (¬ a < nI lo ∧ a ≤ nI hi - nI 1)
theorem pw_nb_n : ∀ w, w < 12 → F_nb (nI w) = nI (pw_nb w) := by decide
theorem pw_le_n : ∀ w, w < 12 → F_ln (nI w) = nI (pw_le_ w) := by decide
theorem pw_kw_n : ∀ w, w < 12 → F_kw (nI w) = pw_kw w := by decide
theorem pw_mf_n {A : pw_m} {s k w : Nat} (hw : w < 12) (hs : A 1 2 = nI s) (hk : A 1 3 = nI k) : F_mf A (nI w) = nI (pw_mf s k w) - nI 1 := by
  unfold F_mf pw_mf
  rw [hs, hk]
  have h : ∀ b, b < 12 → (nI w = nI b ↔ w = b) := fun b hb => nI_eq (by omega) (by omega)
  simp only [h 0 (by omega), h 5 (by omega), h 6 (by omega), h 7 (by omega), h 8 (by omega), h 10 (by omega)]
  split
  · rfl
  · split
    · rfl
    · split <;> rfl
theorem pw_ms_n {A : pw_m} {k w : Nat} (hw : w < 12) (hk : A 1 3 = nI k) : F_ms A (nI w) = nI (pw_ms k w) - nI 1 := by
  unfold F_ms pw_ms
  rw [hk]
  have h : ∀ b, b < 12 → (nI w = nI b ↔ w = b) := fun b hb => nI_eq (by omega) (by omega)
  simp only [h 8 (by omega), h 9 (by omega)]
  split
  · rfl
  · split <;> rfl
theorem pw_sub1I {a : Nat} (h : a < 2 ^ 31) : (nI a - nI 1).toInt = (a : Int) - 1 := by
  rw [Int32.toInt_sub, nI_toInt h, nI_toInt (by omega)]
  rw [Int.bmod_def]
  split <;> omega
theorem pw_rgb_t {lo hi : Nat} {a : Int32} (h : pw_rgb lo hi a = true) (hl : lo < 1000) (hh : hi < 1000) : ∃ y : Nat, a = nI y ∧ lo ≤ y ∧ y < hi := by
  obtain ⟨h1, h2⟩ := of_decide_eq_true h
  have h0 : ¬ a < 0 := by
    intro q
    apply h1
    rw [Int32.lt_iff_toInt_lt] at q ⊢
    rw [nI_toInt (by omega)]
    have : (0 : Int32).toInt = 0 := by decide
    omega
  obtain ⟨j, hj, e⟩ := nI_of h0
  subst e
  refine ⟨j, rfl, ?_, ?_⟩
  · rcases Nat.lt_or_ge j lo with q | q
    · exact absurd ((nI_ltI hj (by omega)).mpr q) h1
    · exact q
  · rw [Int32.le_iff_toInt_le, nI_toInt hj, pw_sub1I (by omega)] at h2; omega
theorem pw_rgb_n {lo hi y : Nat} (hl : lo < 1000) (hh : hi < 1000) (hy : y < 2 ^ 31) : pw_rgb lo hi (nI y) = decide (lo ≤ y ∧ y < hi) := by
  unfold pw_rgb
  congr 1
  rw [nI_ltI hy (by omega), Int32.le_iff_toInt_le, nI_toInt hy, pw_sub1I (by omega)]
  apply propext
  constructor
  · intro ⟨h1, h2⟩; omega
  · intro ⟨h1, h2⟩; omega
/-- a clause that is read from e on: from where its last token is read, and, if it is well, its word and numbers -/
def pw_cz (A : pw_m) (s k e : Nat) : Nat × Option (Nat × Nat × Nat) := match pw_tW A e with
  | none => (e, none)
  | some w =>
    if pw_kw w = true ∧ 6 ≤ k then (e, none)
    else if pw_nb w < 1 then (e, some (w, 0, 0))
    else if pw_rgb (pw_le_ w) (pw_mf s k w) (pw_tN A (pw_tE A e)) = true then
      (if pw_nb w < 2 then (pw_tE A e, some (w, pw_c (pw_tN A (pw_tE A e)), 0))
       else if pw_rgb 0 (pw_ms k w) (pw_tN A (pw_tE A (pw_tE A e))) = true ∧ ¬ (w = 8 ∧ pw_tN A (pw_tE A (pw_tE A e)) = pw_tN A (pw_tE A e)) then (pw_tE A (pw_tE A e), some (w, pw_c (pw_tN A (pw_tE A e)), pw_c (pw_tN A (pw_tE A (pw_tE A e)))))
       else (pw_tE A (pw_tE A e), none))
    else (pw_tE A e, none)
/-- SEATS and KNIGHTS behind it -/
def pw_s2_ (s w a : Nat) : Nat := if w = 0 then a else s
def pw_k2_ (k w : Nat) : Nat := if w = 0 then 0 else if pw_kw w = true then k + 1 else k
theorem G_tal_o {A : pw_m} {c : Nat} (h : c ≠ 1) : G_tal A c = A c := by
  unfold G_tal
  split
  · rw [pw_up_ne h, pw_up_ne h]
  · split
    · rw [pw_up_ne h]
    · rfl
theorem G_tal_1 {A : pw_m} {j : Nat} (h2 : j ≠ 2) (h3 : j ≠ 3) : G_tal A 1 j = A 1 j := by
  unfold G_tal
  split
  · rw [pw_up_eq, pw_up_eq]; simp [upd, h2, h3]
  · split
    · rw [pw_up_eq]; simp [upd, h3]
    · rfl
theorem G_tal_2 {A : pw_m} {w : Nat} (hw : w < 12) (h4 : A 1 4 = nI w) : G_tal A 1 2 = if w = 0 then A 1 5 else A 1 2 := by
  unfold G_tal
  have e : A 1 4 = 0 ↔ w = 0 := by rw [h4]; exact nI_eq (b := 0) (by omega) (by omega)
  by_cases h : w = 0
  · rw [if_pos (e.mpr h), if_pos h, pw_up_eq, pw_up_eq]; simp [upd]
  · rw [if_neg (fun q => h (e.mp q)), if_neg h]
    split
    · rw [pw_up_eq]; simp [upd]
    · rfl
theorem G_tal_3 {A : pw_m} {w k : Nat} (hw : w < 12) (h4 : A 1 4 = nI w) (h3 : A 1 3 = nI k) : G_tal A 1 3 = nI (pw_k2_ k w) := by
  unfold G_tal pw_k2_
  have e : A 1 4 = 0 ↔ w = 0 := by rw [h4]; exact nI_eq (b := 0) (by omega) (by omega)
  by_cases h : w = 0
  · rw [if_pos (e.mpr h), if_pos h, pw_up_eq]; simp [upd]
  · rw [if_neg (fun q => h (e.mp q)), if_neg h, h4, pw_kw_n w hw]
    split
    · rw [pw_up_eq, h3]; simp [upd]; exact nI_add k 1
    · exact h3
/-- what a read clause leaves -/
def pw_rcp (A mm B : pw_m) (s k e : Nat) : Prop := (∀ c, c ≠ 1 → c ≠ 2 → B c = mm c) ∧ B 2 1 = mm 2 1 ∧ B 1 1 = mm 1 1 ∧ B 2 3 = nI (pw_tB A (pw_cz A s k e).1) ∧ B 2 4 = nI (pw_tE A (pw_cz A s k e).1) ∧ ∀ w a b, (pw_cz A s k e).2 = some (w, a, b) → w < 12 ∧ B 1 4 = nI w ∧ B 1 5 = (if pw_nb w < 1 then -1 else nI a) ∧ B 1 6 = (if pw_nb w < 2 then -1 else nI b) ∧ B 1 2 = nI (pw_s2_ s w a) ∧ B 1 3 = nI (pw_k2_ k w)
theorem pw_rc_no {A mm B : pw_m} {s k e el : Nat} (hcl : pw_cz A s k e = (el, none)) (h0 : ∀ c, c ≠ 1 → c ≠ 2 → B c = mm c) (h1 : B 2 1 = mm 2 1) (h2 : B 1 1 = mm 1 1) (h3 : B 2 3 = nI (pw_tB A el)) (h4 : B 2 4 = nI (pw_tE A el)) : (pw_cz A s k e).2.isSome = false ∧ pw_rcp A mm B s k e := by
  unfold pw_rcp
  rw [hcl]
  exact ⟨rfl, h0, h1, h2, h3, h4, fun w a b h => by cases h⟩
theorem pw_rc_ok {A mm B : pw_m} {s k e el w a b : Nat} (hcl : pw_cz A s k e = (el, some (w, a, b))) (hw : w < 12) (h0 : ∀ c, c ≠ 1 → c ≠ 2 → B c = mm c) (h1 : B 2 1 = mm 2 1) (h2 : B 1 1 = mm 1 1) (h3 : B 2 3 = nI (pw_tB A el)) (h4 : B 2 4 = nI (pw_tE A el)) (h5 : B 1 4 = nI w) (h6 : B 1 5 = if pw_nb w < 1 then -1 else nI a) (h7 : B 1 6 = if pw_nb w < 2 then -1 else nI b) (h8 : B 1 2 = nI s) (h9 : B 1 3 = nI k) : (pw_cz A s k e).2.isSome = true ∧ pw_rcp A mm (G_tal B) s k e := by
  unfold pw_rcp
  rw [hcl]
  refine ⟨rfl, fun c q1 q2 => by rw [G_tal_o q1]; exact h0 c q1 q2, by rw [G_tal_o (by omega)]; exact h1, by rw [G_tal_1 (by omega) (by omega)]; exact h2, by rw [G_tal_o (by omega)]; exact h3, by rw [G_tal_o (by omega)]; exact h4, fun w' a' b' h => ?_⟩
  have e1 : (w, a, b) = (w', a', b') := Option.some.inj h
  have ew : w = w' := congrArg (·.1) e1
  have ea : a = a' := congrArg (·.2.1) e1
  have eb : b = b' := congrArg (·.2.2) e1
  subst ew ea eb
  refine ⟨hw, by rw [G_tal_1 (by omega) (by omega)]; exact h5, by rw [G_tal_1 (by omega) (by omega)]; exact h6, by rw [G_tal_1 (by omega) (by omega)]; exact h7, ?_, G_tal_3 hw h5 h9⟩
  rw [G_tal_2 hw h5, h6, h8]
  unfold pw_s2_
  by_cases q : w = 0
  · subst q; rfl
  · rw [if_neg q, if_neg q]
