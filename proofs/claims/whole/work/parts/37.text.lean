def F_tk (c : Int32) : Int32 := if ¬ c < nI 97 ∧ ¬ nI 122 < c then nI 1 else if ¬ c < nI 48 ∧ ¬ nI 57 < c then nI 2 else nI 3
def F_kw (w : Int32) : Bool := decide (¬ w < nI 5 ∧ ¬ nI 7 < w)

set_option maxHeartbeats 4000000 in
set_option maxRecDepth 100000 in
theorem c_tokenOf (c : Int32) (mm : pw_m) : pw_Ct 0 yX3_tokenOf m_X3_tokenOf [.int c] mm (fun r m' => r = some (.int (F_tk c)) ∧ m' = mm) := by
  refine pw_ct (by decide +kernel) rfl (Nat.le_of_ble_eq_true rfl) (fun x => ?_)
  generalize hZ : pw_Z x _ = Z
  show pw_V x m_X3_tokenOf 0 Z 0 [(0, .int c)] [] mm
  refine pw_blk (pc' := 3) [.iload 0, .iconst (97)] (by decide +kernel) ?_
  show pw_V x m_X3_tokenOf 0 Z 3 [(0, .int c)] [.int (nI 97), .int c] mm
  refine pw_ic_lt (tgt := 14) (off := 11) (by decide +kernel) (by decide) (fun h3 => ?_) (fun h3 => ?_)
  · refine pw_blk (pc' := 17) [.iload 0, .iconst (48)] (by decide +kernel) ?_
    show pw_V x m_X3_tokenOf 0 Z 17 [(0, .int c)] [.int (nI 48), .int c] mm
    refine pw_ic_lt (tgt := 30) (off := 13) (by decide +kernel) (by decide) (fun h17 => ?_) (fun h17 => ?_)
    · refine pw_blk (pc' := 31) [.iconst 3] (by decide +kernel) ?_
      show pw_V x m_X3_tokenOf 0 Z 31 [(0, .int c)] [.int (nI 3)] mm
      rw [← hZ]
      refine pw_ri (by decide +kernel) ?_
      refine ⟨?_, rfl⟩
      simp [F_tk, F_kw, h3, h17]
      try rfl
    · refine pw_blk (pc' := 23) [.iload 0, .iconst (57)] (by decide +kernel) ?_
      show pw_V x m_X3_tokenOf 0 Z 23 [(0, .int c)] [.int (nI 57), .int c] mm
      refine pw_ic_gt (tgt := 30) (off := 7) (by decide +kernel) (by decide) (fun h23 => ?_) (fun h23 => ?_)
      · refine pw_blk (pc' := 31) [.iconst 3] (by decide +kernel) ?_
        show pw_V x m_X3_tokenOf 0 Z 31 [(0, .int c)] [.int (nI 3)] mm
        rw [← hZ]
        refine pw_ri (by decide +kernel) ?_
        refine ⟨?_, rfl⟩
        simp [F_tk, F_kw, h3, h17, h23]
        try rfl
      · refine pw_blk (pc' := 27) [.iconst 2] (by decide +kernel) ?_
        show pw_V x m_X3_tokenOf 0 Z 27 [(0, .int c)] [.int (nI 2)] mm
        refine pw_goto (tgt := 31) (off := 4) (by decide +kernel) (by decide) ?_
        rw [← hZ]
        refine pw_ri (by decide +kernel) ?_
        refine ⟨?_, rfl⟩
        simp [F_tk, F_kw, h3, h17, h23]
        try rfl
  · refine pw_blk (pc' := 9) [.iload 0, .iconst (122)] (by decide +kernel) ?_
    show pw_V x m_X3_tokenOf 0 Z 9 [(0, .int c)] [.int (nI 122), .int c] mm
    refine pw_ic_gt (tgt := 14) (off := 5) (by decide +kernel) (by decide) (fun h9 => ?_) (fun h9 => ?_)
    · refine pw_blk (pc' := 17) [.iload 0, .iconst (48)] (by decide +kernel) ?_
      show pw_V x m_X3_tokenOf 0 Z 17 [(0, .int c)] [.int (nI 48), .int c] mm
      refine pw_ic_lt (tgt := 30) (off := 13) (by decide +kernel) (by decide) (fun h17 => ?_) (fun h17 => ?_)
      · refine pw_blk (pc' := 31) [.iconst 3] (by decide +kernel) ?_
        show pw_V x m_X3_tokenOf 0 Z 31 [(0, .int c)] [.int (nI 3)] mm
        rw [← hZ]
        refine pw_ri (by decide +kernel) ?_
        refine ⟨?_, rfl⟩
        simp [F_tk, F_kw, h3, h9, h17]
        try rfl
      · refine pw_blk (pc' := 23) [.iload 0, .iconst (57)] (by decide +kernel) ?_
        show pw_V x m_X3_tokenOf 0 Z 23 [(0, .int c)] [.int (nI 57), .int c] mm
        refine pw_ic_gt (tgt := 30) (off := 7) (by decide +kernel) (by decide) (fun h23 => ?_) (fun h23 => ?_)
        · refine pw_blk (pc' := 31) [.iconst 3] (by decide +kernel) ?_
          show pw_V x m_X3_tokenOf 0 Z 31 [(0, .int c)] [.int (nI 3)] mm
          rw [← hZ]
          refine pw_ri (by decide +kernel) ?_
          refine ⟨?_, rfl⟩
          simp [F_tk, F_kw, h3, h9, h17, h23]
          try rfl
        · refine pw_blk (pc' := 27) [.iconst 2] (by decide +kernel) ?_
          show pw_V x m_X3_tokenOf 0 Z 27 [(0, .int c)] [.int (nI 2)] mm
          refine pw_goto (tgt := 31) (off := 4) (by decide +kernel) (by decide) ?_
          rw [← hZ]
          refine pw_ri (by decide +kernel) ?_
          refine ⟨?_, rfl⟩
          simp [F_tk, F_kw, h3, h9, h17, h23]
          try rfl
    · refine pw_blk (pc' := 13) [.iconst 1] (by decide +kernel) ?_
      show pw_V x m_X3_tokenOf 0 Z 13 [(0, .int c)] [.int (nI 1)] mm
      rw [← hZ]
      refine pw_ri (by decide +kernel) ?_
      refine ⟨?_, rfl⟩
      simp [F_tk, F_kw, h3, h9]
      try rfl

set_option maxHeartbeats 4000000 in
set_option maxRecDepth 100000 in
theorem c_isKnightWord (w : Int32) (mm : pw_m) : pw_Ct 0 yX2_isKnightWord m_X2_isKnightWord [.int w] mm (fun r m' => r = some (.int (pw_b (F_kw w))) ∧ m' = mm) := by
  refine pw_ct (by decide +kernel) rfl (Nat.le_of_ble_eq_true rfl) (fun x => ?_)
  generalize hZ : pw_Z x _ = Z
  show pw_V x m_X2_isKnightWord 0 Z 0 [(0, .int w)] [] mm
  refine pw_blk (pc' := 2) [.iload 0, .iconst 5] (by decide +kernel) ?_
  show pw_V x m_X2_isKnightWord 0 Z 2 [(0, .int w)] [.int (nI 5), .int w] mm
  refine pw_ic_lt (tgt := 15) (off := 13) (by decide +kernel) (by decide) (fun h2 => ?_) (fun h2 => ?_)
  · refine pw_blk (pc' := 16) [.iconst 0] (by decide +kernel) ?_
    show pw_V x m_X2_isKnightWord 0 Z 16 [(0, .int w)] [.int (nI 0)] mm
    rw [← hZ]
    refine pw_rz (by decide +kernel) (Or.inl rfl) ?_
    refine ⟨?_, rfl⟩
    simp [F_tk, F_kw, h2]
    try rfl
  · refine pw_blk (pc' := 8) [.iload 0, .iconst (7)] (by decide +kernel) ?_
    show pw_V x m_X2_isKnightWord 0 Z 8 [(0, .int w)] [.int (nI 7), .int w] mm
    refine pw_ic_gt (tgt := 15) (off := 7) (by decide +kernel) (by decide) (fun h8 => ?_) (fun h8 => ?_)
    · refine pw_blk (pc' := 16) [.iconst 0] (by decide +kernel) ?_
      show pw_V x m_X2_isKnightWord 0 Z 16 [(0, .int w)] [.int (nI 0)] mm
      rw [← hZ]
      refine pw_rz (by decide +kernel) (Or.inl rfl) ?_
      refine ⟨?_, rfl⟩
      simp [F_tk, F_kw, h2, h8]
      try rfl
    · refine pw_blk (pc' := 12) [.iconst 1] (by decide +kernel) ?_
      show pw_V x m_X2_isKnightWord 0 Z 12 [(0, .int w)] [.int (nI 1)] mm
      refine pw_goto (tgt := 16) (off := 4) (by decide +kernel) (by decide) ?_
      rw [← hZ]
      refine pw_rz (by decide +kernel) (Or.inr rfl) ?_
      refine ⟨?_, rfl⟩
      simp [F_tk, F_kw, h2, h8]
      try rfl

def F_nb (w : Int32) : Int32 := if w = nI 0 ∨ w = nI 4 ∨ w = nI 10 then nI 1 else if w = nI 11 then nI 0 else nI 2
def G_rew (A : pw_m) : pw_m := pw_up (pw_up (pw_up A 2 2 (nI 0)) 2 3 (nI 0)) 2 4 (nI 0)
def G_tal (A : pw_m) : pw_m := if A 1 4 = 0 then pw_up (pw_up A 1 2 (A 1 5)) 1 3 (nI 0) else if F_kw (A 1 4) then pw_up A 1 3 (A 1 3 + nI 1) else A
def F_ln (w : Int32) : Int32 := if w = 0 then nI 3 else nI 0

set_option maxHeartbeats 4000000 in
set_option maxRecDepth 100000 in
theorem c_leastNumber (w : Int32) (mm : pw_m) : pw_Ct 0 yX2_leastNumber m_X2_leastNumber [.int w] mm (fun r m' => r = some (.int (F_ln w)) ∧ m' = mm) := by
  refine pw_ct (by decide +kernel) rfl (Nat.le_of_ble_eq_true rfl) (fun x => ?_)
  generalize hZ : pw_Z x _ = Z
  show pw_V x m_X2_leastNumber 0 Z 0 [(0, .int w)] [] mm
  refine pw_blk (pc' := 1) [.iload 0] (by decide +kernel) ?_
  show pw_V x m_X2_leastNumber 0 Z 1 [(0, .int w)] [.int w] mm
  refine pw_if_ne (tgt := 8) (off := 7) (by decide +kernel) (by decide) (fun h1 => ?_) (fun h1 => ?_)
  · refine pw_blk (pc' := 9) [.iconst 0] (by decide +kernel) ?_
    show pw_V x m_X2_leastNumber 0 Z 9 [(0, .int w)] [.int (nI 0)] mm
    rw [← hZ]
    refine pw_ri (by decide +kernel) ?_
    refine ⟨?_, rfl⟩
    simp [F_nb, F_ln, h1]
    try rfl
  · refine pw_blk (pc' := 5) [.iconst 3] (by decide +kernel) ?_
    show pw_V x m_X2_leastNumber 0 Z 5 [(0, .int w)] [.int (nI 3)] mm
    refine pw_goto (tgt := 9) (off := 4) (by decide +kernel) (by decide) ?_
    rw [← hZ]
    refine pw_ri (by decide +kernel) ?_
    refine ⟨?_, rfl⟩
    simp [F_nb, F_ln, h1]
    try rfl

set_option maxHeartbeats 4000000 in
set_option maxRecDepth 100000 in
theorem c_numbersBehind (w : Int32) (mm : pw_m) : pw_Ct 0 yX2_numbersBehind m_X2_numbersBehind [.int w] mm (fun r m' => r = some (.int (F_nb w)) ∧ m' = mm) := by
  refine pw_ct (by decide +kernel) rfl (Nat.le_of_ble_eq_true rfl) (fun x => ?_)
  generalize hZ : pw_Z x _ = Z
  show pw_V x m_X2_numbersBehind 0 Z 0 [(0, .int w)] [] mm
  refine pw_blk (pc' := 1) [.iload 0] (by decide +kernel) ?_
  show pw_V x m_X2_numbersBehind 0 Z 1 [(0, .int w)] [.int w] mm
  refine pw_lsw (dflt := 47) (ps := #[(0, 45), (4, 45), (10, 45), (11, 43)]) (len := 43) (by decide +kernel) (by decide) ?_
  by_cases h1_0 : w = nI 0
  · refine ⟨45, 46, by rw [h1_0]; rfl, by decide, ?_⟩
    subst h1_0
    refine pw_blk (pc' := 47) [.iconst 1] (by decide +kernel) ?_
    show pw_V x m_X2_numbersBehind 0 Z 47 [(0, .int (nI 0))] [.int (nI 1)] mm
    rw [← hZ]
    refine pw_ri (by decide +kernel) ?_
    refine ⟨?_, rfl⟩
    simp [F_nb, F_ln, ]
    try rfl
  by_cases h1_4 : w = nI 4
  · refine ⟨45, 46, by rw [h1_4]; rfl, by decide, ?_⟩
    subst h1_4
    refine pw_blk (pc' := 47) [.iconst 1] (by decide +kernel) ?_
    show pw_V x m_X2_numbersBehind 0 Z 47 [(0, .int (nI 4))] [.int (nI 1)] mm
    rw [← hZ]
    refine pw_ri (by decide +kernel) ?_
    refine ⟨?_, rfl⟩
    simp [F_nb, F_ln, h1_0]
    try rfl
  by_cases h1_10 : w = nI 10
  · refine ⟨45, 46, by rw [h1_10]; rfl, by decide, ?_⟩
    subst h1_10
    refine pw_blk (pc' := 47) [.iconst 1] (by decide +kernel) ?_
    show pw_V x m_X2_numbersBehind 0 Z 47 [(0, .int (nI 10))] [.int (nI 1)] mm
    rw [← hZ]
    refine pw_ri (by decide +kernel) ?_
    refine ⟨?_, rfl⟩
    simp [F_nb, F_ln, h1_0, h1_4]
    try rfl
  by_cases h1_11 : w = nI 11
  · refine ⟨43, 44, by rw [h1_11]; rfl, by decide, ?_⟩
    subst h1_11
    refine pw_blk (pc' := 45) [.iconst 0] (by decide +kernel) ?_
    show pw_V x m_X2_numbersBehind 0 Z 45 [(0, .int (nI 11))] [.int (nI 0)] mm
    rw [← hZ]
    refine pw_ri (by decide +kernel) ?_
    refine ⟨?_, rfl⟩
    simp [F_nb, F_ln, h1_0, h1_4, h1_10]
    try rfl
  refine ⟨47, 48, by rw [show (#[(0, 45), (4, 45), (10, 45), (11, 43)] : Array (Int × Int)).toList = [(0, 45), (4, 45), (10, 45), (11, 43)] from rfl, lv_osw h1_0 (by decide), lv_osw h1_4 (by decide), lv_osw h1_10 (by decide), lv_osw h1_11 (by decide)]; rfl, by decide, ?_⟩
  refine pw_blk (pc' := 49) [.iconst 2] (by decide +kernel) ?_
  show pw_V x m_X2_numbersBehind 0 Z 49 [(0, .int w)] [.int (nI 2)] mm
  rw [← hZ]
  refine pw_ri (by decide +kernel) ?_
  refine ⟨?_, rfl⟩
  simp [F_nb, F_ln, h1_0, h1_4, h1_10, h1_11]
  try rfl

set_option maxHeartbeats 4000000 in
set_option maxRecDepth 100000 in
theorem c_rewind (mm : pw_m) : pw_Ct 0 yX3_rewind m_X3_rewind [.ref 2] mm (fun r m' => r = none ∧ m' = G_rew mm) := by
  refine pw_ct (by decide +kernel) rfl (Nat.le_of_ble_eq_true rfl) (fun x => ?_)
  generalize hZ : pw_Z x _ = Z
  show pw_V x m_X3_rewind 0 Z 0 [(0, .ref 2)] [] mm
  refine pw_blk (pc' := 15) [.aload 0, .iconst 0, .putfield 302, .aload 0, .iconst 0, .putfield 303, .aload 0, .iconst 0, .putfield 304] (by decide +kernel) ?_
  show pw_V x m_X3_rewind 0 Z 15 [(0, .ref 2)] [] (pw_up (pw_up (pw_up mm 2 2 (nI 0)) 2 3 (nI 0)) 2 4 (nI 0))
  rw [← hZ]
  refine pw_rv (by decide +kernel) ?_
  exact ⟨rfl, rfl⟩

set_option maxHeartbeats 4000000 in
set_option maxRecDepth 100000 in
theorem c_tally (mm : pw_m) : pw_Ct 1 yX2_tally m_X2_tally [.ref 1] mm (fun r m' => r = none ∧ m' = G_tal mm) := by
  refine pw_ct (by decide +kernel) rfl (Nat.le_of_ble_eq_true rfl) (fun x => ?_)
  generalize hZ : pw_Z x _ = Z
  show pw_V x m_X2_tally 1 Z 0 [(0, .ref 1)] [] mm
  refine pw_blk (pc' := 4) [.aload 0, .getfield 204] (by decide +kernel) ?_
  show pw_V x m_X2_tally 1 Z 4 [(0, .ref 1)] [.int (mm 1 4)] mm
  refine pw_if_ne (tgt := 23) (off := 19) (by decide +kernel) (by decide) (fun h4 => ?_) (fun h4 => ?_)
  · refine pw_blk (pc' := 27) [.aload 0, .getfield 204] (by decide +kernel) ?_
    show pw_V x m_X2_tally 1 Z 27 [(0, .ref 1)] [.int (mm 1 4)] mm
    refine pw_cS (vs := [.int (mm 1 4)]) (rest := []) k_X2_isKnightWord (c_isKnightWord (mm 1 4) mm) l_2_68 rfl (by omega) (Nat.le_of_ble_eq_true rfl) (by decide +kernel) ?_
    rintro _ m1 ⟨rfl, e1⟩
    rw [e1]
    clear e1 m1
    show pw_V x m_X2_tally 1 Z 30 [(0, .ref 1)] [.int (pw_b (F_kw (mm 1 4)))] mm
    refine pw_ib_eq (tgt := 43) (off := 13) (by decide +kernel) (by decide) (fun h30 => ?_) (fun h30 => ?_)
    · rw [← hZ]
      refine pw_rv (by decide +kernel) ?_
      exact ⟨rfl, by simp [G_tal, h4, h30]⟩
    · refine pw_blk (pc' := 43) [.aload 0, .dup, .getfield 203, .iconst 1, .iadd, .putfield 203] (by decide +kernel) ?_
      show pw_V x m_X2_tally 1 Z 43 [(0, .ref 1)] [] (pw_up mm 1 3 ((mm 1 3) + (nI 1)))
      rw [← hZ]
      refine pw_rv (by decide +kernel) ?_
      exact ⟨rfl, by simp [G_tal, h4, h30]⟩
  · refine pw_blk (pc' := 20) [.aload 0, .aload 0, .getfield 205, .putfield 202, .aload 0, .iconst 0, .putfield 203] (by decide +kernel) ?_
    show pw_V x m_X2_tally 1 Z 20 [(0, .ref 1)] [] (pw_up (pw_up mm 1 2 (mm 1 5)) 1 3 (nI 0))
    refine pw_goto (tgt := 43) (off := 23) (by decide +kernel) (by decide) ?_
    rw [← hZ]
    refine pw_rv (by decide +kernel) ?_
    exact ⟨rfl, by simp [G_tal, h4]⟩

def pw_skF (A : pw_m) : Nat → Nat → Nat
  | 0, i => i
  | f + 1, i => if A 3 i = nI 32 then pw_skF A f (i + 1) else i
def pw_sk (A : pw_m) (i : Nat) : Nat := pw_skF A (pw_g A 2 1 - i) i
def pw_rnF (A : pw_m) (t : Int32) : Nat → Nat → Nat
  | 0, i => i
  | f + 1, i => if F_tk (A 3 i) = t then pw_rnF A t f (i + 1) else i
def pw_rn (A : pw_m) (t : Int32) (i : Nat) : Nat := if t = nI 3 then i else pw_rnF A t (pw_g A 2 1 - i) i
theorem pw_sk_s {A : pw_m} {i : Nat} (h : i < pw_g A 2 1) (h2 : A 3 i = nI 32) : pw_sk A i = pw_sk A (i + 1) := by
  unfold pw_sk
  rw [show pw_g A 2 1 - i = (pw_g A 2 1 - (i + 1)) + 1 by omega, pw_skF, if_pos h2]
theorem pw_sk_e {A : pw_m} {i : Nat} (h : ¬ i < pw_g A 2 1) : pw_sk A i = i := by
  unfold pw_sk
  rw [show pw_g A 2 1 - i = 0 by omega, pw_skF]
theorem pw_sk_n {A : pw_m} {i : Nat} (h : i < pw_g A 2 1) (h2 : ¬ A 3 i = nI 32) : pw_sk A i = i := by
  unfold pw_sk
  rw [show pw_g A 2 1 - i = (pw_g A 2 1 - (i + 1)) + 1 by omega, pw_skF, if_neg h2]
theorem pw_rn_s {A : pw_m} {t : Int32} {i : Nat} (h : i < pw_g A 2 1) (h3 : ¬ t = nI 3) (h2 : F_tk (A 3 i) = t) : pw_rn A t i = pw_rn A t (i + 1) := by
  unfold pw_rn
  rw [if_neg h3, if_neg h3, show pw_g A 2 1 - i = (pw_g A 2 1 - (i + 1)) + 1 by omega, pw_rnF, if_pos h2]
theorem pw_rn_e {A : pw_m} {t : Int32} {i : Nat} (h : ¬ i < pw_g A 2 1) : pw_rn A t i = i := by
  unfold pw_rn
  rw [show pw_g A 2 1 - i = 0 by omega, pw_rnF]; simp
theorem pw_rn_3 {A : pw_m} {t : Int32} {i : Nat} (h : t = nI 3) : pw_rn A t i = i := by
  unfold pw_rn; rw [if_pos h]
theorem pw_rn_n {A : pw_m} {t : Int32} {i : Nat} (h : i < pw_g A 2 1) (h2 : ¬ F_tk (A 3 i) = t) : pw_rn A t i = i := by
  unfold pw_rn
  rw [show pw_g A 2 1 - i = (pw_g A 2 1 - (i + 1)) + 1 by omega, pw_rnF, if_neg h2]; simp
def G_adv (A : pw_m) (e : Nat) : pw_m :=
  if pw_sk A e < pw_g A 2 1 then pw_up (pw_up (pw_up A 2 3 (nI (pw_sk A e))) 2 2 (F_tk (A 3 (pw_sk A e)))) 2 4 (nI (pw_rn A (F_tk (A 3 (pw_sk A e))) (pw_sk A e + 1)))
  else pw_up (pw_up (pw_up A 2 3 (nI (pw_sk A e))) 2 2 (nI 0)) 2 4 (nI (pw_g A 2 1))

set_option maxHeartbeats 4000000 in
set_option maxRecDepth 100000 in
theorem c_advance (mm : pw_m) (hx : mm 2 1 = nI (pw_g mm 2 1)) (bwr : pw_g mm 2 1 ≤ 160) (e : Nat) (he : mm 2 4 = nI e) (he2 : e ≤ pw_g mm 2 1) : pw_Ct 1 yX3_advance m_X3_advance [.ref 2] mm (fun r m' => r = none ∧ m' = G_adv mm e) := by
  refine pw_ct (by decide +kernel) rfl (Nat.le_of_ble_eq_true rfl) (fun x => ?_)
  generalize hZ : pw_Z x _ = Z
  show pw_V x m_X3_advance 1 Z 0 [(0, .ref 2)] [] mm
  refine pw_blk (pc' := 5) [.aload 0, .getfield 304, .istore 1] (by decide +kernel) ?_
  show pw_V x m_X3_advance 1 Z 5 [(1, .int (mm 2 4)), (0, .ref 2)] [] mm
  rw [show mm 2 4 = nI e from he]
  refine pw_lvp [1, 0] rfl ?_
  suffices lo : ∀ ix : Nat, ix ≤ pw_g mm 2 1 → pw_sk mm e = pw_sk mm ix → pw_V x m_X3_advance 1 Z 5 [(0, .ref 2), (1, .int (nI ix))] [] mm from lo e he2 rfl
  refine pw_dn (pw_g mm 2 1) (fun ix hix ih hsk => ?_)
  have out : ∀ bx : Nat, bx ≤ pw_g mm 2 1 → pw_sk mm e = bx → pw_V x m_X3_advance 1 Z 30 [(0, .ref 2), (1, .int (nI bx))] [] mm := by
    intro bx hbx hsk
    refine pw_blk (pc' := 40) [.aload 0, .iload 1, .putfield 303, .iload 1, .aload 0, .getfield 301] (by decide +kernel) ?_
    show pw_V x m_X3_advance 1 Z 40 [(0, .ref 2), (1, .int (nI bx))] [.int (mm 2 1), .int (nI bx)] (pw_up mm 2 3 (nI bx))
    rw [show mm 2 1 = nI (pw_g mm 2 1) from hx]
    refine pw_in_lt (tgt := 57) (off := 17) (by omega) (by omega) (by decide +kernel) (by decide) (fun h40 => ?_) (fun h40 => ?_)
    · refine pw_blk (pc' := 64) [.aload 0, .aload 0, .getfield 300, .iload 1, .iaload] (by decide +kernel) ?_
      refine ⟨bx, rfl, by omega, ?_⟩
      show pw_V x m_X3_advance 1 Z 64 [(0, .ref 2), (1, .int (nI bx))] [.int (mm 3 bx), .ref 2] (pw_up mm 2 3 (nI bx))
      refine pw_cS (vs := [.int (mm 3 bx)]) (rest := [.ref 2]) k_X3_tokenOf (c_tokenOf (mm 3 bx) (pw_up mm 2 3 (nI bx))) l_3_28 rfl (by omega) (Nat.le_of_ble_eq_true rfl) (by decide +kernel) ?_
      rintro _ m1 ⟨rfl, e1⟩
      rw [e1]
      clear e1 m1
      show pw_V x m_X3_advance 1 Z 67 [(0, .ref 2), (1, .int (nI bx))] [.int (F_tk (mm 3 bx)), .ref 2] (pw_up mm 2 3 (nI bx))
      refine pw_blk (pc' := 73) [.putfield 302, .iinc 1 1] (by decide +kernel) ?_
      show pw_V x m_X3_advance 1 Z 73 [(1, .int ((nI bx) + (nI 1))), (0, .ref 2)] [] (pw_up (pw_up mm 2 3 (nI bx)) 2 2 (F_tk (mm 3 bx)))
      rw [show (nI bx) + (nI 1) = nI (bx + 1) from nI_add _ _]
      refine pw_lvp [1, 0] rfl ?_
      suffices lo : ∀ iy : Nat, iy ≤ pw_g mm 2 1 → pw_rn mm (F_tk (mm 3 bx)) (bx + 1) = pw_rn mm (F_tk (mm 3 bx)) iy → pw_V x m_X3_advance 1 Z 73 [(0, .ref 2), (1, .int (nI iy))] [] (pw_up (pw_up mm 2 3 (nI bx)) 2 2 (F_tk (mm 3 bx))) from lo (bx + 1) (by omega) rfl
      refine pw_dn (pw_g mm 2 1) (fun iy hiy ih hrn => ?_)
      refine pw_blk (pc' := 78) [.aload 0, .getfield 302, .iconst 3] (by decide +kernel) ?_
      show pw_V x m_X3_advance 1 Z 78 [(0, .ref 2), (1, .int (nI iy))] [.int (nI 3), .int (F_tk (mm 3 bx))] (pw_up (pw_up mm 2 3 (nI bx)) 2 2 (F_tk (mm 3 bx)))
      refine pw_ic_eq (tgt := 111) (off := 33) (by decide +kernel) (by decide) (fun h78 => ?_) (fun h78 => ?_)
      · refine pw_blk (pc' := 116) [.aload 0, .iload 1, .putfield 304] (by decide +kernel) ?_
        show pw_V x m_X3_advance 1 Z 116 [(0, .ref 2), (1, .int (nI iy))] [] (pw_up (pw_up (pw_up mm 2 3 (nI bx)) 2 2 (F_tk (mm 3 bx))) 2 4 (nI iy))
        rw [← hZ]
        refine pw_rv (by decide +kernel) ?_
        exact ⟨rfl, by unfold G_adv; rw [hsk, if_pos (by omega), hrn, show pw_rn mm (F_tk (mm 3 bx)) iy = iy from pw_rn_3 h78]⟩
      · refine pw_blk (pc' := 86) [.iload 1, .aload 0, .getfield 301] (by decide +kernel) ?_
        show pw_V x m_X3_advance 1 Z 86 [(0, .ref 2), (1, .int (nI iy))] [.int (mm 2 1), .int (nI iy)] (pw_up (pw_up mm 2 3 (nI bx)) 2 2 (F_tk (mm 3 bx)))
        rw [show mm 2 1 = nI (pw_g mm 2 1) from hx]
        refine pw_in_ge (tgt := 111) (off := 25) (by omega) (by omega) (by decide +kernel) (by decide) (fun h86 => ?_) (fun h86 => ?_)
        · refine pw_blk (pc' := 116) [.aload 0, .iload 1, .putfield 304] (by decide +kernel) ?_
          show pw_V x m_X3_advance 1 Z 116 [(0, .ref 2), (1, .int (nI iy))] [] (pw_up (pw_up (pw_up mm 2 3 (nI bx)) 2 2 (F_tk (mm 3 bx))) 2 4 (nI iy))
          rw [← hZ]
          refine pw_rv (by decide +kernel) ?_
          exact ⟨rfl, by unfold G_adv; rw [hsk, if_pos (by omega), hrn, show pw_rn mm (F_tk (mm 3 bx)) iy = iy from pw_rn_e (by omega)]⟩
        · refine pw_blk (pc' := 95) [.aload 0, .getfield 300, .iload 1, .iaload] (by decide +kernel) ?_
          refine ⟨iy, rfl, by omega, ?_⟩
          show pw_V x m_X3_advance 1 Z 95 [(0, .ref 2), (1, .int (nI iy))] [.int (mm 3 iy)] (pw_up (pw_up mm 2 3 (nI bx)) 2 2 (F_tk (mm 3 bx)))
          refine pw_cS (vs := [.int (mm 3 iy)]) (rest := []) k_X3_tokenOf (c_tokenOf (mm 3 iy) (pw_up (pw_up mm 2 3 (nI bx)) 2 2 (F_tk (mm 3 bx)))) l_3_28 rfl (by omega) (Nat.le_of_ble_eq_true rfl) (by decide +kernel) ?_
          rintro _ m1 ⟨rfl, e1⟩
          rw [e1]
          clear e1 m1
          show pw_V x m_X3_advance 1 Z 98 [(0, .ref 2), (1, .int (nI iy))] [.int (F_tk (mm 3 iy))] (pw_up (pw_up mm 2 3 (nI bx)) 2 2 (F_tk (mm 3 bx)))
          refine pw_blk (pc' := 102) [.aload 0, .getfield 302] (by decide +kernel) ?_
          show pw_V x m_X3_advance 1 Z 102 [(0, .ref 2), (1, .int (nI iy))] [.int (F_tk (mm 3 bx)), .int (F_tk (mm 3 iy))] (pw_up (pw_up mm 2 3 (nI bx)) 2 2 (F_tk (mm 3 bx)))
          refine pw_ic_ne (tgt := 111) (off := 9) (by decide +kernel) (by decide) (fun h102 => ?_) (fun h102 => ?_)
          · refine pw_blk (pc' := 116) [.aload 0, .iload 1, .putfield 304] (by decide +kernel) ?_
            show pw_V x m_X3_advance 1 Z 116 [(0, .ref 2), (1, .int (nI iy))] [] (pw_up (pw_up (pw_up mm 2 3 (nI bx)) 2 2 (F_tk (mm 3 bx))) 2 4 (nI iy))
            rw [← hZ]
            refine pw_rv (by decide +kernel) ?_
            exact ⟨rfl, by unfold G_adv; rw [hsk, if_pos (by omega), hrn, show pw_rn mm (F_tk (mm 3 bx)) iy = iy from pw_rn_n (by omega) h102]⟩
          · refine pw_blk (pc' := 108) [.iinc 1 1] (by decide +kernel) ?_
            show pw_V x m_X3_advance 1 Z 108 [(1, .int ((nI iy) + (nI 1))), (0, .ref 2)] [] (pw_up (pw_up mm 2 3 (nI bx)) 2 2 (F_tk (mm 3 bx)))
            rw [show (nI iy) + (nI 1) = nI (iy + 1) from nI_add _ _]
            refine pw_goto (tgt := 73) (off := -35) (by decide +kernel) (by decide) ?_
            refine pw_lvp [1, 0] rfl ?_
            exact ih (by omega) (by rw [hrn]; exact pw_rn_s (by omega) h78 h102)
    · refine pw_blk (pc' := 56) [.aload 0, .iconst 0, .putfield 302, .aload 0, .aload 0, .getfield 301, .putfield 304] (by decide +kernel) ?_
      show pw_V x m_X3_advance 1 Z 56 [(0, .ref 2), (1, .int (nI bx))] [] (pw_up (pw_up (pw_up mm 2 3 (nI bx)) 2 2 (nI 0)) 2 4 (mm 2 1))
      rw [show mm 2 1 = nI (pw_g mm 2 1) from hx]
      rw [← hZ]
      refine pw_rv (by decide +kernel) ?_
      exact ⟨rfl, by unfold G_adv; rw [hsk, if_neg (by omega)]⟩
  refine pw_blk (pc' := 10) [.iload 1, .aload 0, .getfield 301] (by decide +kernel) ?_
  show pw_V x m_X3_advance 1 Z 10 [(0, .ref 2), (1, .int (nI ix))] [.int (mm 2 1), .int (nI ix)] mm
  rw [show mm 2 1 = nI (pw_g mm 2 1) from hx]
  refine pw_in_ge (tgt := 30) (off := 20) (by omega) (by omega) (by decide +kernel) (by decide) (fun h10 => ?_) (fun h10 => ?_)
  · exact out ix (by omega) (by rw [hsk]; exact pw_sk_e (by omega))
  · refine pw_blk (pc' := 21) [.aload 0, .getfield 300, .iload 1, .iaload, .iconst (32)] (by decide +kernel) ?_
    refine ⟨ix, rfl, by omega, ?_⟩
    show pw_V x m_X3_advance 1 Z 21 [(0, .ref 2), (1, .int (nI ix))] [.int (nI 32), .int (mm 3 ix)] mm
    refine pw_ic_ne (tgt := 30) (off := 9) (by decide +kernel) (by decide) (fun h21 => ?_) (fun h21 => ?_)
    · exact out ix (by omega) (by rw [hsk]; exact pw_sk_n (by omega) h21)
    · refine pw_blk (pc' := 27) [.iinc 1 1] (by decide +kernel) ?_
      show pw_V x m_X3_advance 1 Z 27 [(1, .int ((nI ix) + (nI 1))), (0, .ref 2)] [] mm
      rw [show (nI ix) + (nI 1) = nI (ix + 1) from nI_add _ _]
      refine pw_goto (tgt := 5) (off := -22) (by decide +kernel) (by decide) ?_
      refine pw_lvp [1, 0] rfl ?_
      exact ih (by omega) (by rw [hsk]; exact pw_sk_s (by omega) h21)
