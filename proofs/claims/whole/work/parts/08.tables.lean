/-! tables, statics, constants; then one instruction and a stretch of them -/
section PWT
variable {x : pw_X} {M : pw_M} {d : Nat} {Z : State → Prop} {pc : Nat} {lv : List (Nat × Value)} {r : List Value} {mm : pw_m}
theorem pw_o_tload {c : Nat} {q : Nat × (Nat → Int32)} {i : Int32} (hd : decode M.2.1 pc = .ok (.iaload, 1)) (hs : (if c = 90 then some (4, pw_k0) else if c = 91 then some (6, pw_k1) else if c = 93 then some x.2.2.2.2.2.2.2.2.2.2.2.2.2.2.1 else none) = some q) (hi : vp_in i q.1) (hk : pw_V x M d Z (pc + 1) lv (.int (q.2 i.toNatClampNeg) :: r) mm) : pw_V x M d Z pc lv (.int i :: .ref c :: r) mm := by
  obtain ⟨p, l, ee, R, s, m, args, below, meth, cc, D, ad, ⟨cI, cZ, cE⟩, A, X, nc, ns⟩ := x
  intro hC H locs hH ls hl
  have hT : pw_T ad X A s s.heap := hC.2.2.2.2.2.2.2.2.2.1
  dsimp only at hs
  split at hs
  · rename_i h9; subst h9; cases hs
    exact va_ti hC.1 hC.2.1 hT.1.2 hH.2.2 hi rfl hd (hk hC H locs hH ls hl)
  · split at hs
    · rename_i h9; subst h9; cases hs
      exact va_ti hC.1 hC.2.1 hT.2.1.2 hH.2.2 hi rfl hd (hk hC H locs hH ls hl)
    · split at hs
      · rename_i h9; subst h9; cases hs
        rcases hT.2.2.2 with h0 | ⟨-, h0⟩
        · rw [h0] at hi
          exact absurd (Or.inr (Nat.zero_le _)) hi
        · exact va_ti hC.1 hC.2.1 h0 hH.2.2 hi rfl hd (hk hC H locs hH ls hl)
      · cases hs
theorem pw_tbl_lt {c : Nat} {q : Nat × (Nat → Int32)} (hC : pw_C x M d) (hs : (if c = 90 then some (4, pw_k0) else if c = 91 then some (6, pw_k1) else if c = 93 then some x.2.2.2.2.2.2.2.2.2.2.2.2.2.2.1 else none) = some q) : q.1 < 2 ^ 31 := by
  obtain ⟨p, l, ee, R, s, m, args, below, meth, cc, D, ad, ⟨cI, cZ, cE⟩, A, X, nc, ns⟩ := x
  have hT : pw_T ad X A s s.heap := hC.2.2.2.2.2.2.2.2.2.1
  dsimp only at hs
  split at hs
  · cases hs; decide
  · split at hs
    · cases hs; decide
    · split at hs
      · cases hs
        rcases hT.2.2.2 with h0 | ⟨h0, -⟩
        · omega
        · exact h0
      · cases hs
theorem pw_o_caload {i : Int32} (hd : decode M.2.1 pc = .ok (.caload, 1)) (hi : vp_in i 74) (hk : pw_V x M d Z (pc + 1) lv (.int (pw_k2 i.toNatClampNeg) :: r) mm) : pw_V x M d Z pc lv (.int i :: .ref 92 :: r) mm := by
  obtain ⟨p, l, ee, R, s, m, args, below, meth, cc, D, ad, ⟨cI, cZ, cE⟩, A, X, nc, ns⟩ := x
  intro hC H locs hH ls hl
  have hT : pw_T ad X A s s.heap := hC.2.2.2.2.2.2.2.2.2.1
  exact va_tc hC.1 hC.2.1 hT.2.2.1.2 hH.2.2 hi rfl hd (hk hC H locs hH ls hl)
theorem pw_o_clen (hd : decode M.2.1 pc = .ok (.arraylength, 1)) (hk : pw_V x M d Z (pc + 1) lv (.int 74 :: r) mm) : pw_V x M d Z pc lv (.ref 92 :: r) mm := by
  obtain ⟨p, l, ee, R, s, m, args, below, meth, cc, D, ad, ⟨cI, cZ, cE⟩, A, X, nc, ns⟩ := x
  intro hC H locs hH ls hl
  have hT : pw_T ad X A s s.heap := hC.2.2.2.2.2.2.2.2.2.1
  exact va_tlen hC.1 hC.2.1 hT.2.2.1.2 hH.2.2 (by decide) hd (hk hC H locs hH ls hl)
theorem pw_o_tlen {c : Nat} {q : Nat × (Nat → Int32)} (hx : 0 < x.2.2.2.2.2.2.2.2.2.2.2.2.2.2.1.1 ∨ ¬ c = 93) (hd : decode M.2.1 pc = .ok (.arraylength, 1)) (hs : (if c = 90 then some (4, pw_k0) else if c = 91 then some (6, pw_k1) else if c = 93 then some x.2.2.2.2.2.2.2.2.2.2.2.2.2.2.1 else none) = some q) (hk : pw_V x M d Z (pc + 1) lv (.int (Int32.ofNat q.1) :: r) mm) : pw_V x M d Z pc lv (.ref c :: r) mm := by
  obtain ⟨p, l, ee, R, s, m, args, below, meth, cc, D, ad, ⟨cI, cZ, cE⟩, A, X, nc, ns⟩ := x
  intro hC H locs hH ls hl
  have hT : pw_T ad X A s s.heap := hC.2.2.2.2.2.2.2.2.2.1
  dsimp only at hs hx
  split at hs
  · rename_i h9; subst h9; cases hs
    exact va_tlen hC.1 hC.2.1 hT.1.2 hH.2.2 rfl hd (hk hC H locs hH ls hl)
  · split at hs
    · rename_i h9; subst h9; cases hs
      exact va_tlen hC.1 hC.2.1 hT.2.1.2 hH.2.2 rfl hd (hk hC H locs hH ls hl)
    · split at hs
      · rename_i h9; subst h9; cases hs
        rcases hT.2.2.2 with h0 | ⟨-, h0⟩
        · rcases hx with hx | hx
          · omega
          · exact absurd rfl hx
        · exact va_tlen hC.1 hC.2.1 h0 hH.2.2 rfl hd (hk hC H locs hH ls hl)
      · cases hs
theorem pw_o_getstatic {idx j : Nat} (hd : decode M.2.1 pc = .ok (.getstatic idx, 3)) (hs : pw_sc M.1 idx = some j) (hk : pw_V x M d Z (pc + 3) lv (.ref (90 + j) :: r) mm) : pw_V x M d Z pc lv r mm := by
  obtain ⟨p, l, ee, R, s, m, args, below, meth, cc, D, ad, ⟨cI, cZ, cE⟩, A, X, nc, ns⟩ := x
  intro hC H locs hH ls hl
  have hT : pw_T ad X A s s.heap := hC.2.2.2.2.2.2.2.2.2.1
  have hown := hC.2.2.2.1
  unfold pw_sc at hs
  split at hs
  · rename_i h7
    rw [h7] at hown
    split at hs
    · rename_i h9; subst h9; cases hs
      exact va_gets hC.1 hC.2.1 hT.1.1 hH.2.2 hown (hC.2.2.2.2.1 (.fieldLink RX7 134 RX7 "OVER_KNIGHTS" "[I") (pw_tb_in (i := 501) (by decide +kernel) rfl)) (fun _ h => h) hd (hk hC H locs hH ls hl)
    · split at hs
      · rename_i h9; subst h9; cases hs
        exact va_gets hC.1 hC.2.1 hT.2.1.1 hH.2.2 hown (hC.2.2.2.2.1 (.fieldLink RX7 147 RX7 "OVER_NAMES" "[I") (pw_tb_in (i := 518) (by decide +kernel) rfl)) (fun _ h => h) hd (hk hC H locs hH ls hl)
      · cases hs
  · split at hs
    · rename_i h7
      rw [h7] at hown
      split at hs
      · rename_i h9; subst h9; cases hs
        exact va_gets hC.1 hC.2.1 hT.2.2.1.1 hH.2.2 hown (hC.2.2.2.2.1 (.fieldLink RX2 91 RX2 "WORDS" "[C") (pw_tb_in (i := 395) (by decide +kernel) rfl)) (fun _ h => h) hd (hk hC H locs hH ls hl)
      · cases hs
    · cases hs
theorem pw_lcw {o idx : Nat} {v : Int} (h : pw_lc o idx = some v) : Cond.constantLong (pw_on o) idx (Int64.ofInt v) ∈ pw_tb := by
  unfold pw_lc at h
  split at h
  · rename_i h7; subst h7
    split at h
    · rename_i h9; subst h9; cases h
      exact pw_tb_in (i := 727) (by decide +kernel) rfl
    · split at h
      · rename_i h9; subst h9; cases h
        exact pw_tb_in (i := 728) (by decide +kernel) rfl
      · cases h
  · split at h
    · rename_i h7; subst h7
      split at h
      · rename_i h9; subst h9; cases h
        exact pw_tb_in (i := 1128) (by decide +kernel) rfl
      · split at h
        · rename_i h9; subst h9; cases h
          exact pw_tb_in (i := 1129) (by decide +kernel) rfl
        · split at h
          · rename_i h9; subst h9; cases h
            exact pw_tb_in (i := 1130) (by decide +kernel) rfl
          · cases h
    · cases h
theorem pw_icw {o idx : Nat} {v : Int} (h : pw_ic o idx = some v) : Cond.constant (pw_on o) idx (Int32.ofInt v) ∈ pw_tb := by
  unfold pw_ic at h
  split at h
  · rename_i h7; subst h7
    split at h
    · rename_i h9; subst h9; cases h
      exact pw_tb_in (i := 542) (by decide +kernel) rfl
    · split at h
      · rename_i h9; subst h9; cases h
        exact pw_tb_in (i := 543) (by decide +kernel) rfl
      · split at h
        · rename_i h9; subst h9; cases h
          exact pw_tb_in (i := 544) (by decide +kernel) rfl
        · cases h
  · cases h
theorem pw_o_ldc2 {idx : Nat} {v : Int} (hd : decode M.2.1 pc = .ok (.ldc2_w idx, 3)) (hs : pw_lc M.1 idx = some v) (hk : pw_V x M d Z (pc + 3) lv (.long (Int64.ofInt v) :: r) mm) : pw_V x M d Z pc lv r mm := by
  obtain ⟨p, l, ee, R, s, m, args, below, meth, cc, D, ad, ⟨cI, cZ, cE⟩, A, X, nc, ns⟩ := x
  intro hC H locs hH ls hl
  exact lv_ldc2 hC.1 hC.2.1 hC.2.2.2.1 (hC.2.2.2.2.1 _ (pw_lcw hs)) hd (hk hC H locs hH ls hl)
theorem pw_o_ldcw {idx : Nat} {v : Int} (hd : decode M.2.1 pc = .ok (.ldc_w idx, 3)) (hs : pw_ic M.1 idx = some v) (hk : pw_V x M d Z (pc + 3) lv (.int (Int32.ofInt v) :: r) mm) : pw_V x M d Z pc lv r mm := by
  obtain ⟨p, l, ee, R, s, m, args, below, meth, cc, D, ad, ⟨cI, cZ, cE⟩, A, X, nc, ns⟩ := x
  intro hC H locs hH ls hl
  exact lv_ldcw hC.1 hC.2.1 hC.2.2.2.1 (hC.2.2.2.2.1 _ (pw_icw hs)) hd (hk hC H locs hH ls hl)
end PWT
