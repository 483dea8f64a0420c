/-! the law's loop -/
def pw_sX (x : pw_X) (L : Nat) (xs : Nat → Int32) : Prop := match x with
  | (_, _, _, _, s, _, _, _, _, _, _, ad, _, A, _, _) => va_X (ad 93) L xs s s.heap ∧ ad 93 < s.heap.size ∧ ¬ A (ad 93)
theorem pw_o_slen {x : pw_X} {M : pw_M} {d : Nat} {Z : State → Prop} {pc : Nat} {lv : List (Nat × Value)} {r : List Value} {mm : pw_m} {L : Nat} {xs : Nat → Int32} (hx : pw_sX x L xs) (hd : decode M.2.1 pc = .ok (.arraylength, 1)) (hk : pw_V x M d Z (pc + 1) lv (.int (nI L) :: r) mm) : pw_V x M d Z pc lv (.ref 93 :: r) mm := by
  obtain ⟨p, l, ee, R, s, m, args, below, meth, cc, D, ad, ⟨cI, cZ, cE⟩, A, X, nc, ns⟩ := x
  intro hC H locs hH ls hl
  exact va_slen hC.1 hC.2.1 hx.1 hx.2.1 hx.2.2 hH.2.2 hd (hk hC H locs hH ls hl)
theorem pw_six {L ix : Nat} (hL : L ≤ 3072) (hi : ix ≤ L) (h : ¬ nI L - Int32.ofInt 6 < nI ix) : ix + 6 ≤ L := by
  by_cases h6 : 6 ≤ L
  · obtain ⟨u, rfl⟩ : ∃ u, L = u + 6 := ⟨L - 6, by omega⟩
    have e : nI (u + 6) - Int32.ofInt 6 = nI u := by
      rw [show nI (u + 6) = nI u + Int32.ofInt 6 from (pw_ai u 6).symm]
      exact Int32.add_sub_cancel _ _
    rw [e] at h
    by_cases hu : u < ix
    · exact absurd (nI_lt hu (by omega)) h
    · omega
  · refine absurd ?_ h
    match L, hL, hi, h6 with
    | 0, _, hi, _ => have : ix = 0 := by omega
                     rw [this]; decide
    | 1, _, hi, _ => match ix, hi with
      | 0, _ => decide
      | 1, _ => decide
    | 2, _, hi, _ => match ix, hi with
      | 0, _ => decide
      | 1, _ => decide
      | 2, _ => decide
    | 3, _, hi, _ => match ix, hi with
      | 0, _ => decide
      | 1, _ => decide
      | 2, _ => decide
      | 3, _ => decide
    | 4, _, hi, _ => match ix, hi with
      | 0, _ => decide
      | 1, _ => decide
      | 2, _ => decide
      | 3, _ => decide
      | 4, _ => decide
    | 5, _, hi, _ => match ix, hi with
      | 0, _ => decide
      | 1, _ => decide
      | 2, _ => decide
      | 3, _ => decide
      | 4, _ => decide
      | 5, _ => decide
    | zx + 6, _, _, h6 => omega
set_option maxHeartbeats 4000000 in
theorem law_loop {x : pw_X} {Z : State → Prop} {L : Nat} {xs : Nat → Int32} (hx : pw_xX x = (L, xs)) (hs : pw_sX x L xs) (hL : L ≤ 3072) (he : ∀ (lv : List (Nat × Value)) (m' : pw_m), pw_V x m_law 12 Z 834 lv [] m') : ∀ (fx ix : Nat) (mm : pw_m), L < ix + fx → ix ≤ L → pw_IV mm → pw_V x m_law 12 Z 18 [(0, .ref 93), (1, .ref 0), (2, .ref 26), (3, .int (nI ix))] [] mm := by
  intro fx
  induction fx with
  | zero => intro ix mm h1 h2; omega
  | succ fx ih =>
    intro ix mm h1 h2 iv
    refine pw_blk (pc' := 20) [.iload 3, .aload 0] (by decide +kernel) ?_
    show pw_V x m_law 12 Z 20 [(0, .ref 93), (1, .ref 0), (2, .ref 26), (3, .int (nI ix))] [.ref 93, .int (nI ix)] mm
    refine pw_o_slen hs (by decide +kernel) ?_
    refine pw_blk (pc' := 24) [.iconst 6, .isub] (by decide +kernel) ?_
    show pw_V x m_law 12 Z 24 [(0, .ref 93), (1, .ref 0), (2, .ref 26), (3, .int (nI ix))] [.int (nI L - Int32.ofInt 6), .int (nI ix)] mm
    refine pw_ic_gt (tgt := 834) (off := 810) (by decide +kernel) (by decide) (fun _ => he _ _) (fun h => ?_)
    have hi : ix + 6 ≤ L := pw_six hL h2 h
    have tl : ∀ m' : pw_m, pw_IV m' → pw_V x m_law 12 Z 828 [(0, .ref 93), (1, .ref 0), (2, .ref 26), (3, .int (nI ix))] [] m' := fun m' iv' => by
      refine pw_blk (pc' := 831) [.iinc 3 6] (by decide +kernel) ?_
      show pw_V x m_law 12 Z 831 [(3, .int (nI ix + Int32.ofInt 6)), (0, .ref 93), (1, .ref 0), (2, .ref 26)] [] m'
      rw [show nI ix + Int32.ofInt 6 = nI (ix + 6) from pw_ai ix 6]
      refine pw_goto (tgt := 18) (off := -813) (by decide +kernel) (by decide) ?_
      refine pw_lvp [1, 2, 3, 0] rfl ?_
      exact ih (ix + 6) m' (by omega) (by omega) iv'
    refine pw_blk (pc' := 33) [.aload 0, .iload 3, .iaload, .iconst 31, .iand] (by decide +kernel) ?_
    rw [hx]
    refine ⟨ix, rfl, by omega, ?_⟩
    show pw_V x m_law 12 Z 33 [(0, .ref 93), (1, .ref 0), (2, .ref 26), (3, .int (nI ix))] [.int (xs ix &&& Int32.ofInt 31)] mm
    refine pw_tsw (tgt := 828) (dflt := 795) (lo := 0) (hi := 26) (offs := #[123, 146, 159, 172, 185, 218, 251, 284, 317, 350, 363, 396, 409, 422, 445, 468, 481, 504, 517, 540, 563, 616, 629, 652, 685, 749, 772]) (len := 123) (by decide +kernel) (by decide) (fun _ => tl mm iv) (fun j hj hq => ?_)
    match j, hj, hq with
    | 0, _, _ => exact ⟨123, 156, rfl, by decide, law_c0 hx ix hi mm iv tl⟩
    | 1, _, _ => exact ⟨146, 179, rfl, by decide, law_c1 hx ix hi mm iv tl⟩
    | 2, _, _ => exact ⟨159, 192, rfl, by decide, law_c2 hx ix hi mm iv tl⟩
    | 3, _, _ => exact ⟨172, 205, rfl, by decide, law_c3 hx ix hi mm iv tl⟩
    | 4, _, _ => exact ⟨185, 218, rfl, by decide, law_c4 hx ix hi mm iv tl⟩
    | 5, _, _ => exact ⟨218, 251, rfl, by decide, law_c5 hx ix hi mm iv tl⟩
    | 6, _, _ => exact ⟨251, 284, rfl, by decide, law_c6 hx ix hi mm iv tl⟩
    | 7, _, _ => exact ⟨284, 317, rfl, by decide, law_c7 hx ix hi mm iv tl⟩
    | 8, _, _ => exact ⟨317, 350, rfl, by decide, law_c8 hx ix hi mm iv tl⟩
    | 9, _, _ => exact ⟨350, 383, rfl, by decide, law_c9 hx ix hi mm iv tl⟩
    | 10, _, _ => exact ⟨363, 396, rfl, by decide, law_c10 hx ix hi mm iv tl⟩
    | 11, _, _ => exact ⟨396, 429, rfl, by decide, law_c11 hx ix hi mm iv tl⟩
    | 12, _, _ => exact ⟨409, 442, rfl, by decide, law_c12 hx ix hi mm iv tl⟩
    | 13, _, _ => exact ⟨422, 455, rfl, by decide, law_c13 hx ix hi mm iv tl⟩
    | 14, _, _ => exact ⟨445, 478, rfl, by decide, law_c14 hx ix hi mm iv tl⟩
    | 15, _, _ => exact ⟨468, 501, rfl, by decide, law_c15 hx ix hi mm iv tl⟩
    | 16, _, _ => exact ⟨481, 514, rfl, by decide, law_c16 hx ix hi mm iv tl⟩
    | 17, _, _ => exact ⟨504, 537, rfl, by decide, law_c17 hx ix hi mm iv tl⟩
    | 18, _, _ => exact ⟨517, 550, rfl, by decide, law_c18 hx ix hi mm iv tl⟩
    | 19, _, _ => exact ⟨540, 573, rfl, by decide, law_c19 hx ix hi mm iv tl⟩
    | 20, _, _ => exact ⟨563, 596, rfl, by decide, law_c20 hx ix hi mm iv tl⟩
    | 21, _, _ => exact ⟨616, 649, rfl, by decide, law_c21 hx ix hi mm iv tl⟩
    | 22, _, _ => exact ⟨629, 662, rfl, by decide, law_c22 hx ix hi mm iv tl⟩
    | 23, _, _ => exact ⟨652, 685, rfl, by decide, law_c23 hx ix hi mm iv tl⟩
    | 24, _, _ => exact ⟨685, 718, rfl, by decide, law_c24 hx ix hi mm iv tl⟩
    | 25, _, _ => exact ⟨749, 782, rfl, by decide, law_c25 hx ix hi mm iv tl⟩
    | 26, _, _ => exact ⟨772, 805, rfl, by decide, law_c26 hx ix hi mm iv tl⟩
    | jx + 27, hj, _ => omega
