/-! one instruction; a stretch -/
abbrev pw_xX (x : pw_X) : Nat × (Nat → Int32) := x.2.2.2.2.2.2.2.2.2.2.2.2.2.2.1
theorem pw_sha {c t n b : Nat} (h : pw_shp c = some (.inr (t, n, b))) : n < 2 ^ 31 := by
  have h1 := List.all_eq_true.mp pw_sz_ok c (List.mem_range.mpr (pw_shp_lt h))
  unfold pw_sz at h1
  rw [h] at h1
  dsimp only at h1
  rw [Bool.and_eq_true] at h1
  exact of_decide_eq_true h1.2
set_option maxHeartbeats 4000000 in
theorem pw_st {x : pw_X} {M : pw_M} {d : Nat} {Z : State → Prop} {pc len : Nat} {i0 i : Instr} {lv : List (Nat × Value)} {st : List Value} {mm : pw_m} {k : List (Nat × Value) → List Value → pw_m → Prop} (hd : decode M.2.1 pc = .ok (i0, len)) (hr : pw_rs M.1 i0 len = some i) (hm : pw_mx i ≤ M.2.2.1) (hw : pw_w1 (pw_xX x) i lv st mm k) (hk : ∀ lv' st' m', k lv' st' m' → pw_V x M d Z (pc + len) lv' st' m') : pw_V x M d Z pc lv st mm := by
  cases i0 with
  | iadd =>
    simp only [pw_rs] at hr
    split at hr
    · rename_i h1
      subst h1; cases hr; dsimp only [pw_w1] at hw; split at hw
      · exact pw_o_iadd hd (hk _ _ _ hw)
      · cases hw
    · cases hr
  | isub =>
    simp only [pw_rs] at hr
    split at hr
    · rename_i h1
      subst h1; cases hr; dsimp only [pw_w1] at hw; split at hw
      · exact pw_o_isub hd (hk _ _ _ hw)
      · cases hw
    · cases hr
  | imul =>
    simp only [pw_rs] at hr
    split at hr
    · rename_i h1
      subst h1; cases hr; dsimp only [pw_w1] at hw; split at hw
      · exact pw_o_imul hd (hk _ _ _ hw)
      · cases hw
    · cases hr
  | iand =>
    simp only [pw_rs] at hr
    split at hr
    · rename_i h1
      subst h1; cases hr; dsimp only [pw_w1] at hw; split at hw
      · exact pw_o_iand hd (hk _ _ _ hw)
      · cases hw
    · cases hr
  | ior =>
    simp only [pw_rs] at hr
    split at hr
    · rename_i h1
      subst h1; cases hr; dsimp only [pw_w1] at hw; split at hw
      · exact pw_o_ior hd (hk _ _ _ hw)
      · cases hw
    · cases hr
  | ixor =>
    simp only [pw_rs] at hr
    split at hr
    · rename_i h1
      subst h1; cases hr; dsimp only [pw_w1] at hw; split at hw
      · exact pw_o_ixor hd (hk _ _ _ hw)
      · cases hw
    · cases hr
  | ishl =>
    simp only [pw_rs] at hr
    split at hr
    · rename_i h1
      subst h1; cases hr; dsimp only [pw_w1] at hw; split at hw
      · exact pw_o_ishl hd (hk _ _ _ hw)
      · cases hw
    · cases hr
  | ishr =>
    simp only [pw_rs] at hr
    split at hr
    · rename_i h1
      subst h1; cases hr; dsimp only [pw_w1] at hw; split at hw
      · exact pw_o_ishr hd (hk _ _ _ hw)
      · cases hw
    · cases hr
  | iushr =>
    simp only [pw_rs] at hr
    split at hr
    · rename_i h1
      subst h1; cases hr; dsimp only [pw_w1] at hw; split at hw
      · exact pw_o_iushr hd (hk _ _ _ hw)
      · cases hw
    · cases hr
  | ladd =>
    simp only [pw_rs] at hr
    split at hr
    · rename_i h1
      subst h1; cases hr; dsimp only [pw_w1] at hw; split at hw
      · exact pw_o_ladd hd (hk _ _ _ hw)
      · cases hw
    · cases hr
  | lmul =>
    simp only [pw_rs] at hr
    split at hr
    · rename_i h1
      subst h1; cases hr; dsimp only [pw_w1] at hw; split at hw
      · exact pw_o_lmul hd (hk _ _ _ hw)
      · cases hw
    · cases hr
  | lcmp =>
    simp only [pw_rs] at hr
    split at hr
    · rename_i h1
      subst h1; cases hr; dsimp only [pw_w1] at hw; split at hw
      · exact pw_o_lcmp hd (hk _ _ _ hw)
      · cases hw
    · cases hr
  | i2l =>
    simp only [pw_rs] at hr
    split at hr
    · rename_i h1
      subst h1; cases hr; dsimp only [pw_w1] at hw; split at hw
      · exact pw_o_i2l hd (hk _ _ _ hw)
      · cases hw
    · cases hr
  | idiv =>
    simp only [pw_rs] at hr
    split at hr
    · rename_i h1
      subst h1; cases hr; dsimp only [pw_w1] at hw; split at hw
      · exact pw_o_idiv hd hw.1 (hk _ _ _ hw.2)
      · cases hw
    · cases hr
  | irem =>
    simp only [pw_rs] at hr
    split at hr
    · rename_i h1
      subst h1; cases hr; dsimp only [pw_w1] at hw; split at hw
      · exact pw_o_irem hd hw.1 (hk _ _ _ hw.2)
      · cases hw
    · cases hr
  | ldiv =>
    simp only [pw_rs] at hr
    split at hr
    · rename_i h1
      subst h1; cases hr; dsimp only [pw_w1] at hw; split at hw
      · exact pw_o_ldiv hd hw.1 (hk _ _ _ hw.2)
      · cases hw
    · cases hr
  | lrem =>
    simp only [pw_rs] at hr
    split at hr
    · rename_i h1
      subst h1; cases hr; dsimp only [pw_w1] at hw; split at hw
      · exact pw_o_lrem hd hw.1 (hk _ _ _ hw.2)
      · cases hw
    · cases hr
  | dup =>
    simp only [pw_rs] at hr
    split at hr
    · rename_i h1
      subst h1; cases hr; dsimp only [pw_w1] at hw; split at hw
      · exact pw_o_dup hd rfl (hk _ _ _ hw)
      · exact pw_o_dup hd rfl (hk _ _ _ hw)
      · cases hw
    · cases hr
  | dup2 =>
    simp only [pw_rs] at hr
    split at hr
    · rename_i h1
      subst h1; cases hr; dsimp only [pw_w1] at hw; split at hw
      · exact pw_o_dup2 hd rfl rfl (hk _ _ _ hw)
      · cases hw
    · cases hr
  | pop =>
    simp only [pw_rs] at hr
    split at hr
    · rename_i h1
      subst h1; cases hr; dsimp only [pw_w1] at hw; split at hw
      · exact pw_o_pop hd rfl (hk _ _ _ hw)
      · cases hw
    · cases hr
  | iconst n =>
    simp only [pw_rs] at hr
    split at hr
    · rename_i h1
      subst h1; cases hr; exact pw_o_iconst hd (hk _ _ _ hw)
    · cases hr
  | bipush n =>
    simp only [pw_rs] at hr
    split at hr
    · rename_i h1
      obtain ⟨h1, h2⟩ := h1; subst h1; cases hr; exact pw_o_bipush hd h2 (hk _ _ _ hw)
    · cases hr
  | sipush n =>
    simp only [pw_rs] at hr
    split at hr
    · rename_i h1
      obtain ⟨h1, h2⟩ := h1; subst h1; cases hr; exact pw_o_sipush hd h2 (hk _ _ _ hw)
    · cases hr
  | lconst n =>
    simp only [pw_rs] at hr
    split at hr
    · rename_i h1
      obtain ⟨h1, h2⟩ := h1; subst h1; cases hr; exact pw_o_lconst hd h2 (hk _ _ _ hw)
    · cases hr
  | ldc2_w n =>
    simp only [pw_rs] at hr
    split at hr
    · rename_i h1
      subst h1; obtain ⟨v, hv, rfl⟩ := Option.map_eq_some_iff.mp hr; exact pw_o_ldc2 hd hv (hk _ _ _ hw)
    · cases hr
  | ldc_w n =>
    simp only [pw_rs] at hr
    split at hr
    · rename_i h1
      subst h1; obtain ⟨v, hv, rfl⟩ := Option.map_eq_some_iff.mp hr; exact pw_o_ldcw hd hv (hk _ _ _ hw)
    · cases hr
  | getstatic n =>
    simp only [pw_rs] at hr
    split at hr
    · rename_i h1
      subst h1; obtain ⟨v, hv, rfl⟩ := Option.map_eq_some_iff.mp hr; exact pw_o_getstatic hd hv (hk _ _ _ hw)
    · cases hr
  | iload_n k =>
    simp only [pw_rs] at hr
    split at hr
    · rename_i h1
      subst h1; cases hr; dsimp only [pw_w1] at hw; split at hw
      · rename_i hv; exact pw_o_iload_n hd hv (hk _ _ _ hw)
      · cases hw
    · cases hr
  | iload k =>
    simp only [pw_rs] at hr
    split at hr
    · rename_i h1
      subst h1; cases hr; dsimp only [pw_w1] at hw; split at hw
      · rename_i hv; exact pw_o_iload hd hv (hk _ _ _ hw)
      · cases hw
    · cases hr
  | istore_n k =>
    simp only [pw_rs] at hr
    split at hr
    · rename_i h1
      subst h1; cases hr; dsimp only [pw_w1] at hw; split at hw
      · exact pw_o_istore_n hd hm (hk _ _ _ hw)
      · cases hw
    · cases hr
  | istore k =>
    simp only [pw_rs] at hr
    split at hr
    · rename_i h1
      subst h1; cases hr; dsimp only [pw_w1] at hw; split at hw
      · exact pw_o_istore hd hm (hk _ _ _ hw)
      · cases hw
    · cases hr
  | lload_n k =>
    simp only [pw_rs] at hr
    split at hr
    · rename_i h1
      subst h1; cases hr; dsimp only [pw_w1] at hw; split at hw
      · rename_i hv; exact pw_o_lload_n hd hv (hk _ _ _ hw)
      · cases hw
    · cases hr
  | lload k =>
    simp only [pw_rs] at hr
    split at hr
    · rename_i h1
      subst h1; cases hr; dsimp only [pw_w1] at hw; split at hw
      · rename_i hv; exact pw_o_lload hd hv (hk _ _ _ hw)
      · cases hw
    · cases hr
  | lstore_n k =>
    simp only [pw_rs] at hr
    split at hr
    · rename_i h1
      subst h1; cases hr; dsimp only [pw_w1] at hw; split at hw
      · exact pw_o_lstore_n hd hm (hk _ _ _ hw)
      · cases hw
    · cases hr
  | lstore k =>
    simp only [pw_rs] at hr
    split at hr
    · rename_i h1
      subst h1; cases hr; dsimp only [pw_w1] at hw; split at hw
      · exact pw_o_lstore hd hm (hk _ _ _ hw)
      · cases hw
    · cases hr
  | aload_n k =>
    simp only [pw_rs] at hr
    split at hr
    · rename_i h1
      subst h1; cases hr; dsimp only [pw_w1] at hw; split at hw
      · rename_i hv; exact pw_o_aload_n hd hv (hk _ _ _ hw)
      · cases hw
    · cases hr
  | aload k =>
    simp only [pw_rs] at hr
    split at hr
    · rename_i h1
      subst h1; cases hr; dsimp only [pw_w1] at hw; split at hw
      · rename_i hv; exact pw_o_aload hd hv (hk _ _ _ hw)
      · cases hw
    · cases hr
  | astore_n k =>
    simp only [pw_rs] at hr
    split at hr
    · rename_i h1
      subst h1; cases hr; dsimp only [pw_w1] at hw; split at hw
      · exact pw_o_astore_n hd hm (hk _ _ _ hw)
      · cases hw
    · cases hr
  | astore k =>
    simp only [pw_rs] at hr
    split at hr
    · rename_i h1
      subst h1; cases hr; dsimp only [pw_w1] at hw; split at hw
      · exact pw_o_astore hd hm (hk _ _ _ hw)
      · cases hw
    · cases hr
  | iinc k n =>
    simp only [pw_rs] at hr
    split at hr
    · rename_i h1
      subst h1; cases hr; dsimp only [pw_w1] at hw; split at hw
      · rename_i hv; exact pw_o_iinc hd hv hm (hk _ _ _ hw)
      · cases hw
    · cases hr
  | getfield n =>
    simp only [pw_rs] at hr
    split at hr
    · rename_i h1
      subst h1; obtain ⟨e, he, rfl⟩ := Option.map_eq_some_iff.mp hr
      have hmem := List.mem_of_find?_eq_some he
      have hp := List.find?_some he
      rw [Bool.and_eq_true, beq_iff_eq, beq_iff_eq] at hp
      obtain ⟨C, T, N, -, -, h100, -, -⟩ := pw_fl hmem
      have e1 : (100 * e.2.2.1 + e.2.2.2.1) / 100 = e.2.2.1 := by omega
      have e2 : (100 * e.2.2.1 + e.2.2.2.1) % 100 = e.2.2.2.1 := by omega
      dsimp only [pw_w1] at hw
      rw [e1, e2] at hw
      split at hw
      · split at hw
        · rename_i o hs
          split at hw
          · rename_i hci
            split at hw
            · rename_i hf; exact pw_o_getfield hd hmem hp.1 hp.2 hs hci hf (hk _ _ _ hw)
            · rename_i hf; exact pw_o_getfield hd hmem hp.1 hp.2 hs hci hf (hk _ _ _ hw)
            · cases hw
          · cases hw
        · cases hw
      · cases hw
    · cases hr
  | putfield n =>
    simp only [pw_rs] at hr
    split at hr
    · rename_i h1
      subst h1; obtain ⟨e, he, rfl⟩ := Option.map_eq_some_iff.mp hr
      have hmem := List.mem_of_find?_eq_some he
      have hp := List.find?_some he
      rw [Bool.and_eq_true, beq_iff_eq, beq_iff_eq] at hp
      obtain ⟨C, T, N, -, -, h100, -, -⟩ := pw_fl hmem
      have e1 : (100 * e.2.2.1 + e.2.2.2.1) / 100 = e.2.2.1 := by omega
      have e2 : (100 * e.2.2.1 + e.2.2.2.1) % 100 = e.2.2.2.1 := by omega
      dsimp only [pw_w1] at hw
      rw [e1, e2] at hw
      split at hw
      · split at hw
        · rename_i o hs
          split at hw
          · rename_i hci
            split at hw
            · rename_i hf
              split at hw
              · exact pw_o_putfield hd hmem hp.1 hp.2 hs hci hf (fun _ => hw.1) (hk _ _ _ hw.2)
              · rename_i hz; exact pw_o_putfield hd hmem hp.1 hp.2 hs hci hf (fun q => absurd (hci ▸ q) hz) (hk _ _ _ hw)
            · cases hw
          · cases hw
        · cases hw
      · cases hw
    · cases hr
  | iaload =>
    simp only [pw_rs] at hr
    split at hr
    · rename_i h1
      subst h1; cases hr; dsimp only [pw_w1] at hw; split at hw
      · split at hw
        · rename_i n f hs
          unfold pw_ia at hs
          split at hs
          · rename_i hs2; cases hs; obtain ⟨j, rfl, hj, hw⟩ := hw; exact pw_o_iaload hd hs2 (vp_in_nI hj (pw_sha hs2)) (hk _ _ _ (by rw [nI_clamp (Nat.lt_trans hj (pw_sha hs2))]; exact hw))
          · cases hs
          · obtain ⟨j, rfl, hj, hw⟩ := hw; intro hC; have hb := pw_tbl_lt hC hs; exact pw_o_tload hd hs (vp_in_nI hj hb) (hk _ _ _ (by rw [nI_clamp (Nat.lt_trans hj hb)]; exact hw)) hC
        · cases hw
      · cases hw
    · cases hr
  | baload =>
    simp only [pw_rs] at hr
    split at hr
    · rename_i h1
      subst h1; cases hr; dsimp only [pw_w1] at hw; split at hw
      · split at hw
        · rename_i hs; obtain ⟨j, rfl, hj, hw⟩ := hw; exact pw_o_baload hd hs (vp_in_nI hj (pw_sha hs)) (hk _ _ _ (by rw [nI_clamp (Nat.lt_trans hj (pw_sha hs))]; exact hw))
        · cases hw
      · cases hw
    · cases hr
  | aaload =>
    simp only [pw_rs] at hr
    split at hr
    · rename_i h1
      subst h1; cases hr; dsimp only [pw_w1] at hw; split at hw
      · split at hw
        · rename_i hs; obtain ⟨j, rfl, hj, hw⟩ := hw; exact pw_o_aaload hd hs (vp_in_nI hj (pw_sha hs)) (hk _ _ _ (by rw [nI_clamp (Nat.lt_trans hj (pw_sha hs))]; exact hw))
        · cases hw
      · cases hw
    · cases hr
  | iastore =>
    simp only [pw_rs] at hr
    split at hr
    · rename_i h1
      subst h1; cases hr; dsimp only [pw_w1] at hw; split at hw
      · split at hw
        · rename_i hs; obtain ⟨j, rfl, hj, hw⟩ := hw; exact pw_o_iastore hd hs (vp_in_nI hj (pw_sha hs)) (hk _ _ _ (by rw [nI_clamp (Nat.lt_trans hj (pw_sha hs))]; exact hw))
        · cases hw
      · cases hw
    · cases hr
  | bastore =>
    simp only [pw_rs] at hr
    split at hr
    · rename_i h1
      subst h1; cases hr; dsimp only [pw_w1] at hw; split at hw
      · split at hw
        · rename_i hs; obtain ⟨hv, j, rfl, hj, hw⟩ := hw; exact pw_o_bastore hd hs hv (vp_in_nI hj (pw_sha hs)) (hk _ _ _ (by rw [nI_clamp (Nat.lt_trans hj (pw_sha hs))]; exact hw))
        · cases hw
      · cases hw
    · cases hr
  | caload =>
    simp only [pw_rs] at hr
    split at hr
    · rename_i h1
      subst h1; cases hr; dsimp only [pw_w1] at hw; split at hw
      · obtain ⟨rfl, j, rfl, hj, hw⟩ := hw; exact pw_o_caload hd (vp_in_nI hj (by decide)) (hk _ _ _ (by rw [nI_clamp (by omega)]; exact hw))
      · cases hw
    · cases hr
  | arraylength =>
    simp only [pw_rs] at hr
    split at hr
    · rename_i h1
      subst h1; cases hr; dsimp only [pw_w1] at hw; split at hw
      · split at hw
        · rename_i h9; subst h9; exact pw_o_clen hd (hk _ _ _ hw)
        · split at hw
          · cases hw
          · rename_i h93
            split at hw
            · rename_i n f hs
              unfold pw_ia at hs
              split at hs
              · rename_i hs2; cases hs; exact pw_o_alen hd hs2 (hk _ _ _ hw)
              · cases hs
              · exact pw_o_tlen (Or.inr h93) hd hs (hk _ _ _ hw)
            · cases hw
      · cases hw
    · cases hr
  | _ => cases hr
theorem pw_blk {x : pw_X} {M : pw_M} {d : Nat} {Z : State → Prop} (is : List Instr) {pc pc' : Nat} {lv : List (Nat × Value)} {st : List Value} {mm : pw_m} (hc : pw_ck M pc is = some pc') (hw : pw_wp (pw_xX x) is lv st mm (fun lv' st' m' => pw_V x M d Z pc' lv' st' m')) : pw_V x M d Z pc lv st mm := by
  induction is generalizing pc lv st mm with
  | nil =>
    cases hc
    exact hw
  | cons i is ih =>
    unfold pw_ck at hc
    split at hc
    · rename_i r len hd
      split at hc
      · rename_i h
        exact pw_st hd h.1 h.2 hw (fun lv' st' m' h' => ih hc h')
      · cases hc
    · cases hc
