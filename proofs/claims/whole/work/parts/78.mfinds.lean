theorem pw_sM_up1 {B : pw_m} {g : Nat → Option Nat} {a : pw_ac} {i : Nat} {v : Option Nat} (hi : i < 6) : pw_up (pw_sM B g a) 41 i (pw_o v) = pw_sM B g (a.1, a.2.1, a.2.2.1, pw_gs a.2.2.2 i v) := by
  funext c
  by_cases h : c = 41
  · subst h
    rw [pw_up_eq]
    unfold upd pw_sM
    rw [if_neg (by omega), if_pos rfl, if_neg (by omega), if_pos rfl]
    funext j
    unfold pw_gs
    dsimp only
    by_cases q : j = i
    · subst q; rw [if_pos rfl, if_pos hi, if_pos rfl]
    · rw [if_neg q, if_neg q]
  · rw [pw_up_ne h]; unfold pw_sM; rw [if_neg h, if_neg h]
theorem pw_sM_fin {B : pw_m} {g : Nat → Option Nat} {a : pw_ac} {u v t : Nat} : pw_up (pw_up (pw_up (pw_sM B g a) 26 36 (nI u)) 26 37 (nI v)) 26 34 (nI t) = pw_sM B g (t, u, v, a.2.2.2) := by
  funext c
  by_cases h : c = 26
  · subst h
    rw [pw_up_eq, pw_up_eq, pw_up_eq]
    unfold pw_sM
    rw [if_neg (by omega), if_neg (by omega), if_pos rfl, if_neg (by omega), if_neg (by omega), if_pos rfl]
    funext j
    unfold upd
    by_cases q1 : j = 34
    · subst q1; rfl
    · by_cases q2 : j = 37
      · subst q2; rfl
      · by_cases q3 : j = 36
        · subst q3; rfl
        · simp only [q1, q2, q3, if_false]
  · rw [pw_up_ne h, pw_up_ne h, pw_up_ne h]; unfold pw_sM; rw [if_neg h, if_neg h]
def pw_ff1 (A : pw_m) (g : Nat → Option Nat) (a : pw_ac) (e : Nat) : Nat → Option Nat := fun j => if j < e ∧ (pw_g A 42 1).testBit j = true ∧ a.1 = 0 then g j else a.2.2.2 j
theorem pw_ff1_0 {A : pw_m} {g : Nat → Option Nat} {a : pw_ac} : pw_ff1 A g a 0 = a.2.2.2 := by
  funext j; unfold pw_ff1; rw [if_neg (by omega)]
theorem pw_ff1_s {A : pw_m} {g : Nat → Option Nat} {a : pw_ac} {e : Nat} {v : Option Nat} (hv : v = if (pw_g A 42 1).testBit e = true ∧ a.1 = 0 then g e else a.2.2.2 e) : pw_gs (pw_ff1 A g a e) e v = pw_ff1 A g a (e + 1) := by
  funext j
  unfold pw_gs pw_ff1
  by_cases q : j = e
  · subst q
    rw [if_pos rfl, hv]
    by_cases z : (pw_g A 42 1).testBit j = true ∧ a.1 = 0
    · rw [if_pos z, if_pos ⟨by omega, z⟩]
    · rw [if_neg z, if_neg (fun y => z y.2)]
  · rw [if_neg q]
    by_cases z : j < e ∧ (pw_g A 42 1).testBit j = true ∧ a.1 = 0
    · rw [if_pos z, if_pos ⟨by omega, z.2⟩]
    · rw [if_neg z, if_neg (fun y => z ⟨by omega, y.2⟩)]
theorem pw_ff1_n {A : pw_m} {g : Nat → Option Nat} {a : pw_ac} {e : Nat} (h : (pw_g A 42 1).testBit e = false) : pw_ff1 A g a e = pw_ff1 A g a (e + 1) := by
  funext j
  unfold pw_ff1
  by_cases q : j = e
  · subst q; rw [if_neg (by omega), if_neg (fun y => by rw [h] at y; cases y.2.1)]
  · by_cases z : j < e ∧ (pw_g A 42 1).testBit j = true ∧ a.1 = 0
    · rw [if_pos z, if_pos ⟨by omega, z.2⟩]
    · rw [if_neg z, if_neg (fun y => z ⟨by omega, y.2⟩)]
theorem pw_sM_pw {B : pw_m} {g : Nat → Option Nat} {a : pw_ac} : pw_sM B g a = pw_sM B g (a.1, a.2.1, a.2.2.1, a.2.2.2) := rfl

set_option maxHeartbeats 4000000 in
set_option maxRecDepth 100000 in
theorem cL_mfinds {A : pw_m} (B : pw_m) (hl : MV A (pw_up B 26 33 (-1))) (hok : pw_ok A) (gx : Nat → Option Nat) (hgb : ∀ j a, j < 6 → gx j = some a → a < 8) (hgn : ∀ i, i < pw_k A → (pw_g A 42 1).testBit i = true → ∃ sx, sx < pw_n A ∧ gx i = some sx) (ac : pw_ac) (hac : ac.1 < 1000000 ∧ ac.2.1 < 100 ∧ ac.2.2.1 < 100) (w : Nat) (hw : w < 4) : pw_Ct 3 yX8_finds m_X8_finds [.ref 26, .int (nI w)] (pw_sM B gx ac) (fun r m' => r = none ∧ m' = pw_sM B gx (pw_fin A w gx ac)) := by
  refine pw_ct (by decide +kernel) rfl (Nat.le_of_ble_eq_true rfl) (fun x => ?_)
  generalize hZ : pw_Z x _ = Z
  have bn := pw_bn hok
  have bk := pw_bk hok
  show pw_V x m_X8_finds 3 Z 0 [(0, .ref 26), (1, .int (nI w))] [] (pw_sM B gx ac)
  refine pw_blk (pc' := 7) [.iconst 0, .istore 2, .iconst 0, .istore 3, .iconst 0, .istore 4] (by decide +kernel) ?_
  show pw_V x m_X8_finds 3 Z 7 [(4, .int (nI 0)), (3, .int (nI 0)), (2, .int (nI 0)), (0, .ref 26), (1, .int (nI w))] [] (pw_sM B gx ac)
  refine pw_lvp [3, 4, 2, 1, 0] rfl ?_
  rw [show pw_sM B gx ac = pw_sM B gx (ac.1, ac.2.1, ac.2.2.1, pw_ff1 A gx ac 0) from by rw [pw_ff1_0]]
  suffices lo : ∀ ix : Nat, ix ≤ pw_k A → pw_V x m_X8_finds 3 Z 7 [(0, .ref 26), (1, .int (nI w)), (2, .int (nI (pw_mvd A gx ix))), (3, .int (nI (pw_knw A w gx ix))), (4, .int (nI ix))] [] (pw_sM B gx (ac.1, ac.2.1, ac.2.2.1, pw_ff1 A gx ac ix)) from lo 0 (by omega)
  refine pw_dn (pw_k A) (fun ix hix ih => ?_)
  have bmv : pw_mvd A gx ix ≤ ix := pw_ct_le
  have bkn : pw_knw A w gx ix ≤ ix := pw_ct_le
  refine pw_blk (pc' := 13) [.iload 4, .aload 0, .getfield 802] (by decide +kernel) ?_
  show pw_V x m_X8_finds 3 Z 13 [(0, .ref 26), (1, .int (nI w)), (2, .int (nI (pw_mvd A gx ix))), (3, .int (nI (pw_knw A w gx ix))), (4, .int (nI ix))] [.int ((pw_sM B gx (ac.1, ac.2.1, ac.2.2.1, pw_ff1 A gx ac ix)) 26 2), .int (nI ix)] (pw_sM B gx (ac.1, ac.2.1, ac.2.2.1, pw_ff1 A gx ac ix))
  rw [show (pw_sM B gx (ac.1, ac.2.1, ac.2.2.1, pw_ff1 A gx ac ix)) 26 2 = nI (pw_k A) from ((pw_sM_6 (by omega) (by omega) (by omega)).trans (mv_k (B := pw_up B 26 33 (-1)) hl hok))]
  refine pw_in_ge (tgt := 154) (off := 141) (by first | omega | exact pw_g_lt) (by first | omega | exact pw_g_lt) (by decide +kernel) (by decide) (fun h13 => ?_) (fun h13 => ?_)
  · have ek : ix = pw_k A := by omega
    rw [ek]
    rw [ek] at bmv bkn
    refine pw_blk (pc' := 159) [.aload 0, .aload 0, .getfield 834] (by decide +kernel) ?_
    show pw_V x m_X8_finds 3 Z 159 [(0, .ref 26), (1, .int (nI w)), (2, .int (nI (pw_mvd A gx (pw_k A)))), (3, .int (nI (pw_knw A w gx (pw_k A)))), (4, .int (nI (pw_k A)))] [.int ((pw_sM B gx (ac.1, ac.2.1, ac.2.2.1, pw_ff1 A gx ac (pw_k A))) 26 34), .ref 26] (pw_sM B gx (ac.1, ac.2.1, ac.2.2.1, pw_ff1 A gx ac (pw_k A)))
    rw [show (pw_sM B gx (ac.1, ac.2.1, ac.2.2.1, pw_ff1 A gx ac (pw_k A))) 26 34 = nI (ac.1) from rfl]
    refine pw_iz_eq (tgt := 170) (off := 11) (by first | omega | exact pw_g_lt) (by decide +kernel) (by decide) (fun h159 => ?_) (fun h159 => ?_)
    · refine pw_blk (pc' := 171) [.iload 2] (by decide +kernel) ?_
      show pw_V x m_X8_finds 3 Z 171 [(0, .ref 26), (1, .int (nI w)), (2, .int (nI (pw_mvd A gx (pw_k A)))), (3, .int (nI (pw_knw A w gx (pw_k A)))), (4, .int (nI (pw_k A)))] [.int (nI (pw_mvd A gx (pw_k A))), .ref 26] (pw_sM B gx (ac.1, ac.2.1, ac.2.2.1, pw_ff1 A gx ac (pw_k A)))
      refine pw_goto (tgt := 178) (off := 7) (by decide +kernel) (by decide) ?_
      refine pw_blk (pc' := 186) [.putfield 836, .aload 0, .aload 0, .getfield 834] (by decide +kernel) ?_
      show pw_V x m_X8_finds 3 Z 186 [(0, .ref 26), (1, .int (nI w)), (2, .int (nI (pw_mvd A gx (pw_k A)))), (3, .int (nI (pw_knw A w gx (pw_k A)))), (4, .int (nI (pw_k A)))] [.int ((pw_sM B gx (ac.1, ac.2.1, ac.2.2.1, pw_ff1 A gx ac (pw_k A))) 26 34), .ref 26] (pw_up (pw_sM B gx (ac.1, ac.2.1, ac.2.2.1, pw_ff1 A gx ac (pw_k A))) 26 36 (nI (pw_mvd A gx (pw_k A))))
      rw [show (pw_sM B gx (ac.1, ac.2.1, ac.2.2.1, pw_ff1 A gx ac (pw_k A))) 26 34 = nI (ac.1) from rfl]
      refine pw_iz_eq (tgt := 197) (off := 11) (by first | omega | exact pw_g_lt) (by decide +kernel) (by decide) (fun h186 => ?_) (fun h186 => ?_)
      · refine pw_blk (pc' := 198) [.iload 3] (by decide +kernel) ?_
        show pw_V x m_X8_finds 3 Z 198 [(0, .ref 26), (1, .int (nI w)), (2, .int (nI (pw_mvd A gx (pw_k A)))), (3, .int (nI (pw_knw A w gx (pw_k A)))), (4, .int (nI (pw_k A)))] [.int (nI (pw_knw A w gx (pw_k A))), .ref 26] (pw_up (pw_sM B gx (ac.1, ac.2.1, ac.2.2.1, pw_ff1 A gx ac (pw_k A))) 26 36 (nI (pw_mvd A gx (pw_k A))))
        refine pw_goto (tgt := 205) (off := 7) (by decide +kernel) (by decide) ?_
        refine pw_blk (pc' := 218) [.putfield 837, .aload 0, .dup, .getfield 834, .iconst 1, .iadd, .putfield 834] (by decide +kernel) ?_
        show pw_V x m_X8_finds 3 Z 218 [(0, .ref 26), (1, .int (nI w)), (2, .int (nI (pw_mvd A gx (pw_k A)))), (3, .int (nI (pw_knw A w gx (pw_k A)))), (4, .int (nI (pw_k A)))] [] (pw_up (pw_up (pw_up (pw_sM B gx (ac.1, ac.2.1, ac.2.2.1, pw_ff1 A gx ac (pw_k A))) 26 36 (nI (pw_mvd A gx (pw_k A)))) 26 37 (nI (pw_knw A w gx (pw_k A)))) 26 34 (((pw_sM B gx (ac.1, ac.2.1, ac.2.2.1, pw_ff1 A gx ac (pw_k A))) 26 34) + (nI 1)))
        rw [show (pw_sM B gx (ac.1, ac.2.1, ac.2.2.1, pw_ff1 A gx ac (pw_k A))) 26 34 = nI (ac.1) from rfl]
        rw [show (nI (ac.1)) + (nI 1) = nI (ac.1 + 1) from nI_add _ _]
        rw [← hZ]
        refine pw_rv (by decide +kernel) ?_
        refine ⟨rfl, ?_⟩
        rw [pw_sM_fin]
        unfold pw_fin
        rw [if_pos (Or.inl h159), if_pos (Or.inl h186)]
        rfl
      · refine pw_blk (pc' := 194) [.iload 3, .aload 0, .getfield 837] (by decide +kernel) ?_
        show pw_V x m_X8_finds 3 Z 194 [(0, .ref 26), (1, .int (nI w)), (2, .int (nI (pw_mvd A gx (pw_k A)))), (3, .int (nI (pw_knw A w gx (pw_k A)))), (4, .int (nI (pw_k A)))] [.int ((pw_sM B gx (ac.1, ac.2.1, ac.2.2.1, pw_ff1 A gx ac (pw_k A))) 26 37), .int (nI (pw_knw A w gx (pw_k A))), .ref 26] (pw_up (pw_sM B gx (ac.1, ac.2.1, ac.2.2.1, pw_ff1 A gx ac (pw_k A))) 26 36 (nI (pw_mvd A gx (pw_k A))))
        rw [show (pw_sM B gx (ac.1, ac.2.1, ac.2.2.1, pw_ff1 A gx ac (pw_k A))) 26 37 = nI (ac.2.2.1) from rfl]
        refine pw_in_le (tgt := 201) (off := 7) (by first | omega | exact pw_g_lt) (by first | omega | exact pw_g_lt) (by decide +kernel) (by decide) (fun h194 => ?_) (fun h194 => ?_)
        · refine pw_blk (pc' := 218) [.aload 0, .getfield 837, .putfield 837, .aload 0, .dup, .getfield 834, .iconst 1, .iadd, .putfield 834] (by decide +kernel) ?_
          show pw_V x m_X8_finds 3 Z 218 [(0, .ref 26), (1, .int (nI w)), (2, .int (nI (pw_mvd A gx (pw_k A)))), (3, .int (nI (pw_knw A w gx (pw_k A)))), (4, .int (nI (pw_k A)))] [] (pw_up (pw_up (pw_up (pw_sM B gx (ac.1, ac.2.1, ac.2.2.1, pw_ff1 A gx ac (pw_k A))) 26 36 (nI (pw_mvd A gx (pw_k A)))) 26 37 ((pw_sM B gx (ac.1, ac.2.1, ac.2.2.1, pw_ff1 A gx ac (pw_k A))) 26 37)) 26 34 (((pw_sM B gx (ac.1, ac.2.1, ac.2.2.1, pw_ff1 A gx ac (pw_k A))) 26 34) + (nI 1)))
          rw [show (pw_sM B gx (ac.1, ac.2.1, ac.2.2.1, pw_ff1 A gx ac (pw_k A))) 26 37 = nI (ac.2.2.1) from rfl]
          rw [show (pw_sM B gx (ac.1, ac.2.1, ac.2.2.1, pw_ff1 A gx ac (pw_k A))) 26 34 = nI (ac.1) from rfl]
          rw [show (nI (ac.1)) + (nI 1) = nI (ac.1 + 1) from nI_add _ _]
          rw [← hZ]
          refine pw_rv (by decide +kernel) ?_
          refine ⟨rfl, ?_⟩
          rw [pw_sM_fin]
          unfold pw_fin
          rw [if_pos (Or.inl h159), if_neg (fun z => z.elim h186 (by omega))]
          rfl
        · refine pw_blk (pc' := 198) [.iload 3] (by decide +kernel) ?_
          show pw_V x m_X8_finds 3 Z 198 [(0, .ref 26), (1, .int (nI w)), (2, .int (nI (pw_mvd A gx (pw_k A)))), (3, .int (nI (pw_knw A w gx (pw_k A)))), (4, .int (nI (pw_k A)))] [.int (nI (pw_knw A w gx (pw_k A))), .ref 26] (pw_up (pw_sM B gx (ac.1, ac.2.1, ac.2.2.1, pw_ff1 A gx ac (pw_k A))) 26 36 (nI (pw_mvd A gx (pw_k A))))
          refine pw_goto (tgt := 205) (off := 7) (by decide +kernel) (by decide) ?_
          refine pw_blk (pc' := 218) [.putfield 837, .aload 0, .dup, .getfield 834, .iconst 1, .iadd, .putfield 834] (by decide +kernel) ?_
          show pw_V x m_X8_finds 3 Z 218 [(0, .ref 26), (1, .int (nI w)), (2, .int (nI (pw_mvd A gx (pw_k A)))), (3, .int (nI (pw_knw A w gx (pw_k A)))), (4, .int (nI (pw_k A)))] [] (pw_up (pw_up (pw_up (pw_sM B gx (ac.1, ac.2.1, ac.2.2.1, pw_ff1 A gx ac (pw_k A))) 26 36 (nI (pw_mvd A gx (pw_k A)))) 26 37 (nI (pw_knw A w gx (pw_k A)))) 26 34 (((pw_sM B gx (ac.1, ac.2.1, ac.2.2.1, pw_ff1 A gx ac (pw_k A))) 26 34) + (nI 1)))
          rw [show (pw_sM B gx (ac.1, ac.2.1, ac.2.2.1, pw_ff1 A gx ac (pw_k A))) 26 34 = nI (ac.1) from rfl]
          rw [show (nI (ac.1)) + (nI 1) = nI (ac.1 + 1) from nI_add _ _]
          rw [← hZ]
          refine pw_rv (by decide +kernel) ?_
          refine ⟨rfl, ?_⟩
          rw [pw_sM_fin]
          unfold pw_fin
          rw [if_pos (Or.inl h159), if_pos (Or.inr h194)]
          rfl
    · refine pw_blk (pc' := 167) [.iload 2, .aload 0, .getfield 836] (by decide +kernel) ?_
      show pw_V x m_X8_finds 3 Z 167 [(0, .ref 26), (1, .int (nI w)), (2, .int (nI (pw_mvd A gx (pw_k A)))), (3, .int (nI (pw_knw A w gx (pw_k A)))), (4, .int (nI (pw_k A)))] [.int ((pw_sM B gx (ac.1, ac.2.1, ac.2.2.1, pw_ff1 A gx ac (pw_k A))) 26 36), .int (nI (pw_mvd A gx (pw_k A))), .ref 26] (pw_sM B gx (ac.1, ac.2.1, ac.2.2.1, pw_ff1 A gx ac (pw_k A)))
      rw [show (pw_sM B gx (ac.1, ac.2.1, ac.2.2.1, pw_ff1 A gx ac (pw_k A))) 26 36 = nI (ac.2.1) from rfl]
      refine pw_in_ge (tgt := 174) (off := 7) (by first | omega | exact pw_g_lt) (by first | omega | exact pw_g_lt) (by decide +kernel) (by decide) (fun h167 => ?_) (fun h167 => ?_)
      · refine pw_blk (pc' := 186) [.aload 0, .getfield 836, .putfield 836, .aload 0, .aload 0, .getfield 834] (by decide +kernel) ?_
        show pw_V x m_X8_finds 3 Z 186 [(0, .ref 26), (1, .int (nI w)), (2, .int (nI (pw_mvd A gx (pw_k A)))), (3, .int (nI (pw_knw A w gx (pw_k A)))), (4, .int (nI (pw_k A)))] [.int ((pw_sM B gx (ac.1, ac.2.1, ac.2.2.1, pw_ff1 A gx ac (pw_k A))) 26 34), .ref 26] (pw_up (pw_sM B gx (ac.1, ac.2.1, ac.2.2.1, pw_ff1 A gx ac (pw_k A))) 26 36 ((pw_sM B gx (ac.1, ac.2.1, ac.2.2.1, pw_ff1 A gx ac (pw_k A))) 26 36))
        rw [show (pw_sM B gx (ac.1, ac.2.1, ac.2.2.1, pw_ff1 A gx ac (pw_k A))) 26 34 = nI (ac.1) from rfl]
        rw [show (pw_sM B gx (ac.1, ac.2.1, ac.2.2.1, pw_ff1 A gx ac (pw_k A))) 26 36 = nI (ac.2.1) from rfl]
        refine pw_iz_eq (tgt := 197) (off := 11) (by first | omega | exact pw_g_lt) (by decide +kernel) (by decide) (fun h186 => ?_) (fun h186 => ?_)
        · refine pw_blk (pc' := 198) [.iload 3] (by decide +kernel) ?_
          show pw_V x m_X8_finds 3 Z 198 [(0, .ref 26), (1, .int (nI w)), (2, .int (nI (pw_mvd A gx (pw_k A)))), (3, .int (nI (pw_knw A w gx (pw_k A)))), (4, .int (nI (pw_k A)))] [.int (nI (pw_knw A w gx (pw_k A))), .ref 26] (pw_up (pw_sM B gx (ac.1, ac.2.1, ac.2.2.1, pw_ff1 A gx ac (pw_k A))) 26 36 (nI (ac.2.1)))
          refine pw_goto (tgt := 205) (off := 7) (by decide +kernel) (by decide) ?_
          refine pw_blk (pc' := 218) [.putfield 837, .aload 0, .dup, .getfield 834, .iconst 1, .iadd, .putfield 834] (by decide +kernel) ?_
          show pw_V x m_X8_finds 3 Z 218 [(0, .ref 26), (1, .int (nI w)), (2, .int (nI (pw_mvd A gx (pw_k A)))), (3, .int (nI (pw_knw A w gx (pw_k A)))), (4, .int (nI (pw_k A)))] [] (pw_up (pw_up (pw_up (pw_sM B gx (ac.1, ac.2.1, ac.2.2.1, pw_ff1 A gx ac (pw_k A))) 26 36 (nI (ac.2.1))) 26 37 (nI (pw_knw A w gx (pw_k A)))) 26 34 (((pw_sM B gx (ac.1, ac.2.1, ac.2.2.1, pw_ff1 A gx ac (pw_k A))) 26 34) + (nI 1)))
          rw [show (pw_sM B gx (ac.1, ac.2.1, ac.2.2.1, pw_ff1 A gx ac (pw_k A))) 26 34 = nI (ac.1) from rfl]
          rw [show (nI (ac.1)) + (nI 1) = nI (ac.1 + 1) from nI_add _ _]
          rw [← hZ]
          refine pw_rv (by decide +kernel) ?_
          refine ⟨rfl, ?_⟩
          rw [pw_sM_fin]
          unfold pw_fin
          rw [if_neg (fun z => z.elim h159 (by omega)), if_pos (Or.inl h186)]
          rfl
        · refine pw_blk (pc' := 194) [.iload 3, .aload 0, .getfield 837] (by decide +kernel) ?_
          show pw_V x m_X8_finds 3 Z 194 [(0, .ref 26), (1, .int (nI w)), (2, .int (nI (pw_mvd A gx (pw_k A)))), (3, .int (nI (pw_knw A w gx (pw_k A)))), (4, .int (nI (pw_k A)))] [.int ((pw_sM B gx (ac.1, ac.2.1, ac.2.2.1, pw_ff1 A gx ac (pw_k A))) 26 37), .int (nI (pw_knw A w gx (pw_k A))), .ref 26] (pw_up (pw_sM B gx (ac.1, ac.2.1, ac.2.2.1, pw_ff1 A gx ac (pw_k A))) 26 36 (nI (ac.2.1)))
          rw [show (pw_sM B gx (ac.1, ac.2.1, ac.2.2.1, pw_ff1 A gx ac (pw_k A))) 26 37 = nI (ac.2.2.1) from rfl]
          refine pw_in_le (tgt := 201) (off := 7) (by first | omega | exact pw_g_lt) (by first | omega | exact pw_g_lt) (by decide +kernel) (by decide) (fun h194 => ?_) (fun h194 => ?_)
          · refine pw_blk (pc' := 218) [.aload 0, .getfield 837, .putfield 837, .aload 0, .dup, .getfield 834, .iconst 1, .iadd, .putfield 834] (by decide +kernel) ?_
            show pw_V x m_X8_finds 3 Z 218 [(0, .ref 26), (1, .int (nI w)), (2, .int (nI (pw_mvd A gx (pw_k A)))), (3, .int (nI (pw_knw A w gx (pw_k A)))), (4, .int (nI (pw_k A)))] [] (pw_up (pw_up (pw_up (pw_sM B gx (ac.1, ac.2.1, ac.2.2.1, pw_ff1 A gx ac (pw_k A))) 26 36 (nI (ac.2.1))) 26 37 ((pw_sM B gx (ac.1, ac.2.1, ac.2.2.1, pw_ff1 A gx ac (pw_k A))) 26 37)) 26 34 (((pw_sM B gx (ac.1, ac.2.1, ac.2.2.1, pw_ff1 A gx ac (pw_k A))) 26 34) + (nI 1)))
            rw [show (pw_sM B gx (ac.1, ac.2.1, ac.2.2.1, pw_ff1 A gx ac (pw_k A))) 26 37 = nI (ac.2.2.1) from rfl]
            rw [show (pw_sM B gx (ac.1, ac.2.1, ac.2.2.1, pw_ff1 A gx ac (pw_k A))) 26 34 = nI (ac.1) from rfl]
            rw [show (nI (ac.1)) + (nI 1) = nI (ac.1 + 1) from nI_add _ _]
            rw [← hZ]
            refine pw_rv (by decide +kernel) ?_
            refine ⟨rfl, ?_⟩
            rw [pw_sM_fin]
            unfold pw_fin
            rw [if_neg (fun z => z.elim h159 (by omega)), if_neg (fun z => z.elim h186 (by omega))]
            rfl
          · refine pw_blk (pc' := 198) [.iload 3] (by decide +kernel) ?_
            show pw_V x m_X8_finds 3 Z 198 [(0, .ref 26), (1, .int (nI w)), (2, .int (nI (pw_mvd A gx (pw_k A)))), (3, .int (nI (pw_knw A w gx (pw_k A)))), (4, .int (nI (pw_k A)))] [.int (nI (pw_knw A w gx (pw_k A))), .ref 26] (pw_up (pw_sM B gx (ac.1, ac.2.1, ac.2.2.1, pw_ff1 A gx ac (pw_k A))) 26 36 (nI (ac.2.1)))
            refine pw_goto (tgt := 205) (off := 7) (by decide +kernel) (by decide) ?_
            refine pw_blk (pc' := 218) [.putfield 837, .aload 0, .dup, .getfield 834, .iconst 1, .iadd, .putfield 834] (by decide +kernel) ?_
            show pw_V x m_X8_finds 3 Z 218 [(0, .ref 26), (1, .int (nI w)), (2, .int (nI (pw_mvd A gx (pw_k A)))), (3, .int (nI (pw_knw A w gx (pw_k A)))), (4, .int (nI (pw_k A)))] [] (pw_up (pw_up (pw_up (pw_sM B gx (ac.1, ac.2.1, ac.2.2.1, pw_ff1 A gx ac (pw_k A))) 26 36 (nI (ac.2.1))) 26 37 (nI (pw_knw A w gx (pw_k A)))) 26 34 (((pw_sM B gx (ac.1, ac.2.1, ac.2.2.1, pw_ff1 A gx ac (pw_k A))) 26 34) + (nI 1)))
            rw [show (pw_sM B gx (ac.1, ac.2.1, ac.2.2.1, pw_ff1 A gx ac (pw_k A))) 26 34 = nI (ac.1) from rfl]
            rw [show (nI (ac.1)) + (nI 1) = nI (ac.1 + 1) from nI_add _ _]
            rw [← hZ]
            refine pw_rv (by decide +kernel) ?_
            refine ⟨rfl, ?_⟩
            rw [pw_sM_fin]
            unfold pw_fin
            rw [if_neg (fun z => z.elim h159 (by omega)), if_pos (Or.inr h194)]
            rfl
      · refine pw_blk (pc' := 171) [.iload 2] (by decide +kernel) ?_
        show pw_V x m_X8_finds 3 Z 171 [(0, .ref 26), (1, .int (nI w)), (2, .int (nI (pw_mvd A gx (pw_k A)))), (3, .int (nI (pw_knw A w gx (pw_k A)))), (4, .int (nI (pw_k A)))] [.int (nI (pw_mvd A gx (pw_k A))), .ref 26] (pw_sM B gx (ac.1, ac.2.1, ac.2.2.1, pw_ff1 A gx ac (pw_k A)))
        refine pw_goto (tgt := 178) (off := 7) (by decide +kernel) (by decide) ?_
        refine pw_blk (pc' := 186) [.putfield 836, .aload 0, .aload 0, .getfield 834] (by decide +kernel) ?_
        show pw_V x m_X8_finds 3 Z 186 [(0, .ref 26), (1, .int (nI w)), (2, .int (nI (pw_mvd A gx (pw_k A)))), (3, .int (nI (pw_knw A w gx (pw_k A)))), (4, .int (nI (pw_k A)))] [.int ((pw_sM B gx (ac.1, ac.2.1, ac.2.2.1, pw_ff1 A gx ac (pw_k A))) 26 34), .ref 26] (pw_up (pw_sM B gx (ac.1, ac.2.1, ac.2.2.1, pw_ff1 A gx ac (pw_k A))) 26 36 (nI (pw_mvd A gx (pw_k A))))
        rw [show (pw_sM B gx (ac.1, ac.2.1, ac.2.2.1, pw_ff1 A gx ac (pw_k A))) 26 34 = nI (ac.1) from rfl]
        refine pw_iz_eq (tgt := 197) (off := 11) (by first | omega | exact pw_g_lt) (by decide +kernel) (by decide) (fun h186 => ?_) (fun h186 => ?_)
        · refine pw_blk (pc' := 198) [.iload 3] (by decide +kernel) ?_
          show pw_V x m_X8_finds 3 Z 198 [(0, .ref 26), (1, .int (nI w)), (2, .int (nI (pw_mvd A gx (pw_k A)))), (3, .int (nI (pw_knw A w gx (pw_k A)))), (4, .int (nI (pw_k A)))] [.int (nI (pw_knw A w gx (pw_k A))), .ref 26] (pw_up (pw_sM B gx (ac.1, ac.2.1, ac.2.2.1, pw_ff1 A gx ac (pw_k A))) 26 36 (nI (pw_mvd A gx (pw_k A))))
          refine pw_goto (tgt := 205) (off := 7) (by decide +kernel) (by decide) ?_
          refine pw_blk (pc' := 218) [.putfield 837, .aload 0, .dup, .getfield 834, .iconst 1, .iadd, .putfield 834] (by decide +kernel) ?_
          show pw_V x m_X8_finds 3 Z 218 [(0, .ref 26), (1, .int (nI w)), (2, .int (nI (pw_mvd A gx (pw_k A)))), (3, .int (nI (pw_knw A w gx (pw_k A)))), (4, .int (nI (pw_k A)))] [] (pw_up (pw_up (pw_up (pw_sM B gx (ac.1, ac.2.1, ac.2.2.1, pw_ff1 A gx ac (pw_k A))) 26 36 (nI (pw_mvd A gx (pw_k A)))) 26 37 (nI (pw_knw A w gx (pw_k A)))) 26 34 (((pw_sM B gx (ac.1, ac.2.1, ac.2.2.1, pw_ff1 A gx ac (pw_k A))) 26 34) + (nI 1)))
          rw [show (pw_sM B gx (ac.1, ac.2.1, ac.2.2.1, pw_ff1 A gx ac (pw_k A))) 26 34 = nI (ac.1) from rfl]
          rw [show (nI (ac.1)) + (nI 1) = nI (ac.1 + 1) from nI_add _ _]
          rw [← hZ]
          refine pw_rv (by decide +kernel) ?_
          refine ⟨rfl, ?_⟩
          rw [pw_sM_fin]
          unfold pw_fin
          rw [if_pos (Or.inr h167), if_pos (Or.inl h186)]
          rfl
        · refine pw_blk (pc' := 194) [.iload 3, .aload 0, .getfield 837] (by decide +kernel) ?_
          show pw_V x m_X8_finds 3 Z 194 [(0, .ref 26), (1, .int (nI w)), (2, .int (nI (pw_mvd A gx (pw_k A)))), (3, .int (nI (pw_knw A w gx (pw_k A)))), (4, .int (nI (pw_k A)))] [.int ((pw_sM B gx (ac.1, ac.2.1, ac.2.2.1, pw_ff1 A gx ac (pw_k A))) 26 37), .int (nI (pw_knw A w gx (pw_k A))), .ref 26] (pw_up (pw_sM B gx (ac.1, ac.2.1, ac.2.2.1, pw_ff1 A gx ac (pw_k A))) 26 36 (nI (pw_mvd A gx (pw_k A))))
          rw [show (pw_sM B gx (ac.1, ac.2.1, ac.2.2.1, pw_ff1 A gx ac (pw_k A))) 26 37 = nI (ac.2.2.1) from rfl]
          refine pw_in_le (tgt := 201) (off := 7) (by first | omega | exact pw_g_lt) (by first | omega | exact pw_g_lt) (by decide +kernel) (by decide) (fun h194 => ?_) (fun h194 => ?_)
          · refine pw_blk (pc' := 218) [.aload 0, .getfield 837, .putfield 837, .aload 0, .dup, .getfield 834, .iconst 1, .iadd, .putfield 834] (by decide +kernel) ?_
            show pw_V x m_X8_finds 3 Z 218 [(0, .ref 26), (1, .int (nI w)), (2, .int (nI (pw_mvd A gx (pw_k A)))), (3, .int (nI (pw_knw A w gx (pw_k A)))), (4, .int (nI (pw_k A)))] [] (pw_up (pw_up (pw_up (pw_sM B gx (ac.1, ac.2.1, ac.2.2.1, pw_ff1 A gx ac (pw_k A))) 26 36 (nI (pw_mvd A gx (pw_k A)))) 26 37 ((pw_sM B gx (ac.1, ac.2.1, ac.2.2.1, pw_ff1 A gx ac (pw_k A))) 26 37)) 26 34 (((pw_sM B gx (ac.1, ac.2.1, ac.2.2.1, pw_ff1 A gx ac (pw_k A))) 26 34) + (nI 1)))
            rw [show (pw_sM B gx (ac.1, ac.2.1, ac.2.2.1, pw_ff1 A gx ac (pw_k A))) 26 37 = nI (ac.2.2.1) from rfl]
            rw [show (pw_sM B gx (ac.1, ac.2.1, ac.2.2.1, pw_ff1 A gx ac (pw_k A))) 26 34 = nI (ac.1) from rfl]
            rw [show (nI (ac.1)) + (nI 1) = nI (ac.1 + 1) from nI_add _ _]
            rw [← hZ]
            refine pw_rv (by decide +kernel) ?_
            refine ⟨rfl, ?_⟩
            rw [pw_sM_fin]
            unfold pw_fin
            rw [if_pos (Or.inr h167), if_neg (fun z => z.elim h186 (by omega))]
            rfl
          · refine pw_blk (pc' := 198) [.iload 3] (by decide +kernel) ?_
            show pw_V x m_X8_finds 3 Z 198 [(0, .ref 26), (1, .int (nI w)), (2, .int (nI (pw_mvd A gx (pw_k A)))), (3, .int (nI (pw_knw A w gx (pw_k A)))), (4, .int (nI (pw_k A)))] [.int (nI (pw_knw A w gx (pw_k A))), .ref 26] (pw_up (pw_sM B gx (ac.1, ac.2.1, ac.2.2.1, pw_ff1 A gx ac (pw_k A))) 26 36 (nI (pw_mvd A gx (pw_k A))))
            refine pw_goto (tgt := 205) (off := 7) (by decide +kernel) (by decide) ?_
            refine pw_blk (pc' := 218) [.putfield 837, .aload 0, .dup, .getfield 834, .iconst 1, .iadd, .putfield 834] (by decide +kernel) ?_
            show pw_V x m_X8_finds 3 Z 218 [(0, .ref 26), (1, .int (nI w)), (2, .int (nI (pw_mvd A gx (pw_k A)))), (3, .int (nI (pw_knw A w gx (pw_k A)))), (4, .int (nI (pw_k A)))] [] (pw_up (pw_up (pw_up (pw_sM B gx (ac.1, ac.2.1, ac.2.2.1, pw_ff1 A gx ac (pw_k A))) 26 36 (nI (pw_mvd A gx (pw_k A)))) 26 37 (nI (pw_knw A w gx (pw_k A)))) 26 34 (((pw_sM B gx (ac.1, ac.2.1, ac.2.2.1, pw_ff1 A gx ac (pw_k A))) 26 34) + (nI 1)))
            rw [show (pw_sM B gx (ac.1, ac.2.1, ac.2.2.1, pw_ff1 A gx ac (pw_k A))) 26 34 = nI (ac.1) from rfl]
            rw [show (nI (ac.1)) + (nI 1) = nI (ac.1 + 1) from nI_add _ _]
            rw [← hZ]
            refine pw_rv (by decide +kernel) ?_
            refine ⟨rfl, ?_⟩
            rw [pw_sM_fin]
            unfold pw_fin
            rw [if_pos (Or.inr h167), if_pos (Or.inr h194)]
            rfl
  · refine pw_blk (pc' := 19) [.aload 0, .iload 4] (by decide +kernel) ?_
    show pw_V x m_X8_finds 3 Z 19 [(0, .ref 26), (1, .int (nI w)), (2, .int (nI (pw_mvd A gx ix))), (3, .int (nI (pw_knw A w gx ix))), (4, .int (nI ix))] [.int (nI ix), .ref 26] (pw_sM B gx (ac.1, ac.2.1, ac.2.2.1, pw_ff1 A gx ac ix))
    refine pw_cV (vs := [.int (nI ix)]) (rest := []) k_X8_isThere (cL_mThere (pw_sM B gx (ac.1, ac.2.1, ac.2.2.1, pw_ff1 A gx ac ix)) (mvL_s hl) hok ix (by omega)) l_8_201 rfl rfl rfl rfl (by omega) (Nat.le_of_ble_eq_true rfl) (by decide +kernel) ?_
    rintro _ m1 ⟨rfl, e1⟩
    rw [e1]
    clear e1 m1
    show pw_V x m_X8_finds 3 Z 22 [(0, .ref 26), (1, .int (nI w)), (2, .int (nI (pw_mvd A gx ix))), (3, .int (nI (pw_knw A w gx ix))), (4, .int (nI ix))] [.int (pw_b ((pw_g A 42 1).testBit ix))] (pw_sM B gx (ac.1, ac.2.1, ac.2.2.1, pw_ff1 A gx ac ix))
    refine pw_ib_eq (tgt := 148) (off := 126) (by decide +kernel) (by decide) (fun h22 => ?_) (fun h22 => ?_)
    · refine pw_blk (pc' := 151) [.iinc 4 1] (by decide +kernel) ?_
      show pw_V x m_X8_finds 3 Z 151 [(4, .int ((nI ix) + (nI 1))), (0, .ref 26), (1, .int (nI w)), (2, .int (nI (pw_mvd A gx ix))), (3, .int (nI (pw_knw A w gx ix)))] [] (pw_sM B gx (ac.1, ac.2.1, ac.2.2.1, pw_ff1 A gx ac ix))
      rw [show (nI ix) + (nI 1) = nI (ix + 1) from nI_add _ _]
      refine pw_goto (tgt := 7) (off := -144) (by decide +kernel) (by decide) ?_
      rw [show pw_sM B gx (ac.1, ac.2.1, ac.2.2.1, pw_ff1 A gx ac ix) = pw_sM B gx (ac.1, ac.2.1, ac.2.2.1, pw_ff1 A gx ac (ix + 1)) from by rw [pw_ff1_n h22]]
      rw [show pw_mvd A gx ix = pw_mvd A gx (ix + 1) from by unfold pw_mvd; rw [pw_ct_, h22]; rfl]
      rw [show pw_knw A w gx ix = pw_knw A w gx (ix + 1) from by unfold pw_knw; rw [pw_ct_, h22]; rfl]
      refine pw_lvp [1, 2, 3, 4, 0] rfl ?_
      exact ih (by omega)
    · obtain ⟨sx, bsx, hsx⟩ := hgn ix (by omega) h22
      have b44 := pw_b44 hok (show ix < 6 by omega)
      refine pw_blk (pc' := 35) [.aload 0, .getfield 835, .iload 4, .aload 0, .getfield 834] (by decide +kernel) ?_
      show pw_V x m_X8_finds 3 Z 35 [(0, .ref 26), (1, .int (nI w)), (2, .int (nI (pw_mvd A gx ix))), (3, .int (nI (pw_knw A w gx ix))), (4, .int (nI ix))] [.int ((pw_sM B gx (ac.1, ac.2.1, ac.2.2.1, pw_ff1 A gx ac ix)) 26 34), .int (nI ix), .ref 41] (pw_sM B gx (ac.1, ac.2.1, ac.2.2.1, pw_ff1 A gx ac ix))
      rw [show (pw_sM B gx (ac.1, ac.2.1, ac.2.2.1, pw_ff1 A gx ac ix)) 26 34 = nI (ac.1) from rfl]
      refine pw_iz_ne (tgt := 48) (off := 13) (by first | omega | exact pw_g_lt) (by decide +kernel) (by decide) (fun h35 => ?_) (fun h35 => ?_)
      · refine pw_blk (pc' := 74) [.aload 0, .getfield 835, .iload 4, .iaload, .iastore, .iload 2, .aload 0, .getfield 832, .iload 4, .iaload, .aload 0, .getfield 808, .iconst (14), .iload 4, .iadd, .iaload] (by decide +kernel) ?_
        refine ⟨ix, rfl, by first | omega | exact pw_g_lt, ?_⟩
        refine ⟨ix, rfl, by first | omega | exact pw_g_lt, ?_⟩
        refine ⟨ix, rfl, by first | omega | exact pw_g_lt, ?_⟩
        refine ⟨(14 + ix), (show (nI 14) + (nI ix) = nI (14 + ix) from by rw [show (nI 14) + (nI ix) = nI (14 + ix) from nI_add _ _]), by first | omega | exact pw_g_lt, ?_⟩
        show pw_V x m_X8_finds 3 Z 74 [(0, .ref 26), (1, .int (nI w)), (2, .int (nI (pw_mvd A gx ix))), (3, .int (nI (pw_knw A w gx ix))), (4, .int (nI ix))] [.int ((pw_sM B gx (ac.1, ac.2.1, ac.2.2.1, pw_ff1 A gx ac ix)) 30 (14 + ix)), .int ((pw_sM B gx (ac.1, ac.2.1, ac.2.2.1, pw_ff1 A gx ac ix)) 40 ix), .int (nI (pw_mvd A gx ix))] (pw_up (pw_sM B gx (ac.1, ac.2.1, ac.2.2.1, pw_ff1 A gx ac ix)) 41 ix ((pw_sM B gx (ac.1, ac.2.1, ac.2.2.1, pw_ff1 A gx ac ix)) 41 ix))
        rw [show (pw_sM B gx (ac.1, ac.2.1, ac.2.2.1, pw_ff1 A gx ac ix)) 30 (14 + ix) = pw_o (pw_pl A ix) from ((congrFun (pw_sM_o (by omega) (by omega) (by omega)) _).trans (mv_pl (B := pw_up B 26 33 (-1)) hl hok (i := ix) (by omega)))]
        rw [show (pw_sM B gx (ac.1, ac.2.1, ac.2.2.1, pw_ff1 A gx ac ix)) 40 ix = nI sx from (by rw [pw_sM_40 (by omega), hsx]; rfl)]
        rw [show (pw_sM B gx (ac.1, ac.2.1, ac.2.2.1, pw_ff1 A gx ac ix)) 41 ix = pw_o (pw_ff1 A gx ac ix ix) from pw_sM_41 (by omega)]
        refine pw_no_ne (tgt := 81) (off := 7) (by decide +kernel) (by decide) (by first | omega | exact pw_g_lt) (fun a ha => Nat.lt_trans (pw_mplb hok (i := ix) (by omega) ha) (by omega)) (fun h74 => ?_) (fun h74 => ?_)
        · refine pw_blk (pc' := 94) [.iconst 1, .iadd, .istore 2, .aload 0, .aload 0, .aload 0, .getfield 832, .iload 4, .iaload, .iconst 1] (by decide +kernel) ?_
          refine ⟨ix, rfl, by first | omega | exact pw_g_lt, ?_⟩
          show pw_V x m_X8_finds 3 Z 94 [(2, .int ((nI (pw_mvd A gx ix)) + (nI 1))), (0, .ref 26), (1, .int (nI w)), (3, .int (nI (pw_knw A w gx ix))), (4, .int (nI ix))] [.int (nI 1), .int ((pw_sM B gx (ac.1, ac.2.1, ac.2.2.1, pw_ff1 A gx ac ix)) 40 ix), .ref 26, .ref 26] (pw_up (pw_sM B gx (ac.1, ac.2.1, ac.2.2.1, pw_ff1 A gx ac ix)) 41 ix (pw_o (pw_ff1 A gx ac ix ix)))
          rw [show (nI (pw_mvd A gx ix)) + (nI 1) = nI ((pw_mvd A gx ix) + 1) from nI_add _ _]
          rw [show (pw_sM B gx (ac.1, ac.2.1, ac.2.2.1, pw_ff1 A gx ac ix)) 40 ix = nI sx from (by rw [pw_sM_40 (by omega), hsx]; rfl)]
          refine pw_cV (vs := [.int (nI sx), .int (nI 1)]) (rest := [.ref 26]) k_X8_beside (cL_mbes1 (pw_up (pw_sM B gx (ac.1, ac.2.1, ac.2.2.1, pw_ff1 A gx ac ix)) 41 ix (pw_o (pw_ff1 A gx ac ix ix))) (mvL (mvL_s hl) (fun c _ _ => pw_up_ne (by omega)) (fun j _ => by rw [pw_up_ne (by omega)])) hok sx (bsx)) l_8_222 rfl rfl rfl rfl (by omega) (Nat.le_of_ble_eq_true rfl) (by decide +kernel) ?_
          rintro _ m1 ⟨rfl, e1⟩
          rw [e1]
          clear e1 m1
          show pw_V x m_X8_finds 3 Z 97 [(2, .int (nI ((pw_mvd A gx ix) + 1))), (0, .ref 26), (1, .int (nI w)), (3, .int (nI (pw_knw A w gx ix))), (4, .int (nI ix))] [.int (nI (pw_bh (pw_n A) sx)), .ref 26] (pw_up (pw_sM B gx (ac.1, ac.2.1, ac.2.2.1, pw_ff1 A gx ac ix)) 41 ix (pw_o (pw_ff1 A gx ac ix ix)))
          refine pw_cV (vs := [.int (nI (pw_bh (pw_n A) sx))]) (rest := []) k_X8_sitterBy (cL_msby (pw_up (pw_sM B gx (ac.1, ac.2.1, ac.2.2.1, pw_ff1 A gx ac ix)) 41 ix (pw_o (pw_ff1 A gx ac ix ix))) (mvL (mvL_s hl) (fun c _ _ => pw_up_ne (by omega)) (fun j _ => by rw [pw_up_ne (by omega)])) hok gx (fun j hj => by rw [pw_up_ne (by omega)]; exact pw_sM_40 hj) hgb (pw_bh (pw_n A) sx) (by have z1 := pw_bh_lt bsx; omega)) l_8_228 rfl rfl rfl rfl (by omega) (Nat.le_of_ble_eq_true rfl) (by decide +kernel) ?_
          rintro _ m1 ⟨rfl, e1⟩
          rw [e1]
          clear e1 m1
          show pw_V x m_X8_finds 3 Z 100 [(2, .int (nI ((pw_mvd A gx ix) + 1))), (0, .ref 26), (1, .int (nI w)), (3, .int (nI (pw_knw A w gx ix))), (4, .int (nI ix))] [.int (pw_o (pw_sby gx (pw_k A) (pw_bh (pw_n A) sx)))] (pw_up (pw_sM B gx (ac.1, ac.2.1, ac.2.2.1, pw_ff1 A gx ac ix)) 41 ix (pw_o (pw_ff1 A gx ac ix ix)))
          refine pw_blk (pc' := 116) [.istore 5, .iload 3, .aload 0, .getfield 808, .iconst (8), .iload 4, .iadd, .iaload, .iload 5, .iconst (-1)] (by decide +kernel) ?_
          refine ⟨(8 + ix), (show (nI 8) + (nI ix) = nI (8 + ix) from by rw [show (nI 8) + (nI ix) = nI (8 + ix) from nI_add _ _]), by first | omega | exact pw_g_lt, ?_⟩
          show pw_V x m_X8_finds 3 Z 116 [(5, .int (pw_o (pw_sby gx (pw_k A) (pw_bh (pw_n A) sx)))), (2, .int (nI ((pw_mvd A gx ix) + 1))), (0, .ref 26), (1, .int (nI w)), (3, .int (nI (pw_knw A w gx ix))), (4, .int (nI ix))] [.int (-1), .int (pw_o (pw_sby gx (pw_k A) (pw_bh (pw_n A) sx))), .int ((pw_sM B gx (ac.1, ac.2.1, ac.2.2.1, pw_ff1 A gx ac ix)) 30 (8 + ix)), .int (nI (pw_knw A w gx ix))] (pw_up (pw_sM B gx (ac.1, ac.2.1, ac.2.2.1, pw_ff1 A gx ac ix)) 41 ix (pw_o (pw_ff1 A gx ac ix ix)))
          rw [show (pw_sM B gx (ac.1, ac.2.1, ac.2.2.1, pw_ff1 A gx ac ix)) 30 (8 + ix) = nI (pw_g A 44 ix) from ((congrFun (pw_sM_o (by omega) (by omega) (by omega)) _).trans (mv_nw (B := pw_up B 26 33 (-1)) hl hok (i := ix) (by omega)))]
          rcases h116 : pw_sby gx (pw_k A) (pw_bh (pw_n A) sx) with _ | s116
          · show pw_V x m_X8_finds 3 Z 116 [(5, .int (-1)), (2, .int (nI ((pw_mvd A gx ix) + 1))), (0, .ref 26), (1, .int (nI w)), (3, .int (nI (pw_knw A w gx ix))), (4, .int (nI ix))] [.int (-1), .int (-1), .int (nI (pw_g A 44 ix)), .int (nI (pw_knw A w gx ix))] (pw_up (pw_sM B gx (ac.1, ac.2.1, ac.2.2.1, pw_ff1 A gx ac ix)) 41 ix (pw_o (pw_ff1 A gx ac ix ix)))
            refine pw_ic_ne (tgt := 123) (off := 7) (by decide +kernel) (by decide) (fun h => absurd rfl h) (fun _ => ?_)
            refine pw_blk (pc' := 120) [.iconst 0] (by decide +kernel) ?_
            show pw_V x m_X8_finds 3 Z 120 [(5, .int (-1)), (2, .int (nI ((pw_mvd A gx ix) + 1))), (0, .ref 26), (1, .int (nI w)), (3, .int (nI (pw_knw A w gx ix))), (4, .int (nI ix))] [.int (nI 0), .int (nI (pw_g A 44 ix)), .int (nI (pw_knw A w gx ix))] (pw_up (pw_sM B gx (ac.1, ac.2.1, ac.2.2.1, pw_ff1 A gx ac ix)) 41 ix (pw_o (pw_ff1 A gx ac ix ix)))
            refine pw_goto (tgt := 133) (off := 13) (by decide +kernel) (by decide) ?_
            refine pw_blk (pc' := 135) [.ior, .iload 1] (by decide +kernel) ?_
            show pw_V x m_X8_finds 3 Z 135 [(5, .int (-1)), (2, .int (nI ((pw_mvd A gx ix) + 1))), (0, .ref 26), (1, .int (nI w)), (3, .int (nI (pw_knw A w gx ix))), (4, .int (nI ix))] [.int (nI w), .int ((nI (pw_g A 44 ix)) ||| (nI 0)), .int (nI (pw_knw A w gx ix))] (pw_up (pw_sM B gx (ac.1, ac.2.1, ac.2.2.1, pw_ff1 A gx ac ix)) 41 ix (pw_o (pw_ff1 A gx ac ix ix)))
            rw [show (nI (pw_g A 44 ix)) ||| (nI 0) = nI ((pw_g A 44 ix) ||| 0) from fa_or _ _]
            refine pw_cS (vs := [.int (nI ((pw_g A 44 ix) ||| 0)), .int (nI w)]) (rest := [.int (nI (pw_knw A w gx ix))]) k_X8_has (c_mhasN ((pw_g A 44 ix) ||| 0) w (pw_up (pw_sM B gx (ac.1, ac.2.1, ac.2.2.1, pw_ff1 A gx ac ix)) 41 ix (pw_o (pw_ff1 A gx ac ix ix))) (by first | omega | exact pw_g_lt | exact pw_ob_lt31 (by omega) | exact Nat.lt_trans (Nat.or_lt_two_pow (n := 4) b44 (pw_b44 hok (by omega))) (by decide) | exact Nat.lt_trans (Nat.or_lt_two_pow (n := 4) b44 (by decide)) (by decide)) (by first | omega | exact pw_g_lt)) l_8_86 rfl (by omega) (Nat.le_of_ble_eq_true rfl) (by decide +kernel) ?_
            rintro _ m1 ⟨rfl, e1⟩
            rw [e1]
            clear e1 m1
            show pw_V x m_X8_finds 3 Z 138 [(5, .int (-1)), (2, .int (nI ((pw_mvd A gx ix) + 1))), (0, .ref 26), (1, .int (nI w)), (3, .int (nI (pw_knw A w gx ix))), (4, .int (nI ix))] [.int (pw_b ((((pw_g A 44 ix) ||| 0)).testBit w)), .int (nI (pw_knw A w gx ix))] (pw_up (pw_sM B gx (ac.1, ac.2.1, ac.2.2.1, pw_ff1 A gx ac ix)) 41 ix (pw_o (pw_ff1 A gx ac ix ix)))
            refine pw_ib_eq (tgt := 145) (off := 7) (by decide +kernel) (by decide) (fun h138 => ?_) (fun h138 => ?_)
            · refine pw_blk (pc' := 151) [.iconst 0, .iadd, .istore 3, .iinc 4 1] (by decide +kernel) ?_
              show pw_V x m_X8_finds 3 Z 151 [(4, .int ((nI ix) + (nI 1))), (3, .int ((nI (pw_knw A w gx ix)) + (nI 0))), (5, .int (-1)), (2, .int (nI ((pw_mvd A gx ix) + 1))), (0, .ref 26), (1, .int (nI w))] [] (pw_up (pw_sM B gx (ac.1, ac.2.1, ac.2.2.1, pw_ff1 A gx ac ix)) 41 ix (pw_o (pw_ff1 A gx ac ix ix)))
              rw [show (nI ix) + (nI 1) = nI (ix + 1) from nI_add _ _]
              rw [show (nI (pw_knw A w gx ix)) + (nI 0) = nI ((pw_knw A w gx ix) + 0) from nI_add _ _]
              refine pw_goto (tgt := 7) (off := -144) (by decide +kernel) (by decide) ?_
              rw [show pw_up (pw_sM B gx (ac.1, ac.2.1, ac.2.2.1, pw_ff1 A gx ac ix)) 41 ix (pw_o (pw_ff1 A gx ac ix ix)) = pw_sM B gx (ac.1, ac.2.1, ac.2.2.1, pw_ff1 A gx ac (ix + 1)) from by rw [show pw_o (pw_ff1 A gx ac ix ix) = pw_o (pw_ff1 A gx ac ix ix) from rfl, pw_sM_up1 (by omega)]; rw [pw_ff1_s (by rw [if_neg (fun z => h35 z.2)]; unfold pw_ff1; rw [if_neg (by omega)])]]
              rw [show ((pw_mvd A gx ix) + 1) = pw_mvd A gx (ix + 1) from by unfold pw_mvd; rw [pw_ct_, h22, hsx]; simp [show ¬ some sx = pw_pl A ix from fun z => h74 z.symm]]
              rw [show ((pw_knw A w gx ix) + 0) = pw_knw A w gx (ix + 1) from by
                  have kb : pw_kb A w gx ix = false := by unfold pw_kb; rw [hsx, show (some sx).bind (fun s => pw_sby gx (pw_k A) (pw_bh (pw_n A) s)) = pw_sby gx (pw_k A) (pw_bh (pw_n A) sx) from rfl, h116]; exact h138
                  unfold pw_knw
                  rw [pw_ct_, h22, kb]
                  rfl]
              refine pw_lvp [4, 5, 3, 1, 0] rfl ?_
              exact ih (by omega)
            · refine pw_blk (pc' := 142) [.iconst 1] (by decide +kernel) ?_
              show pw_V x m_X8_finds 3 Z 142 [(5, .int (-1)), (2, .int (nI ((pw_mvd A gx ix) + 1))), (0, .ref 26), (1, .int (nI w)), (3, .int (nI (pw_knw A w gx ix))), (4, .int (nI ix))] [.int (nI 1), .int (nI (pw_knw A w gx ix))] (pw_up (pw_sM B gx (ac.1, ac.2.1, ac.2.2.1, pw_ff1 A gx ac ix)) 41 ix (pw_o (pw_ff1 A gx ac ix ix)))
              refine pw_goto (tgt := 146) (off := 4) (by decide +kernel) (by decide) ?_
              refine pw_blk (pc' := 151) [.iadd, .istore 3, .iinc 4 1] (by decide +kernel) ?_
              show pw_V x m_X8_finds 3 Z 151 [(4, .int ((nI ix) + (nI 1))), (3, .int ((nI (pw_knw A w gx ix)) + (nI 1))), (5, .int (-1)), (2, .int (nI ((pw_mvd A gx ix) + 1))), (0, .ref 26), (1, .int (nI w))] [] (pw_up (pw_sM B gx (ac.1, ac.2.1, ac.2.2.1, pw_ff1 A gx ac ix)) 41 ix (pw_o (pw_ff1 A gx ac ix ix)))
              rw [show (nI ix) + (nI 1) = nI (ix + 1) from nI_add _ _]
              rw [show (nI (pw_knw A w gx ix)) + (nI 1) = nI ((pw_knw A w gx ix) + 1) from nI_add _ _]
              refine pw_goto (tgt := 7) (off := -144) (by decide +kernel) (by decide) ?_
              rw [show pw_up (pw_sM B gx (ac.1, ac.2.1, ac.2.2.1, pw_ff1 A gx ac ix)) 41 ix (pw_o (pw_ff1 A gx ac ix ix)) = pw_sM B gx (ac.1, ac.2.1, ac.2.2.1, pw_ff1 A gx ac (ix + 1)) from by rw [show pw_o (pw_ff1 A gx ac ix ix) = pw_o (pw_ff1 A gx ac ix ix) from rfl, pw_sM_up1 (by omega)]; rw [pw_ff1_s (by rw [if_neg (fun z => h35 z.2)]; unfold pw_ff1; rw [if_neg (by omega)])]]
              rw [show ((pw_mvd A gx ix) + 1) = pw_mvd A gx (ix + 1) from by unfold pw_mvd; rw [pw_ct_, h22, hsx]; simp [show ¬ some sx = pw_pl A ix from fun z => h74 z.symm]]
              rw [show ((pw_knw A w gx ix) + 1) = pw_knw A w gx (ix + 1) from by
                  have kb : pw_kb A w gx ix = true := by unfold pw_kb; rw [hsx, show (some sx).bind (fun s => pw_sby gx (pw_k A) (pw_bh (pw_n A) s)) = pw_sby gx (pw_k A) (pw_bh (pw_n A) sx) from rfl, h116]; exact h138
                  unfold pw_knw
                  rw [pw_ct_, h22, kb]
                  rfl]
              refine pw_lvp [4, 5, 3, 1, 0] rfl ?_
              exact ih (by omega)
          · show pw_V x m_X8_finds 3 Z 116 [(5, .int (nI s116)), (2, .int (nI ((pw_mvd A gx ix) + 1))), (0, .ref 26), (1, .int (nI w)), (3, .int (nI (pw_knw A w gx ix))), (4, .int (nI ix))] [.int (-1), .int (nI s116), .int (nI (pw_g A 44 ix)), .int (nI (pw_knw A w gx ix))] (pw_up (pw_sM B gx (ac.1, ac.2.1, ac.2.2.1, pw_ff1 A gx ac ix)) 41 ix (pw_o (pw_ff1 A gx ac ix ix)))
            have b116 := pw_sby_6 bk h116
            refine pw_ic_ne (tgt := 123) (off := 7) (by decide +kernel) (by decide) (fun _ => ?_) (fun h => absurd h (pw_n1 (by first | omega | exact pw_g_lt)))
            refine pw_blk (pc' := 135) [.aload 0, .getfield 808, .iconst (8), .iload 5, .iadd, .iaload, .ior, .iload 1] (by decide +kernel) ?_
            refine ⟨(8 + s116), (show (nI 8) + (nI s116) = nI (8 + s116) from by rw [show (nI 8) + (nI s116) = nI (8 + s116) from nI_add _ _]), by first | omega | exact pw_g_lt, ?_⟩
            show pw_V x m_X8_finds 3 Z 135 [(5, .int (nI s116)), (2, .int (nI ((pw_mvd A gx ix) + 1))), (0, .ref 26), (1, .int (nI w)), (3, .int (nI (pw_knw A w gx ix))), (4, .int (nI ix))] [.int (nI w), .int ((nI (pw_g A 44 ix)) ||| ((pw_sM B gx (ac.1, ac.2.1, ac.2.2.1, pw_ff1 A gx ac ix)) 30 (8 + s116))), .int (nI (pw_knw A w gx ix))] (pw_up (pw_sM B gx (ac.1, ac.2.1, ac.2.2.1, pw_ff1 A gx ac ix)) 41 ix (pw_o (pw_ff1 A gx ac ix ix)))
            rw [show (pw_sM B gx (ac.1, ac.2.1, ac.2.2.1, pw_ff1 A gx ac ix)) 30 (8 + s116) = nI (pw_g A 44 s116) from ((congrFun (pw_sM_o (by omega) (by omega) (by omega)) _).trans (mv_nw (B := pw_up B 26 33 (-1)) hl hok (i := s116) (by omega)))]
            rw [show (nI (pw_g A 44 ix)) ||| (nI (pw_g A 44 s116)) = nI ((pw_g A 44 ix) ||| (pw_g A 44 s116)) from fa_or _ _]
            refine pw_cS (vs := [.int (nI ((pw_g A 44 ix) ||| (pw_g A 44 s116))), .int (nI w)]) (rest := [.int (nI (pw_knw A w gx ix))]) k_X8_has (c_mhasN ((pw_g A 44 ix) ||| (pw_g A 44 s116)) w (pw_up (pw_sM B gx (ac.1, ac.2.1, ac.2.2.1, pw_ff1 A gx ac ix)) 41 ix (pw_o (pw_ff1 A gx ac ix ix))) (by first | omega | exact pw_g_lt | exact pw_ob_lt31 (by omega) | exact Nat.lt_trans (Nat.or_lt_two_pow (n := 4) b44 (pw_b44 hok (by omega))) (by decide) | exact Nat.lt_trans (Nat.or_lt_two_pow (n := 4) b44 (by decide)) (by decide)) (by first | omega | exact pw_g_lt)) l_8_86 rfl (by omega) (Nat.le_of_ble_eq_true rfl) (by decide +kernel) ?_
            rintro _ m1 ⟨rfl, e1⟩
            rw [e1]
            clear e1 m1
            show pw_V x m_X8_finds 3 Z 138 [(5, .int (nI s116)), (2, .int (nI ((pw_mvd A gx ix) + 1))), (0, .ref 26), (1, .int (nI w)), (3, .int (nI (pw_knw A w gx ix))), (4, .int (nI ix))] [.int (pw_b ((((pw_g A 44 ix) ||| (pw_g A 44 s116))).testBit w)), .int (nI (pw_knw A w gx ix))] (pw_up (pw_sM B gx (ac.1, ac.2.1, ac.2.2.1, pw_ff1 A gx ac ix)) 41 ix (pw_o (pw_ff1 A gx ac ix ix)))
            refine pw_ib_eq (tgt := 145) (off := 7) (by decide +kernel) (by decide) (fun h138 => ?_) (fun h138 => ?_)
            · refine pw_blk (pc' := 151) [.iconst 0, .iadd, .istore 3, .iinc 4 1] (by decide +kernel) ?_
              show pw_V x m_X8_finds 3 Z 151 [(4, .int ((nI ix) + (nI 1))), (3, .int ((nI (pw_knw A w gx ix)) + (nI 0))), (5, .int (nI s116)), (2, .int (nI ((pw_mvd A gx ix) + 1))), (0, .ref 26), (1, .int (nI w))] [] (pw_up (pw_sM B gx (ac.1, ac.2.1, ac.2.2.1, pw_ff1 A gx ac ix)) 41 ix (pw_o (pw_ff1 A gx ac ix ix)))
              rw [show (nI ix) + (nI 1) = nI (ix + 1) from nI_add _ _]
              rw [show (nI (pw_knw A w gx ix)) + (nI 0) = nI ((pw_knw A w gx ix) + 0) from nI_add _ _]
              refine pw_goto (tgt := 7) (off := -144) (by decide +kernel) (by decide) ?_
              rw [show pw_up (pw_sM B gx (ac.1, ac.2.1, ac.2.2.1, pw_ff1 A gx ac ix)) 41 ix (pw_o (pw_ff1 A gx ac ix ix)) = pw_sM B gx (ac.1, ac.2.1, ac.2.2.1, pw_ff1 A gx ac (ix + 1)) from by rw [show pw_o (pw_ff1 A gx ac ix ix) = pw_o (pw_ff1 A gx ac ix ix) from rfl, pw_sM_up1 (by omega)]; rw [pw_ff1_s (by rw [if_neg (fun z => h35 z.2)]; unfold pw_ff1; rw [if_neg (by omega)])]]
              rw [show ((pw_mvd A gx ix) + 1) = pw_mvd A gx (ix + 1) from by unfold pw_mvd; rw [pw_ct_, h22, hsx]; simp [show ¬ some sx = pw_pl A ix from fun z => h74 z.symm]]
              rw [show ((pw_knw A w gx ix) + 0) = pw_knw A w gx (ix + 1) from by
                  have kb : pw_kb A w gx ix = false := by unfold pw_kb; rw [hsx, show (some sx).bind (fun s => pw_sby gx (pw_k A) (pw_bh (pw_n A) s)) = pw_sby gx (pw_k A) (pw_bh (pw_n A) sx) from rfl, h116]; exact h138
                  unfold pw_knw
                  rw [pw_ct_, h22, kb]
                  rfl]
              refine pw_lvp [4, 5, 3, 1, 0] rfl ?_
              exact ih (by omega)
            · refine pw_blk (pc' := 142) [.iconst 1] (by decide +kernel) ?_
              show pw_V x m_X8_finds 3 Z 142 [(5, .int (nI s116)), (2, .int (nI ((pw_mvd A gx ix) + 1))), (0, .ref 26), (1, .int (nI w)), (3, .int (nI (pw_knw A w gx ix))), (4, .int (nI ix))] [.int (nI 1), .int (nI (pw_knw A w gx ix))] (pw_up (pw_sM B gx (ac.1, ac.2.1, ac.2.2.1, pw_ff1 A gx ac ix)) 41 ix (pw_o (pw_ff1 A gx ac ix ix)))
              refine pw_goto (tgt := 146) (off := 4) (by decide +kernel) (by decide) ?_
              refine pw_blk (pc' := 151) [.iadd, .istore 3, .iinc 4 1] (by decide +kernel) ?_
              show pw_V x m_X8_finds 3 Z 151 [(4, .int ((nI ix) + (nI 1))), (3, .int ((nI (pw_knw A w gx ix)) + (nI 1))), (5, .int (nI s116)), (2, .int (nI ((pw_mvd A gx ix) + 1))), (0, .ref 26), (1, .int (nI w))] [] (pw_up (pw_sM B gx (ac.1, ac.2.1, ac.2.2.1, pw_ff1 A gx ac ix)) 41 ix (pw_o (pw_ff1 A gx ac ix ix)))
              rw [show (nI ix) + (nI 1) = nI (ix + 1) from nI_add _ _]
              rw [show (nI (pw_knw A w gx ix)) + (nI 1) = nI ((pw_knw A w gx ix) + 1) from nI_add _ _]
              refine pw_goto (tgt := 7) (off := -144) (by decide +kernel) (by decide) ?_
              rw [show pw_up (pw_sM B gx (ac.1, ac.2.1, ac.2.2.1, pw_ff1 A gx ac ix)) 41 ix (pw_o (pw_ff1 A gx ac ix ix)) = pw_sM B gx (ac.1, ac.2.1, ac.2.2.1, pw_ff1 A gx ac (ix + 1)) from by rw [show pw_o (pw_ff1 A gx ac ix ix) = pw_o (pw_ff1 A gx ac ix ix) from rfl, pw_sM_up1 (by omega)]; rw [pw_ff1_s (by rw [if_neg (fun z => h35 z.2)]; unfold pw_ff1; rw [if_neg (by omega)])]]
              rw [show ((pw_mvd A gx ix) + 1) = pw_mvd A gx (ix + 1) from by unfold pw_mvd; rw [pw_ct_, h22, hsx]; simp [show ¬ some sx = pw_pl A ix from fun z => h74 z.symm]]
              rw [show ((pw_knw A w gx ix) + 1) = pw_knw A w gx (ix + 1) from by
                  have kb : pw_kb A w gx ix = true := by unfold pw_kb; rw [hsx, show (some sx).bind (fun s => pw_sby gx (pw_k A) (pw_bh (pw_n A) s)) = pw_sby gx (pw_k A) (pw_bh (pw_n A) sx) from rfl, h116]; exact h138
                  unfold pw_knw
                  rw [pw_ct_, h22, kb]
                  rfl]
              refine pw_lvp [4, 5, 3, 1, 0] rfl ?_
              exact ih (by omega)
        · refine pw_blk (pc' := 78) [.iconst 0] (by decide +kernel) ?_
          show pw_V x m_X8_finds 3 Z 78 [(0, .ref 26), (1, .int (nI w)), (2, .int (nI (pw_mvd A gx ix))), (3, .int (nI (pw_knw A w gx ix))), (4, .int (nI ix))] [.int (nI 0), .int (nI (pw_mvd A gx ix))] (pw_up (pw_sM B gx (ac.1, ac.2.1, ac.2.2.1, pw_ff1 A gx ac ix)) 41 ix (pw_o (pw_ff1 A gx ac ix ix)))
          refine pw_goto (tgt := 82) (off := 4) (by decide +kernel) (by decide) ?_
          refine pw_blk (pc' := 94) [.iadd, .istore 2, .aload 0, .aload 0, .aload 0, .getfield 832, .iload 4, .iaload, .iconst 1] (by decide +kernel) ?_
          refine ⟨ix, rfl, by first | omega | exact pw_g_lt, ?_⟩
          show pw_V x m_X8_finds 3 Z 94 [(2, .int ((nI (pw_mvd A gx ix)) + (nI 0))), (0, .ref 26), (1, .int (nI w)), (3, .int (nI (pw_knw A w gx ix))), (4, .int (nI ix))] [.int (nI 1), .int ((pw_sM B gx (ac.1, ac.2.1, ac.2.2.1, pw_ff1 A gx ac ix)) 40 ix), .ref 26, .ref 26] (pw_up (pw_sM B gx (ac.1, ac.2.1, ac.2.2.1, pw_ff1 A gx ac ix)) 41 ix (pw_o (pw_ff1 A gx ac ix ix)))
          rw [show (nI (pw_mvd A gx ix)) + (nI 0) = nI ((pw_mvd A gx ix) + 0) from nI_add _ _]
          rw [show (pw_sM B gx (ac.1, ac.2.1, ac.2.2.1, pw_ff1 A gx ac ix)) 40 ix = nI sx from (by rw [pw_sM_40 (by omega), hsx]; rfl)]
          refine pw_cV (vs := [.int (nI sx), .int (nI 1)]) (rest := [.ref 26]) k_X8_beside (cL_mbes1 (pw_up (pw_sM B gx (ac.1, ac.2.1, ac.2.2.1, pw_ff1 A gx ac ix)) 41 ix (pw_o (pw_ff1 A gx ac ix ix))) (mvL (mvL_s hl) (fun c _ _ => pw_up_ne (by omega)) (fun j _ => by rw [pw_up_ne (by omega)])) hok sx (bsx)) l_8_222 rfl rfl rfl rfl (by omega) (Nat.le_of_ble_eq_true rfl) (by decide +kernel) ?_
          rintro _ m1 ⟨rfl, e1⟩
          rw [e1]
          clear e1 m1
          show pw_V x m_X8_finds 3 Z 97 [(2, .int (nI ((pw_mvd A gx ix) + 0))), (0, .ref 26), (1, .int (nI w)), (3, .int (nI (pw_knw A w gx ix))), (4, .int (nI ix))] [.int (nI (pw_bh (pw_n A) sx)), .ref 26] (pw_up (pw_sM B gx (ac.1, ac.2.1, ac.2.2.1, pw_ff1 A gx ac ix)) 41 ix (pw_o (pw_ff1 A gx ac ix ix)))
          refine pw_cV (vs := [.int (nI (pw_bh (pw_n A) sx))]) (rest := []) k_X8_sitterBy (cL_msby (pw_up (pw_sM B gx (ac.1, ac.2.1, ac.2.2.1, pw_ff1 A gx ac ix)) 41 ix (pw_o (pw_ff1 A gx ac ix ix))) (mvL (mvL_s hl) (fun c _ _ => pw_up_ne (by omega)) (fun j _ => by rw [pw_up_ne (by omega)])) hok gx (fun j hj => by rw [pw_up_ne (by omega)]; exact pw_sM_40 hj) hgb (pw_bh (pw_n A) sx) (by have z1 := pw_bh_lt bsx; omega)) l_8_228 rfl rfl rfl rfl (by omega) (Nat.le_of_ble_eq_true rfl) (by decide +kernel) ?_
          rintro _ m1 ⟨rfl, e1⟩
          rw [e1]
          clear e1 m1
          show pw_V x m_X8_finds 3 Z 100 [(2, .int (nI ((pw_mvd A gx ix) + 0))), (0, .ref 26), (1, .int (nI w)), (3, .int (nI (pw_knw A w gx ix))), (4, .int (nI ix))] [.int (pw_o (pw_sby gx (pw_k A) (pw_bh (pw_n A) sx)))] (pw_up (pw_sM B gx (ac.1, ac.2.1, ac.2.2.1, pw_ff1 A gx ac ix)) 41 ix (pw_o (pw_ff1 A gx ac ix ix)))
          refine pw_blk (pc' := 116) [.istore 5, .iload 3, .aload 0, .getfield 808, .iconst (8), .iload 4, .iadd, .iaload, .iload 5, .iconst (-1)] (by decide +kernel) ?_
          refine ⟨(8 + ix), (show (nI 8) + (nI ix) = nI (8 + ix) from by rw [show (nI 8) + (nI ix) = nI (8 + ix) from nI_add _ _]), by first | omega | exact pw_g_lt, ?_⟩
          show pw_V x m_X8_finds 3 Z 116 [(5, .int (pw_o (pw_sby gx (pw_k A) (pw_bh (pw_n A) sx)))), (2, .int (nI ((pw_mvd A gx ix) + 0))), (0, .ref 26), (1, .int (nI w)), (3, .int (nI (pw_knw A w gx ix))), (4, .int (nI ix))] [.int (-1), .int (pw_o (pw_sby gx (pw_k A) (pw_bh (pw_n A) sx))), .int ((pw_sM B gx (ac.1, ac.2.1, ac.2.2.1, pw_ff1 A gx ac ix)) 30 (8 + ix)), .int (nI (pw_knw A w gx ix))] (pw_up (pw_sM B gx (ac.1, ac.2.1, ac.2.2.1, pw_ff1 A gx ac ix)) 41 ix (pw_o (pw_ff1 A gx ac ix ix)))
          rw [show (pw_sM B gx (ac.1, ac.2.1, ac.2.2.1, pw_ff1 A gx ac ix)) 30 (8 + ix) = nI (pw_g A 44 ix) from ((congrFun (pw_sM_o (by omega) (by omega) (by omega)) _).trans (mv_nw (B := pw_up B 26 33 (-1)) hl hok (i := ix) (by omega)))]
          rcases h116 : pw_sby gx (pw_k A) (pw_bh (pw_n A) sx) with _ | s116
          · show pw_V x m_X8_finds 3 Z 116 [(5, .int (-1)), (2, .int (nI ((pw_mvd A gx ix) + 0))), (0, .ref 26), (1, .int (nI w)), (3, .int (nI (pw_knw A w gx ix))), (4, .int (nI ix))] [.int (-1), .int (-1), .int (nI (pw_g A 44 ix)), .int (nI (pw_knw A w gx ix))] (pw_up (pw_sM B gx (ac.1, ac.2.1, ac.2.2.1, pw_ff1 A gx ac ix)) 41 ix (pw_o (pw_ff1 A gx ac ix ix)))
            refine pw_ic_ne (tgt := 123) (off := 7) (by decide +kernel) (by decide) (fun h => absurd rfl h) (fun _ => ?_)
            refine pw_blk (pc' := 120) [.iconst 0] (by decide +kernel) ?_
            show pw_V x m_X8_finds 3 Z 120 [(5, .int (-1)), (2, .int (nI ((pw_mvd A gx ix) + 0))), (0, .ref 26), (1, .int (nI w)), (3, .int (nI (pw_knw A w gx ix))), (4, .int (nI ix))] [.int (nI 0), .int (nI (pw_g A 44 ix)), .int (nI (pw_knw A w gx ix))] (pw_up (pw_sM B gx (ac.1, ac.2.1, ac.2.2.1, pw_ff1 A gx ac ix)) 41 ix (pw_o (pw_ff1 A gx ac ix ix)))
            refine pw_goto (tgt := 133) (off := 13) (by decide +kernel) (by decide) ?_
            refine pw_blk (pc' := 135) [.ior, .iload 1] (by decide +kernel) ?_
            show pw_V x m_X8_finds 3 Z 135 [(5, .int (-1)), (2, .int (nI ((pw_mvd A gx ix) + 0))), (0, .ref 26), (1, .int (nI w)), (3, .int (nI (pw_knw A w gx ix))), (4, .int (nI ix))] [.int (nI w), .int ((nI (pw_g A 44 ix)) ||| (nI 0)), .int (nI (pw_knw A w gx ix))] (pw_up (pw_sM B gx (ac.1, ac.2.1, ac.2.2.1, pw_ff1 A gx ac ix)) 41 ix (pw_o (pw_ff1 A gx ac ix ix)))
            rw [show (nI (pw_g A 44 ix)) ||| (nI 0) = nI ((pw_g A 44 ix) ||| 0) from fa_or _ _]
            refine pw_cS (vs := [.int (nI ((pw_g A 44 ix) ||| 0)), .int (nI w)]) (rest := [.int (nI (pw_knw A w gx ix))]) k_X8_has (c_mhasN ((pw_g A 44 ix) ||| 0) w (pw_up (pw_sM B gx (ac.1, ac.2.1, ac.2.2.1, pw_ff1 A gx ac ix)) 41 ix (pw_o (pw_ff1 A gx ac ix ix))) (by first | omega | exact pw_g_lt | exact pw_ob_lt31 (by omega) | exact Nat.lt_trans (Nat.or_lt_two_pow (n := 4) b44 (pw_b44 hok (by omega))) (by decide) | exact Nat.lt_trans (Nat.or_lt_two_pow (n := 4) b44 (by decide)) (by decide)) (by first | omega | exact pw_g_lt)) l_8_86 rfl (by omega) (Nat.le_of_ble_eq_true rfl) (by decide +kernel) ?_
            rintro _ m1 ⟨rfl, e1⟩
            rw [e1]
            clear e1 m1
            show pw_V x m_X8_finds 3 Z 138 [(5, .int (-1)), (2, .int (nI ((pw_mvd A gx ix) + 0))), (0, .ref 26), (1, .int (nI w)), (3, .int (nI (pw_knw A w gx ix))), (4, .int (nI ix))] [.int (pw_b ((((pw_g A 44 ix) ||| 0)).testBit w)), .int (nI (pw_knw A w gx ix))] (pw_up (pw_sM B gx (ac.1, ac.2.1, ac.2.2.1, pw_ff1 A gx ac ix)) 41 ix (pw_o (pw_ff1 A gx ac ix ix)))
            refine pw_ib_eq (tgt := 145) (off := 7) (by decide +kernel) (by decide) (fun h138 => ?_) (fun h138 => ?_)
            · refine pw_blk (pc' := 151) [.iconst 0, .iadd, .istore 3, .iinc 4 1] (by decide +kernel) ?_
              show pw_V x m_X8_finds 3 Z 151 [(4, .int ((nI ix) + (nI 1))), (3, .int ((nI (pw_knw A w gx ix)) + (nI 0))), (5, .int (-1)), (2, .int (nI ((pw_mvd A gx ix) + 0))), (0, .ref 26), (1, .int (nI w))] [] (pw_up (pw_sM B gx (ac.1, ac.2.1, ac.2.2.1, pw_ff1 A gx ac ix)) 41 ix (pw_o (pw_ff1 A gx ac ix ix)))
              rw [show (nI ix) + (nI 1) = nI (ix + 1) from nI_add _ _]
              rw [show (nI (pw_knw A w gx ix)) + (nI 0) = nI ((pw_knw A w gx ix) + 0) from nI_add _ _]
              refine pw_goto (tgt := 7) (off := -144) (by decide +kernel) (by decide) ?_
              rw [show pw_up (pw_sM B gx (ac.1, ac.2.1, ac.2.2.1, pw_ff1 A gx ac ix)) 41 ix (pw_o (pw_ff1 A gx ac ix ix)) = pw_sM B gx (ac.1, ac.2.1, ac.2.2.1, pw_ff1 A gx ac (ix + 1)) from by rw [show pw_o (pw_ff1 A gx ac ix ix) = pw_o (pw_ff1 A gx ac ix ix) from rfl, pw_sM_up1 (by omega)]; rw [pw_ff1_s (by rw [if_neg (fun z => h35 z.2)]; unfold pw_ff1; rw [if_neg (by omega)])]]
              rw [show ((pw_mvd A gx ix) + 0) = pw_mvd A gx (ix + 1) from by unfold pw_mvd; rw [pw_ct_, h22, hsx]; simp [h74]]
              rw [show ((pw_knw A w gx ix) + 0) = pw_knw A w gx (ix + 1) from by
                  have kb : pw_kb A w gx ix = false := by unfold pw_kb; rw [hsx, show (some sx).bind (fun s => pw_sby gx (pw_k A) (pw_bh (pw_n A) s)) = pw_sby gx (pw_k A) (pw_bh (pw_n A) sx) from rfl, h116]; exact h138
                  unfold pw_knw
                  rw [pw_ct_, h22, kb]
                  rfl]
              refine pw_lvp [4, 5, 3, 1, 0] rfl ?_
              exact ih (by omega)
            · refine pw_blk (pc' := 142) [.iconst 1] (by decide +kernel) ?_
              show pw_V x m_X8_finds 3 Z 142 [(5, .int (-1)), (2, .int (nI ((pw_mvd A gx ix) + 0))), (0, .ref 26), (1, .int (nI w)), (3, .int (nI (pw_knw A w gx ix))), (4, .int (nI ix))] [.int (nI 1), .int (nI (pw_knw A w gx ix))] (pw_up (pw_sM B gx (ac.1, ac.2.1, ac.2.2.1, pw_ff1 A gx ac ix)) 41 ix (pw_o (pw_ff1 A gx ac ix ix)))
              refine pw_goto (tgt := 146) (off := 4) (by decide +kernel) (by decide) ?_
              refine pw_blk (pc' := 151) [.iadd, .istore 3, .iinc 4 1] (by decide +kernel) ?_
              show pw_V x m_X8_finds 3 Z 151 [(4, .int ((nI ix) + (nI 1))), (3, .int ((nI (pw_knw A w gx ix)) + (nI 1))), (5, .int (-1)), (2, .int (nI ((pw_mvd A gx ix) + 0))), (0, .ref 26), (1, .int (nI w))] [] (pw_up (pw_sM B gx (ac.1, ac.2.1, ac.2.2.1, pw_ff1 A gx ac ix)) 41 ix (pw_o (pw_ff1 A gx ac ix ix)))
              rw [show (nI ix) + (nI 1) = nI (ix + 1) from nI_add _ _]
              rw [show (nI (pw_knw A w gx ix)) + (nI 1) = nI ((pw_knw A w gx ix) + 1) from nI_add _ _]
              refine pw_goto (tgt := 7) (off := -144) (by decide +kernel) (by decide) ?_
              rw [show pw_up (pw_sM B gx (ac.1, ac.2.1, ac.2.2.1, pw_ff1 A gx ac ix)) 41 ix (pw_o (pw_ff1 A gx ac ix ix)) = pw_sM B gx (ac.1, ac.2.1, ac.2.2.1, pw_ff1 A gx ac (ix + 1)) from by rw [show pw_o (pw_ff1 A gx ac ix ix) = pw_o (pw_ff1 A gx ac ix ix) from rfl, pw_sM_up1 (by omega)]; rw [pw_ff1_s (by rw [if_neg (fun z => h35 z.2)]; unfold pw_ff1; rw [if_neg (by omega)])]]
              rw [show ((pw_mvd A gx ix) + 0) = pw_mvd A gx (ix + 1) from by unfold pw_mvd; rw [pw_ct_, h22, hsx]; simp [h74]]
              rw [show ((pw_knw A w gx ix) + 1) = pw_knw A w gx (ix + 1) from by
                  have kb : pw_kb A w gx ix = true := by unfold pw_kb; rw [hsx, show (some sx).bind (fun s => pw_sby gx (pw_k A) (pw_bh (pw_n A) s)) = pw_sby gx (pw_k A) (pw_bh (pw_n A) sx) from rfl, h116]; exact h138
                  unfold pw_knw
                  rw [pw_ct_, h22, kb]
                  rfl]
              refine pw_lvp [4, 5, 3, 1, 0] rfl ?_
              exact ih (by omega)
          · show pw_V x m_X8_finds 3 Z 116 [(5, .int (nI s116)), (2, .int (nI ((pw_mvd A gx ix) + 0))), (0, .ref 26), (1, .int (nI w)), (3, .int (nI (pw_knw A w gx ix))), (4, .int (nI ix))] [.int (-1), .int (nI s116), .int (nI (pw_g A 44 ix)), .int (nI (pw_knw A w gx ix))] (pw_up (pw_sM B gx (ac.1, ac.2.1, ac.2.2.1, pw_ff1 A gx ac ix)) 41 ix (pw_o (pw_ff1 A gx ac ix ix)))
            have b116 := pw_sby_6 bk h116
            refine pw_ic_ne (tgt := 123) (off := 7) (by decide +kernel) (by decide) (fun _ => ?_) (fun h => absurd h (pw_n1 (by first | omega | exact pw_g_lt)))
            refine pw_blk (pc' := 135) [.aload 0, .getfield 808, .iconst (8), .iload 5, .iadd, .iaload, .ior, .iload 1] (by decide +kernel) ?_
            refine ⟨(8 + s116), (show (nI 8) + (nI s116) = nI (8 + s116) from by rw [show (nI 8) + (nI s116) = nI (8 + s116) from nI_add _ _]), by first | omega | exact pw_g_lt, ?_⟩
            show pw_V x m_X8_finds 3 Z 135 [(5, .int (nI s116)), (2, .int (nI ((pw_mvd A gx ix) + 0))), (0, .ref 26), (1, .int (nI w)), (3, .int (nI (pw_knw A w gx ix))), (4, .int (nI ix))] [.int (nI w), .int ((nI (pw_g A 44 ix)) ||| ((pw_sM B gx (ac.1, ac.2.1, ac.2.2.1, pw_ff1 A gx ac ix)) 30 (8 + s116))), .int (nI (pw_knw A w gx ix))] (pw_up (pw_sM B gx (ac.1, ac.2.1, ac.2.2.1, pw_ff1 A gx ac ix)) 41 ix (pw_o (pw_ff1 A gx ac ix ix)))
            rw [show (pw_sM B gx (ac.1, ac.2.1, ac.2.2.1, pw_ff1 A gx ac ix)) 30 (8 + s116) = nI (pw_g A 44 s116) from ((congrFun (pw_sM_o (by omega) (by omega) (by omega)) _).trans (mv_nw (B := pw_up B 26 33 (-1)) hl hok (i := s116) (by omega)))]
            rw [show (nI (pw_g A 44 ix)) ||| (nI (pw_g A 44 s116)) = nI ((pw_g A 44 ix) ||| (pw_g A 44 s116)) from fa_or _ _]
            refine pw_cS (vs := [.int (nI ((pw_g A 44 ix) ||| (pw_g A 44 s116))), .int (nI w)]) (rest := [.int (nI (pw_knw A w gx ix))]) k_X8_has (c_mhasN ((pw_g A 44 ix) ||| (pw_g A 44 s116)) w (pw_up (pw_sM B gx (ac.1, ac.2.1, ac.2.2.1, pw_ff1 A gx ac ix)) 41 ix (pw_o (pw_ff1 A gx ac ix ix))) (by first | omega | exact pw_g_lt | exact pw_ob_lt31 (by omega) | exact Nat.lt_trans (Nat.or_lt_two_pow (n := 4) b44 (pw_b44 hok (by omega))) (by decide) | exact Nat.lt_trans (Nat.or_lt_two_pow (n := 4) b44 (by decide)) (by decide)) (by first | omega | exact pw_g_lt)) l_8_86 rfl (by omega) (Nat.le_of_ble_eq_true rfl) (by decide +kernel) ?_
            rintro _ m1 ⟨rfl, e1⟩
            rw [e1]
            clear e1 m1
            show pw_V x m_X8_finds 3 Z 138 [(5, .int (nI s116)), (2, .int (nI ((pw_mvd A gx ix) + 0))), (0, .ref 26), (1, .int (nI w)), (3, .int (nI (pw_knw A w gx ix))), (4, .int (nI ix))] [.int (pw_b ((((pw_g A 44 ix) ||| (pw_g A 44 s116))).testBit w)), .int (nI (pw_knw A w gx ix))] (pw_up (pw_sM B gx (ac.1, ac.2.1, ac.2.2.1, pw_ff1 A gx ac ix)) 41 ix (pw_o (pw_ff1 A gx ac ix ix)))
            refine pw_ib_eq (tgt := 145) (off := 7) (by decide +kernel) (by decide) (fun h138 => ?_) (fun h138 => ?_)
            · refine pw_blk (pc' := 151) [.iconst 0, .iadd, .istore 3, .iinc 4 1] (by decide +kernel) ?_
              show pw_V x m_X8_finds 3 Z 151 [(4, .int ((nI ix) + (nI 1))), (3, .int ((nI (pw_knw A w gx ix)) + (nI 0))), (5, .int (nI s116)), (2, .int (nI ((pw_mvd A gx ix) + 0))), (0, .ref 26), (1, .int (nI w))] [] (pw_up (pw_sM B gx (ac.1, ac.2.1, ac.2.2.1, pw_ff1 A gx ac ix)) 41 ix (pw_o (pw_ff1 A gx ac ix ix)))
              rw [show (nI ix) + (nI 1) = nI (ix + 1) from nI_add _ _]
              rw [show (nI (pw_knw A w gx ix)) + (nI 0) = nI ((pw_knw A w gx ix) + 0) from nI_add _ _]
              refine pw_goto (tgt := 7) (off := -144) (by decide +kernel) (by decide) ?_
              rw [show pw_up (pw_sM B gx (ac.1, ac.2.1, ac.2.2.1, pw_ff1 A gx ac ix)) 41 ix (pw_o (pw_ff1 A gx ac ix ix)) = pw_sM B gx (ac.1, ac.2.1, ac.2.2.1, pw_ff1 A gx ac (ix + 1)) from by rw [show pw_o (pw_ff1 A gx ac ix ix) = pw_o (pw_ff1 A gx ac ix ix) from rfl, pw_sM_up1 (by omega)]; rw [pw_ff1_s (by rw [if_neg (fun z => h35 z.2)]; unfold pw_ff1; rw [if_neg (by omega)])]]
              rw [show ((pw_mvd A gx ix) + 0) = pw_mvd A gx (ix + 1) from by unfold pw_mvd; rw [pw_ct_, h22, hsx]; simp [h74]]
              rw [show ((pw_knw A w gx ix) + 0) = pw_knw A w gx (ix + 1) from by
                  have kb : pw_kb A w gx ix = false := by unfold pw_kb; rw [hsx, show (some sx).bind (fun s => pw_sby gx (pw_k A) (pw_bh (pw_n A) s)) = pw_sby gx (pw_k A) (pw_bh (pw_n A) sx) from rfl, h116]; exact h138
                  unfold pw_knw
                  rw [pw_ct_, h22, kb]
                  rfl]
              refine pw_lvp [4, 5, 3, 1, 0] rfl ?_
              exact ih (by omega)
            · refine pw_blk (pc' := 142) [.iconst 1] (by decide +kernel) ?_
              show pw_V x m_X8_finds 3 Z 142 [(5, .int (nI s116)), (2, .int (nI ((pw_mvd A gx ix) + 0))), (0, .ref 26), (1, .int (nI w)), (3, .int (nI (pw_knw A w gx ix))), (4, .int (nI ix))] [.int (nI 1), .int (nI (pw_knw A w gx ix))] (pw_up (pw_sM B gx (ac.1, ac.2.1, ac.2.2.1, pw_ff1 A gx ac ix)) 41 ix (pw_o (pw_ff1 A gx ac ix ix)))
              refine pw_goto (tgt := 146) (off := 4) (by decide +kernel) (by decide) ?_
              refine pw_blk (pc' := 151) [.iadd, .istore 3, .iinc 4 1] (by decide +kernel) ?_
              show pw_V x m_X8_finds 3 Z 151 [(4, .int ((nI ix) + (nI 1))), (3, .int ((nI (pw_knw A w gx ix)) + (nI 1))), (5, .int (nI s116)), (2, .int (nI ((pw_mvd A gx ix) + 0))), (0, .ref 26), (1, .int (nI w))] [] (pw_up (pw_sM B gx (ac.1, ac.2.1, ac.2.2.1, pw_ff1 A gx ac ix)) 41 ix (pw_o (pw_ff1 A gx ac ix ix)))
              rw [show (nI ix) + (nI 1) = nI (ix + 1) from nI_add _ _]
              rw [show (nI (pw_knw A w gx ix)) + (nI 1) = nI ((pw_knw A w gx ix) + 1) from nI_add _ _]
              refine pw_goto (tgt := 7) (off := -144) (by decide +kernel) (by decide) ?_
              rw [show pw_up (pw_sM B gx (ac.1, ac.2.1, ac.2.2.1, pw_ff1 A gx ac ix)) 41 ix (pw_o (pw_ff1 A gx ac ix ix)) = pw_sM B gx (ac.1, ac.2.1, ac.2.2.1, pw_ff1 A gx ac (ix + 1)) from by rw [show pw_o (pw_ff1 A gx ac ix ix) = pw_o (pw_ff1 A gx ac ix ix) from rfl, pw_sM_up1 (by omega)]; rw [pw_ff1_s (by rw [if_neg (fun z => h35 z.2)]; unfold pw_ff1; rw [if_neg (by omega)])]]
              rw [show ((pw_mvd A gx ix) + 0) = pw_mvd A gx (ix + 1) from by unfold pw_mvd; rw [pw_ct_, h22, hsx]; simp [h74]]
              rw [show ((pw_knw A w gx ix) + 1) = pw_knw A w gx (ix + 1) from by
                  have kb : pw_kb A w gx ix = true := by unfold pw_kb; rw [hsx, show (some sx).bind (fun s => pw_sby gx (pw_k A) (pw_bh (pw_n A) s)) = pw_sby gx (pw_k A) (pw_bh (pw_n A) sx) from rfl, h116]; exact h138
                  unfold pw_knw
                  rw [pw_ct_, h22, kb]
                  rfl]
              refine pw_lvp [4, 5, 3, 1, 0] rfl ?_
              exact ih (by omega)
      · refine pw_blk (pc' := 45) [.aload 0, .getfield 832, .iload 4, .iaload] (by decide +kernel) ?_
        refine ⟨ix, rfl, by first | omega | exact pw_g_lt, ?_⟩
        show pw_V x m_X8_finds 3 Z 45 [(0, .ref 26), (1, .int (nI w)), (2, .int (nI (pw_mvd A gx ix))), (3, .int (nI (pw_knw A w gx ix))), (4, .int (nI ix))] [.int ((pw_sM B gx (ac.1, ac.2.1, ac.2.2.1, pw_ff1 A gx ac ix)) 40 ix), .int (nI ix), .ref 41] (pw_sM B gx (ac.1, ac.2.1, ac.2.2.1, pw_ff1 A gx ac ix))
        rw [show (pw_sM B gx (ac.1, ac.2.1, ac.2.2.1, pw_ff1 A gx ac ix)) 40 ix = nI sx from (by rw [pw_sM_40 (by omega), hsx]; rfl)]
        refine pw_goto (tgt := 55) (off := 10) (by decide +kernel) (by decide) ?_
        refine pw_blk (pc' := 74) [.iastore, .iload 2, .aload 0, .getfield 832, .iload 4, .iaload, .aload 0, .getfield 808, .iconst (14), .iload 4, .iadd, .iaload] (by decide +kernel) ?_
        refine ⟨ix, rfl, by first | omega | exact pw_g_lt, ?_⟩
        refine ⟨ix, rfl, by first | omega | exact pw_g_lt, ?_⟩
        refine ⟨(14 + ix), (show (nI 14) + (nI ix) = nI (14 + ix) from by rw [show (nI 14) + (nI ix) = nI (14 + ix) from nI_add _ _]), by first | omega | exact pw_g_lt, ?_⟩
        show pw_V x m_X8_finds 3 Z 74 [(0, .ref 26), (1, .int (nI w)), (2, .int (nI (pw_mvd A gx ix))), (3, .int (nI (pw_knw A w gx ix))), (4, .int (nI ix))] [.int ((pw_sM B gx (ac.1, ac.2.1, ac.2.2.1, pw_ff1 A gx ac ix)) 30 (14 + ix)), .int ((pw_sM B gx (ac.1, ac.2.1, ac.2.2.1, pw_ff1 A gx ac ix)) 40 ix), .int (nI (pw_mvd A gx ix))] (pw_up (pw_sM B gx (ac.1, ac.2.1, ac.2.2.1, pw_ff1 A gx ac ix)) 41 ix (nI sx))
        rw [show (pw_sM B gx (ac.1, ac.2.1, ac.2.2.1, pw_ff1 A gx ac ix)) 30 (14 + ix) = pw_o (pw_pl A ix) from ((congrFun (pw_sM_o (by omega) (by omega) (by omega)) _).trans (mv_pl (B := pw_up B 26 33 (-1)) hl hok (i := ix) (by omega)))]
        rw [show (pw_sM B gx (ac.1, ac.2.1, ac.2.2.1, pw_ff1 A gx ac ix)) 40 ix = nI sx from (by rw [pw_sM_40 (by omega), hsx]; rfl)]
        refine pw_no_ne (tgt := 81) (off := 7) (by decide +kernel) (by decide) (by first | omega | exact pw_g_lt) (fun a ha => Nat.lt_trans (pw_mplb hok (i := ix) (by omega) ha) (by omega)) (fun h74 => ?_) (fun h74 => ?_)
        · refine pw_blk (pc' := 94) [.iconst 1, .iadd, .istore 2, .aload 0, .aload 0, .aload 0, .getfield 832, .iload 4, .iaload, .iconst 1] (by decide +kernel) ?_
          refine ⟨ix, rfl, by first | omega | exact pw_g_lt, ?_⟩
          show pw_V x m_X8_finds 3 Z 94 [(2, .int ((nI (pw_mvd A gx ix)) + (nI 1))), (0, .ref 26), (1, .int (nI w)), (3, .int (nI (pw_knw A w gx ix))), (4, .int (nI ix))] [.int (nI 1), .int ((pw_sM B gx (ac.1, ac.2.1, ac.2.2.1, pw_ff1 A gx ac ix)) 40 ix), .ref 26, .ref 26] (pw_up (pw_sM B gx (ac.1, ac.2.1, ac.2.2.1, pw_ff1 A gx ac ix)) 41 ix (nI sx))
          rw [show (nI (pw_mvd A gx ix)) + (nI 1) = nI ((pw_mvd A gx ix) + 1) from nI_add _ _]
          rw [show (pw_sM B gx (ac.1, ac.2.1, ac.2.2.1, pw_ff1 A gx ac ix)) 40 ix = nI sx from (by rw [pw_sM_40 (by omega), hsx]; rfl)]
          refine pw_cV (vs := [.int (nI sx), .int (nI 1)]) (rest := [.ref 26]) k_X8_beside (cL_mbes1 (pw_up (pw_sM B gx (ac.1, ac.2.1, ac.2.2.1, pw_ff1 A gx ac ix)) 41 ix (nI sx)) (mvL (mvL_s hl) (fun c _ _ => pw_up_ne (by omega)) (fun j _ => by rw [pw_up_ne (by omega)])) hok sx (bsx)) l_8_222 rfl rfl rfl rfl (by omega) (Nat.le_of_ble_eq_true rfl) (by decide +kernel) ?_
          rintro _ m1 ⟨rfl, e1⟩
          rw [e1]
          clear e1 m1
          show pw_V x m_X8_finds 3 Z 97 [(2, .int (nI ((pw_mvd A gx ix) + 1))), (0, .ref 26), (1, .int (nI w)), (3, .int (nI (pw_knw A w gx ix))), (4, .int (nI ix))] [.int (nI (pw_bh (pw_n A) sx)), .ref 26] (pw_up (pw_sM B gx (ac.1, ac.2.1, ac.2.2.1, pw_ff1 A gx ac ix)) 41 ix (nI sx))
          refine pw_cV (vs := [.int (nI (pw_bh (pw_n A) sx))]) (rest := []) k_X8_sitterBy (cL_msby (pw_up (pw_sM B gx (ac.1, ac.2.1, ac.2.2.1, pw_ff1 A gx ac ix)) 41 ix (nI sx)) (mvL (mvL_s hl) (fun c _ _ => pw_up_ne (by omega)) (fun j _ => by rw [pw_up_ne (by omega)])) hok gx (fun j hj => by rw [pw_up_ne (by omega)]; exact pw_sM_40 hj) hgb (pw_bh (pw_n A) sx) (by have z1 := pw_bh_lt bsx; omega)) l_8_228 rfl rfl rfl rfl (by omega) (Nat.le_of_ble_eq_true rfl) (by decide +kernel) ?_
          rintro _ m1 ⟨rfl, e1⟩
          rw [e1]
          clear e1 m1
          show pw_V x m_X8_finds 3 Z 100 [(2, .int (nI ((pw_mvd A gx ix) + 1))), (0, .ref 26), (1, .int (nI w)), (3, .int (nI (pw_knw A w gx ix))), (4, .int (nI ix))] [.int (pw_o (pw_sby gx (pw_k A) (pw_bh (pw_n A) sx)))] (pw_up (pw_sM B gx (ac.1, ac.2.1, ac.2.2.1, pw_ff1 A gx ac ix)) 41 ix (nI sx))
          refine pw_blk (pc' := 116) [.istore 5, .iload 3, .aload 0, .getfield 808, .iconst (8), .iload 4, .iadd, .iaload, .iload 5, .iconst (-1)] (by decide +kernel) ?_
          refine ⟨(8 + ix), (show (nI 8) + (nI ix) = nI (8 + ix) from by rw [show (nI 8) + (nI ix) = nI (8 + ix) from nI_add _ _]), by first | omega | exact pw_g_lt, ?_⟩
          show pw_V x m_X8_finds 3 Z 116 [(5, .int (pw_o (pw_sby gx (pw_k A) (pw_bh (pw_n A) sx)))), (2, .int (nI ((pw_mvd A gx ix) + 1))), (0, .ref 26), (1, .int (nI w)), (3, .int (nI (pw_knw A w gx ix))), (4, .int (nI ix))] [.int (-1), .int (pw_o (pw_sby gx (pw_k A) (pw_bh (pw_n A) sx))), .int ((pw_sM B gx (ac.1, ac.2.1, ac.2.2.1, pw_ff1 A gx ac ix)) 30 (8 + ix)), .int (nI (pw_knw A w gx ix))] (pw_up (pw_sM B gx (ac.1, ac.2.1, ac.2.2.1, pw_ff1 A gx ac ix)) 41 ix (nI sx))
          rw [show (pw_sM B gx (ac.1, ac.2.1, ac.2.2.1, pw_ff1 A gx ac ix)) 30 (8 + ix) = nI (pw_g A 44 ix) from ((congrFun (pw_sM_o (by omega) (by omega) (by omega)) _).trans (mv_nw (B := pw_up B 26 33 (-1)) hl hok (i := ix) (by omega)))]
          rcases h116 : pw_sby gx (pw_k A) (pw_bh (pw_n A) sx) with _ | s116
          · show pw_V x m_X8_finds 3 Z 116 [(5, .int (-1)), (2, .int (nI ((pw_mvd A gx ix) + 1))), (0, .ref 26), (1, .int (nI w)), (3, .int (nI (pw_knw A w gx ix))), (4, .int (nI ix))] [.int (-1), .int (-1), .int (nI (pw_g A 44 ix)), .int (nI (pw_knw A w gx ix))] (pw_up (pw_sM B gx (ac.1, ac.2.1, ac.2.2.1, pw_ff1 A gx ac ix)) 41 ix (nI sx))
            refine pw_ic_ne (tgt := 123) (off := 7) (by decide +kernel) (by decide) (fun h => absurd rfl h) (fun _ => ?_)
            refine pw_blk (pc' := 120) [.iconst 0] (by decide +kernel) ?_
            show pw_V x m_X8_finds 3 Z 120 [(5, .int (-1)), (2, .int (nI ((pw_mvd A gx ix) + 1))), (0, .ref 26), (1, .int (nI w)), (3, .int (nI (pw_knw A w gx ix))), (4, .int (nI ix))] [.int (nI 0), .int (nI (pw_g A 44 ix)), .int (nI (pw_knw A w gx ix))] (pw_up (pw_sM B gx (ac.1, ac.2.1, ac.2.2.1, pw_ff1 A gx ac ix)) 41 ix (nI sx))
            refine pw_goto (tgt := 133) (off := 13) (by decide +kernel) (by decide) ?_
            refine pw_blk (pc' := 135) [.ior, .iload 1] (by decide +kernel) ?_
            show pw_V x m_X8_finds 3 Z 135 [(5, .int (-1)), (2, .int (nI ((pw_mvd A gx ix) + 1))), (0, .ref 26), (1, .int (nI w)), (3, .int (nI (pw_knw A w gx ix))), (4, .int (nI ix))] [.int (nI w), .int ((nI (pw_g A 44 ix)) ||| (nI 0)), .int (nI (pw_knw A w gx ix))] (pw_up (pw_sM B gx (ac.1, ac.2.1, ac.2.2.1, pw_ff1 A gx ac ix)) 41 ix (nI sx))
            rw [show (nI (pw_g A 44 ix)) ||| (nI 0) = nI ((pw_g A 44 ix) ||| 0) from fa_or _ _]
            refine pw_cS (vs := [.int (nI ((pw_g A 44 ix) ||| 0)), .int (nI w)]) (rest := [.int (nI (pw_knw A w gx ix))]) k_X8_has (c_mhasN ((pw_g A 44 ix) ||| 0) w (pw_up (pw_sM B gx (ac.1, ac.2.1, ac.2.2.1, pw_ff1 A gx ac ix)) 41 ix (nI sx)) (by first | omega | exact pw_g_lt | exact pw_ob_lt31 (by omega) | exact Nat.lt_trans (Nat.or_lt_two_pow (n := 4) b44 (pw_b44 hok (by omega))) (by decide) | exact Nat.lt_trans (Nat.or_lt_two_pow (n := 4) b44 (by decide)) (by decide)) (by first | omega | exact pw_g_lt)) l_8_86 rfl (by omega) (Nat.le_of_ble_eq_true rfl) (by decide +kernel) ?_
            rintro _ m1 ⟨rfl, e1⟩
            rw [e1]
            clear e1 m1
            show pw_V x m_X8_finds 3 Z 138 [(5, .int (-1)), (2, .int (nI ((pw_mvd A gx ix) + 1))), (0, .ref 26), (1, .int (nI w)), (3, .int (nI (pw_knw A w gx ix))), (4, .int (nI ix))] [.int (pw_b ((((pw_g A 44 ix) ||| 0)).testBit w)), .int (nI (pw_knw A w gx ix))] (pw_up (pw_sM B gx (ac.1, ac.2.1, ac.2.2.1, pw_ff1 A gx ac ix)) 41 ix (nI sx))
            refine pw_ib_eq (tgt := 145) (off := 7) (by decide +kernel) (by decide) (fun h138 => ?_) (fun h138 => ?_)
            · refine pw_blk (pc' := 151) [.iconst 0, .iadd, .istore 3, .iinc 4 1] (by decide +kernel) ?_
              show pw_V x m_X8_finds 3 Z 151 [(4, .int ((nI ix) + (nI 1))), (3, .int ((nI (pw_knw A w gx ix)) + (nI 0))), (5, .int (-1)), (2, .int (nI ((pw_mvd A gx ix) + 1))), (0, .ref 26), (1, .int (nI w))] [] (pw_up (pw_sM B gx (ac.1, ac.2.1, ac.2.2.1, pw_ff1 A gx ac ix)) 41 ix (nI sx))
              rw [show (nI ix) + (nI 1) = nI (ix + 1) from nI_add _ _]
              rw [show (nI (pw_knw A w gx ix)) + (nI 0) = nI ((pw_knw A w gx ix) + 0) from nI_add _ _]
              refine pw_goto (tgt := 7) (off := -144) (by decide +kernel) (by decide) ?_
              rw [show pw_up (pw_sM B gx (ac.1, ac.2.1, ac.2.2.1, pw_ff1 A gx ac ix)) 41 ix (nI sx) = pw_sM B gx (ac.1, ac.2.1, ac.2.2.1, pw_ff1 A gx ac (ix + 1)) from by rw [show nI sx = pw_o (gx ix) from by rw [hsx]; rfl, pw_sM_up1 (by omega)]; rw [pw_ff1_s (by rw [if_pos ⟨h22, h35⟩])]]
              rw [show ((pw_mvd A gx ix) + 1) = pw_mvd A gx (ix + 1) from by unfold pw_mvd; rw [pw_ct_, h22, hsx]; simp [show ¬ some sx = pw_pl A ix from fun z => h74 z.symm]]
              rw [show ((pw_knw A w gx ix) + 0) = pw_knw A w gx (ix + 1) from by
                  have kb : pw_kb A w gx ix = false := by unfold pw_kb; rw [hsx, show (some sx).bind (fun s => pw_sby gx (pw_k A) (pw_bh (pw_n A) s)) = pw_sby gx (pw_k A) (pw_bh (pw_n A) sx) from rfl, h116]; exact h138
                  unfold pw_knw
                  rw [pw_ct_, h22, kb]
                  rfl]
              refine pw_lvp [4, 5, 3, 1, 0] rfl ?_
              exact ih (by omega)
            · refine pw_blk (pc' := 142) [.iconst 1] (by decide +kernel) ?_
              show pw_V x m_X8_finds 3 Z 142 [(5, .int (-1)), (2, .int (nI ((pw_mvd A gx ix) + 1))), (0, .ref 26), (1, .int (nI w)), (3, .int (nI (pw_knw A w gx ix))), (4, .int (nI ix))] [.int (nI 1), .int (nI (pw_knw A w gx ix))] (pw_up (pw_sM B gx (ac.1, ac.2.1, ac.2.2.1, pw_ff1 A gx ac ix)) 41 ix (nI sx))
              refine pw_goto (tgt := 146) (off := 4) (by decide +kernel) (by decide) ?_
              refine pw_blk (pc' := 151) [.iadd, .istore 3, .iinc 4 1] (by decide +kernel) ?_
              show pw_V x m_X8_finds 3 Z 151 [(4, .int ((nI ix) + (nI 1))), (3, .int ((nI (pw_knw A w gx ix)) + (nI 1))), (5, .int (-1)), (2, .int (nI ((pw_mvd A gx ix) + 1))), (0, .ref 26), (1, .int (nI w))] [] (pw_up (pw_sM B gx (ac.1, ac.2.1, ac.2.2.1, pw_ff1 A gx ac ix)) 41 ix (nI sx))
              rw [show (nI ix) + (nI 1) = nI (ix + 1) from nI_add _ _]
              rw [show (nI (pw_knw A w gx ix)) + (nI 1) = nI ((pw_knw A w gx ix) + 1) from nI_add _ _]
              refine pw_goto (tgt := 7) (off := -144) (by decide +kernel) (by decide) ?_
              rw [show pw_up (pw_sM B gx (ac.1, ac.2.1, ac.2.2.1, pw_ff1 A gx ac ix)) 41 ix (nI sx) = pw_sM B gx (ac.1, ac.2.1, ac.2.2.1, pw_ff1 A gx ac (ix + 1)) from by rw [show nI sx = pw_o (gx ix) from by rw [hsx]; rfl, pw_sM_up1 (by omega)]; rw [pw_ff1_s (by rw [if_pos ⟨h22, h35⟩])]]
              rw [show ((pw_mvd A gx ix) + 1) = pw_mvd A gx (ix + 1) from by unfold pw_mvd; rw [pw_ct_, h22, hsx]; simp [show ¬ some sx = pw_pl A ix from fun z => h74 z.symm]]
              rw [show ((pw_knw A w gx ix) + 1) = pw_knw A w gx (ix + 1) from by
                  have kb : pw_kb A w gx ix = true := by unfold pw_kb; rw [hsx, show (some sx).bind (fun s => pw_sby gx (pw_k A) (pw_bh (pw_n A) s)) = pw_sby gx (pw_k A) (pw_bh (pw_n A) sx) from rfl, h116]; exact h138
                  unfold pw_knw
                  rw [pw_ct_, h22, kb]
                  rfl]
              refine pw_lvp [4, 5, 3, 1, 0] rfl ?_
              exact ih (by omega)
          · show pw_V x m_X8_finds 3 Z 116 [(5, .int (nI s116)), (2, .int (nI ((pw_mvd A gx ix) + 1))), (0, .ref 26), (1, .int (nI w)), (3, .int (nI (pw_knw A w gx ix))), (4, .int (nI ix))] [.int (-1), .int (nI s116), .int (nI (pw_g A 44 ix)), .int (nI (pw_knw A w gx ix))] (pw_up (pw_sM B gx (ac.1, ac.2.1, ac.2.2.1, pw_ff1 A gx ac ix)) 41 ix (nI sx))
            have b116 := pw_sby_6 bk h116
            refine pw_ic_ne (tgt := 123) (off := 7) (by decide +kernel) (by decide) (fun _ => ?_) (fun h => absurd h (pw_n1 (by first | omega | exact pw_g_lt)))
            refine pw_blk (pc' := 135) [.aload 0, .getfield 808, .iconst (8), .iload 5, .iadd, .iaload, .ior, .iload 1] (by decide +kernel) ?_
            refine ⟨(8 + s116), (show (nI 8) + (nI s116) = nI (8 + s116) from by rw [show (nI 8) + (nI s116) = nI (8 + s116) from nI_add _ _]), by first | omega | exact pw_g_lt, ?_⟩
            show pw_V x m_X8_finds 3 Z 135 [(5, .int (nI s116)), (2, .int (nI ((pw_mvd A gx ix) + 1))), (0, .ref 26), (1, .int (nI w)), (3, .int (nI (pw_knw A w gx ix))), (4, .int (nI ix))] [.int (nI w), .int ((nI (pw_g A 44 ix)) ||| ((pw_sM B gx (ac.1, ac.2.1, ac.2.2.1, pw_ff1 A gx ac ix)) 30 (8 + s116))), .int (nI (pw_knw A w gx ix))] (pw_up (pw_sM B gx (ac.1, ac.2.1, ac.2.2.1, pw_ff1 A gx ac ix)) 41 ix (nI sx))
            rw [show (pw_sM B gx (ac.1, ac.2.1, ac.2.2.1, pw_ff1 A gx ac ix)) 30 (8 + s116) = nI (pw_g A 44 s116) from ((congrFun (pw_sM_o (by omega) (by omega) (by omega)) _).trans (mv_nw (B := pw_up B 26 33 (-1)) hl hok (i := s116) (by omega)))]
            rw [show (nI (pw_g A 44 ix)) ||| (nI (pw_g A 44 s116)) = nI ((pw_g A 44 ix) ||| (pw_g A 44 s116)) from fa_or _ _]
            refine pw_cS (vs := [.int (nI ((pw_g A 44 ix) ||| (pw_g A 44 s116))), .int (nI w)]) (rest := [.int (nI (pw_knw A w gx ix))]) k_X8_has (c_mhasN ((pw_g A 44 ix) ||| (pw_g A 44 s116)) w (pw_up (pw_sM B gx (ac.1, ac.2.1, ac.2.2.1, pw_ff1 A gx ac ix)) 41 ix (nI sx)) (by first | omega | exact pw_g_lt | exact pw_ob_lt31 (by omega) | exact Nat.lt_trans (Nat.or_lt_two_pow (n := 4) b44 (pw_b44 hok (by omega))) (by decide) | exact Nat.lt_trans (Nat.or_lt_two_pow (n := 4) b44 (by decide)) (by decide)) (by first | omega | exact pw_g_lt)) l_8_86 rfl (by omega) (Nat.le_of_ble_eq_true rfl) (by decide +kernel) ?_
            rintro _ m1 ⟨rfl, e1⟩
            rw [e1]
            clear e1 m1
            show pw_V x m_X8_finds 3 Z 138 [(5, .int (nI s116)), (2, .int (nI ((pw_mvd A gx ix) + 1))), (0, .ref 26), (1, .int (nI w)), (3, .int (nI (pw_knw A w gx ix))), (4, .int (nI ix))] [.int (pw_b ((((pw_g A 44 ix) ||| (pw_g A 44 s116))).testBit w)), .int (nI (pw_knw A w gx ix))] (pw_up (pw_sM B gx (ac.1, ac.2.1, ac.2.2.1, pw_ff1 A gx ac ix)) 41 ix (nI sx))
            refine pw_ib_eq (tgt := 145) (off := 7) (by decide +kernel) (by decide) (fun h138 => ?_) (fun h138 => ?_)
            · refine pw_blk (pc' := 151) [.iconst 0, .iadd, .istore 3, .iinc 4 1] (by decide +kernel) ?_
              show pw_V x m_X8_finds 3 Z 151 [(4, .int ((nI ix) + (nI 1))), (3, .int ((nI (pw_knw A w gx ix)) + (nI 0))), (5, .int (nI s116)), (2, .int (nI ((pw_mvd A gx ix) + 1))), (0, .ref 26), (1, .int (nI w))] [] (pw_up (pw_sM B gx (ac.1, ac.2.1, ac.2.2.1, pw_ff1 A gx ac ix)) 41 ix (nI sx))
              rw [show (nI ix) + (nI 1) = nI (ix + 1) from nI_add _ _]
              rw [show (nI (pw_knw A w gx ix)) + (nI 0) = nI ((pw_knw A w gx ix) + 0) from nI_add _ _]
              refine pw_goto (tgt := 7) (off := -144) (by decide +kernel) (by decide) ?_
              rw [show pw_up (pw_sM B gx (ac.1, ac.2.1, ac.2.2.1, pw_ff1 A gx ac ix)) 41 ix (nI sx) = pw_sM B gx (ac.1, ac.2.1, ac.2.2.1, pw_ff1 A gx ac (ix + 1)) from by rw [show nI sx = pw_o (gx ix) from by rw [hsx]; rfl, pw_sM_up1 (by omega)]; rw [pw_ff1_s (by rw [if_pos ⟨h22, h35⟩])]]
              rw [show ((pw_mvd A gx ix) + 1) = pw_mvd A gx (ix + 1) from by unfold pw_mvd; rw [pw_ct_, h22, hsx]; simp [show ¬ some sx = pw_pl A ix from fun z => h74 z.symm]]
              rw [show ((pw_knw A w gx ix) + 0) = pw_knw A w gx (ix + 1) from by
                  have kb : pw_kb A w gx ix = false := by unfold pw_kb; rw [hsx, show (some sx).bind (fun s => pw_sby gx (pw_k A) (pw_bh (pw_n A) s)) = pw_sby gx (pw_k A) (pw_bh (pw_n A) sx) from rfl, h116]; exact h138
                  unfold pw_knw
                  rw [pw_ct_, h22, kb]
                  rfl]
              refine pw_lvp [4, 5, 3, 1, 0] rfl ?_
              exact ih (by omega)
            · refine pw_blk (pc' := 142) [.iconst 1] (by decide +kernel) ?_
              show pw_V x m_X8_finds 3 Z 142 [(5, .int (nI s116)), (2, .int (nI ((pw_mvd A gx ix) + 1))), (0, .ref 26), (1, .int (nI w)), (3, .int (nI (pw_knw A w gx ix))), (4, .int (nI ix))] [.int (nI 1), .int (nI (pw_knw A w gx ix))] (pw_up (pw_sM B gx (ac.1, ac.2.1, ac.2.2.1, pw_ff1 A gx ac ix)) 41 ix (nI sx))
              refine pw_goto (tgt := 146) (off := 4) (by decide +kernel) (by decide) ?_
              refine pw_blk (pc' := 151) [.iadd, .istore 3, .iinc 4 1] (by decide +kernel) ?_
              show pw_V x m_X8_finds 3 Z 151 [(4, .int ((nI ix) + (nI 1))), (3, .int ((nI (pw_knw A w gx ix)) + (nI 1))), (5, .int (nI s116)), (2, .int (nI ((pw_mvd A gx ix) + 1))), (0, .ref 26), (1, .int (nI w))] [] (pw_up (pw_sM B gx (ac.1, ac.2.1, ac.2.2.1, pw_ff1 A gx ac ix)) 41 ix (nI sx))
              rw [show (nI ix) + (nI 1) = nI (ix + 1) from nI_add _ _]
              rw [show (nI (pw_knw A w gx ix)) + (nI 1) = nI ((pw_knw A w gx ix) + 1) from nI_add _ _]
              refine pw_goto (tgt := 7) (off := -144) (by decide +kernel) (by decide) ?_
              rw [show pw_up (pw_sM B gx (ac.1, ac.2.1, ac.2.2.1, pw_ff1 A gx ac ix)) 41 ix (nI sx) = pw_sM B gx (ac.1, ac.2.1, ac.2.2.1, pw_ff1 A gx ac (ix + 1)) from by rw [show nI sx = pw_o (gx ix) from by rw [hsx]; rfl, pw_sM_up1 (by omega)]; rw [pw_ff1_s (by rw [if_pos ⟨h22, h35⟩])]]
              rw [show ((pw_mvd A gx ix) + 1) = pw_mvd A gx (ix + 1) from by unfold pw_mvd; rw [pw_ct_, h22, hsx]; simp [show ¬ some sx = pw_pl A ix from fun z => h74 z.symm]]
              rw [show ((pw_knw A w gx ix) + 1) = pw_knw A w gx (ix + 1) from by
                  have kb : pw_kb A w gx ix = true := by unfold pw_kb; rw [hsx, show (some sx).bind (fun s => pw_sby gx (pw_k A) (pw_bh (pw_n A) s)) = pw_sby gx (pw_k A) (pw_bh (pw_n A) sx) from rfl, h116]; exact h138
                  unfold pw_knw
                  rw [pw_ct_, h22, kb]
                  rfl]
              refine pw_lvp [4, 5, 3, 1, 0] rfl ?_
              exact ih (by omega)
        · refine pw_blk (pc' := 78) [.iconst 0] (by decide +kernel) ?_
          show pw_V x m_X8_finds 3 Z 78 [(0, .ref 26), (1, .int (nI w)), (2, .int (nI (pw_mvd A gx ix))), (3, .int (nI (pw_knw A w gx ix))), (4, .int (nI ix))] [.int (nI 0), .int (nI (pw_mvd A gx ix))] (pw_up (pw_sM B gx (ac.1, ac.2.1, ac.2.2.1, pw_ff1 A gx ac ix)) 41 ix (nI sx))
          refine pw_goto (tgt := 82) (off := 4) (by decide +kernel) (by decide) ?_
          refine pw_blk (pc' := 94) [.iadd, .istore 2, .aload 0, .aload 0, .aload 0, .getfield 832, .iload 4, .iaload, .iconst 1] (by decide +kernel) ?_
          refine ⟨ix, rfl, by first | omega | exact pw_g_lt, ?_⟩
          show pw_V x m_X8_finds 3 Z 94 [(2, .int ((nI (pw_mvd A gx ix)) + (nI 0))), (0, .ref 26), (1, .int (nI w)), (3, .int (nI (pw_knw A w gx ix))), (4, .int (nI ix))] [.int (nI 1), .int ((pw_sM B gx (ac.1, ac.2.1, ac.2.2.1, pw_ff1 A gx ac ix)) 40 ix), .ref 26, .ref 26] (pw_up (pw_sM B gx (ac.1, ac.2.1, ac.2.2.1, pw_ff1 A gx ac ix)) 41 ix (nI sx))
          rw [show (nI (pw_mvd A gx ix)) + (nI 0) = nI ((pw_mvd A gx ix) + 0) from nI_add _ _]
          rw [show (pw_sM B gx (ac.1, ac.2.1, ac.2.2.1, pw_ff1 A gx ac ix)) 40 ix = nI sx from (by rw [pw_sM_40 (by omega), hsx]; rfl)]
          refine pw_cV (vs := [.int (nI sx), .int (nI 1)]) (rest := [.ref 26]) k_X8_beside (cL_mbes1 (pw_up (pw_sM B gx (ac.1, ac.2.1, ac.2.2.1, pw_ff1 A gx ac ix)) 41 ix (nI sx)) (mvL (mvL_s hl) (fun c _ _ => pw_up_ne (by omega)) (fun j _ => by rw [pw_up_ne (by omega)])) hok sx (bsx)) l_8_222 rfl rfl rfl rfl (by omega) (Nat.le_of_ble_eq_true rfl) (by decide +kernel) ?_
          rintro _ m1 ⟨rfl, e1⟩
          rw [e1]
          clear e1 m1
          show pw_V x m_X8_finds 3 Z 97 [(2, .int (nI ((pw_mvd A gx ix) + 0))), (0, .ref 26), (1, .int (nI w)), (3, .int (nI (pw_knw A w gx ix))), (4, .int (nI ix))] [.int (nI (pw_bh (pw_n A) sx)), .ref 26] (pw_up (pw_sM B gx (ac.1, ac.2.1, ac.2.2.1, pw_ff1 A gx ac ix)) 41 ix (nI sx))
          refine pw_cV (vs := [.int (nI (pw_bh (pw_n A) sx))]) (rest := []) k_X8_sitterBy (cL_msby (pw_up (pw_sM B gx (ac.1, ac.2.1, ac.2.2.1, pw_ff1 A gx ac ix)) 41 ix (nI sx)) (mvL (mvL_s hl) (fun c _ _ => pw_up_ne (by omega)) (fun j _ => by rw [pw_up_ne (by omega)])) hok gx (fun j hj => by rw [pw_up_ne (by omega)]; exact pw_sM_40 hj) hgb (pw_bh (pw_n A) sx) (by have z1 := pw_bh_lt bsx; omega)) l_8_228 rfl rfl rfl rfl (by omega) (Nat.le_of_ble_eq_true rfl) (by decide +kernel) ?_
          rintro _ m1 ⟨rfl, e1⟩
          rw [e1]
          clear e1 m1
          show pw_V x m_X8_finds 3 Z 100 [(2, .int (nI ((pw_mvd A gx ix) + 0))), (0, .ref 26), (1, .int (nI w)), (3, .int (nI (pw_knw A w gx ix))), (4, .int (nI ix))] [.int (pw_o (pw_sby gx (pw_k A) (pw_bh (pw_n A) sx)))] (pw_up (pw_sM B gx (ac.1, ac.2.1, ac.2.2.1, pw_ff1 A gx ac ix)) 41 ix (nI sx))
          refine pw_blk (pc' := 116) [.istore 5, .iload 3, .aload 0, .getfield 808, .iconst (8), .iload 4, .iadd, .iaload, .iload 5, .iconst (-1)] (by decide +kernel) ?_
          refine ⟨(8 + ix), (show (nI 8) + (nI ix) = nI (8 + ix) from by rw [show (nI 8) + (nI ix) = nI (8 + ix) from nI_add _ _]), by first | omega | exact pw_g_lt, ?_⟩
          show pw_V x m_X8_finds 3 Z 116 [(5, .int (pw_o (pw_sby gx (pw_k A) (pw_bh (pw_n A) sx)))), (2, .int (nI ((pw_mvd A gx ix) + 0))), (0, .ref 26), (1, .int (nI w)), (3, .int (nI (pw_knw A w gx ix))), (4, .int (nI ix))] [.int (-1), .int (pw_o (pw_sby gx (pw_k A) (pw_bh (pw_n A) sx))), .int ((pw_sM B gx (ac.1, ac.2.1, ac.2.2.1, pw_ff1 A gx ac ix)) 30 (8 + ix)), .int (nI (pw_knw A w gx ix))] (pw_up (pw_sM B gx (ac.1, ac.2.1, ac.2.2.1, pw_ff1 A gx ac ix)) 41 ix (nI sx))
          rw [show (pw_sM B gx (ac.1, ac.2.1, ac.2.2.1, pw_ff1 A gx ac ix)) 30 (8 + ix) = nI (pw_g A 44 ix) from ((congrFun (pw_sM_o (by omega) (by omega) (by omega)) _).trans (mv_nw (B := pw_up B 26 33 (-1)) hl hok (i := ix) (by omega)))]
          rcases h116 : pw_sby gx (pw_k A) (pw_bh (pw_n A) sx) with _ | s116
          · show pw_V x m_X8_finds 3 Z 116 [(5, .int (-1)), (2, .int (nI ((pw_mvd A gx ix) + 0))), (0, .ref 26), (1, .int (nI w)), (3, .int (nI (pw_knw A w gx ix))), (4, .int (nI ix))] [.int (-1), .int (-1), .int (nI (pw_g A 44 ix)), .int (nI (pw_knw A w gx ix))] (pw_up (pw_sM B gx (ac.1, ac.2.1, ac.2.2.1, pw_ff1 A gx ac ix)) 41 ix (nI sx))
            refine pw_ic_ne (tgt := 123) (off := 7) (by decide +kernel) (by decide) (fun h => absurd rfl h) (fun _ => ?_)
            refine pw_blk (pc' := 120) [.iconst 0] (by decide +kernel) ?_
            show pw_V x m_X8_finds 3 Z 120 [(5, .int (-1)), (2, .int (nI ((pw_mvd A gx ix) + 0))), (0, .ref 26), (1, .int (nI w)), (3, .int (nI (pw_knw A w gx ix))), (4, .int (nI ix))] [.int (nI 0), .int (nI (pw_g A 44 ix)), .int (nI (pw_knw A w gx ix))] (pw_up (pw_sM B gx (ac.1, ac.2.1, ac.2.2.1, pw_ff1 A gx ac ix)) 41 ix (nI sx))
            refine pw_goto (tgt := 133) (off := 13) (by decide +kernel) (by decide) ?_
            refine pw_blk (pc' := 135) [.ior, .iload 1] (by decide +kernel) ?_
            show pw_V x m_X8_finds 3 Z 135 [(5, .int (-1)), (2, .int (nI ((pw_mvd A gx ix) + 0))), (0, .ref 26), (1, .int (nI w)), (3, .int (nI (pw_knw A w gx ix))), (4, .int (nI ix))] [.int (nI w), .int ((nI (pw_g A 44 ix)) ||| (nI 0)), .int (nI (pw_knw A w gx ix))] (pw_up (pw_sM B gx (ac.1, ac.2.1, ac.2.2.1, pw_ff1 A gx ac ix)) 41 ix (nI sx))
            rw [show (nI (pw_g A 44 ix)) ||| (nI 0) = nI ((pw_g A 44 ix) ||| 0) from fa_or _ _]
            refine pw_cS (vs := [.int (nI ((pw_g A 44 ix) ||| 0)), .int (nI w)]) (rest := [.int (nI (pw_knw A w gx ix))]) k_X8_has (c_mhasN ((pw_g A 44 ix) ||| 0) w (pw_up (pw_sM B gx (ac.1, ac.2.1, ac.2.2.1, pw_ff1 A gx ac ix)) 41 ix (nI sx)) (by first | omega | exact pw_g_lt | exact pw_ob_lt31 (by omega) | exact Nat.lt_trans (Nat.or_lt_two_pow (n := 4) b44 (pw_b44 hok (by omega))) (by decide) | exact Nat.lt_trans (Nat.or_lt_two_pow (n := 4) b44 (by decide)) (by decide)) (by first | omega | exact pw_g_lt)) l_8_86 rfl (by omega) (Nat.le_of_ble_eq_true rfl) (by decide +kernel) ?_
            rintro _ m1 ⟨rfl, e1⟩
            rw [e1]
            clear e1 m1
            show pw_V x m_X8_finds 3 Z 138 [(5, .int (-1)), (2, .int (nI ((pw_mvd A gx ix) + 0))), (0, .ref 26), (1, .int (nI w)), (3, .int (nI (pw_knw A w gx ix))), (4, .int (nI ix))] [.int (pw_b ((((pw_g A 44 ix) ||| 0)).testBit w)), .int (nI (pw_knw A w gx ix))] (pw_up (pw_sM B gx (ac.1, ac.2.1, ac.2.2.1, pw_ff1 A gx ac ix)) 41 ix (nI sx))
            refine pw_ib_eq (tgt := 145) (off := 7) (by decide +kernel) (by decide) (fun h138 => ?_) (fun h138 => ?_)
            · refine pw_blk (pc' := 151) [.iconst 0, .iadd, .istore 3, .iinc 4 1] (by decide +kernel) ?_
              show pw_V x m_X8_finds 3 Z 151 [(4, .int ((nI ix) + (nI 1))), (3, .int ((nI (pw_knw A w gx ix)) + (nI 0))), (5, .int (-1)), (2, .int (nI ((pw_mvd A gx ix) + 0))), (0, .ref 26), (1, .int (nI w))] [] (pw_up (pw_sM B gx (ac.1, ac.2.1, ac.2.2.1, pw_ff1 A gx ac ix)) 41 ix (nI sx))
              rw [show (nI ix) + (nI 1) = nI (ix + 1) from nI_add _ _]
              rw [show (nI (pw_knw A w gx ix)) + (nI 0) = nI ((pw_knw A w gx ix) + 0) from nI_add _ _]
              refine pw_goto (tgt := 7) (off := -144) (by decide +kernel) (by decide) ?_
              rw [show pw_up (pw_sM B gx (ac.1, ac.2.1, ac.2.2.1, pw_ff1 A gx ac ix)) 41 ix (nI sx) = pw_sM B gx (ac.1, ac.2.1, ac.2.2.1, pw_ff1 A gx ac (ix + 1)) from by rw [show nI sx = pw_o (gx ix) from by rw [hsx]; rfl, pw_sM_up1 (by omega)]; rw [pw_ff1_s (by rw [if_pos ⟨h22, h35⟩])]]
              rw [show ((pw_mvd A gx ix) + 0) = pw_mvd A gx (ix + 1) from by unfold pw_mvd; rw [pw_ct_, h22, hsx]; simp [h74]]
              rw [show ((pw_knw A w gx ix) + 0) = pw_knw A w gx (ix + 1) from by
                  have kb : pw_kb A w gx ix = false := by unfold pw_kb; rw [hsx, show (some sx).bind (fun s => pw_sby gx (pw_k A) (pw_bh (pw_n A) s)) = pw_sby gx (pw_k A) (pw_bh (pw_n A) sx) from rfl, h116]; exact h138
                  unfold pw_knw
                  rw [pw_ct_, h22, kb]
                  rfl]
              refine pw_lvp [4, 5, 3, 1, 0] rfl ?_
              exact ih (by omega)
            · refine pw_blk (pc' := 142) [.iconst 1] (by decide +kernel) ?_
              show pw_V x m_X8_finds 3 Z 142 [(5, .int (-1)), (2, .int (nI ((pw_mvd A gx ix) + 0))), (0, .ref 26), (1, .int (nI w)), (3, .int (nI (pw_knw A w gx ix))), (4, .int (nI ix))] [.int (nI 1), .int (nI (pw_knw A w gx ix))] (pw_up (pw_sM B gx (ac.1, ac.2.1, ac.2.2.1, pw_ff1 A gx ac ix)) 41 ix (nI sx))
              refine pw_goto (tgt := 146) (off := 4) (by decide +kernel) (by decide) ?_
              refine pw_blk (pc' := 151) [.iadd, .istore 3, .iinc 4 1] (by decide +kernel) ?_
              show pw_V x m_X8_finds 3 Z 151 [(4, .int ((nI ix) + (nI 1))), (3, .int ((nI (pw_knw A w gx ix)) + (nI 1))), (5, .int (-1)), (2, .int (nI ((pw_mvd A gx ix) + 0))), (0, .ref 26), (1, .int (nI w))] [] (pw_up (pw_sM B gx (ac.1, ac.2.1, ac.2.2.1, pw_ff1 A gx ac ix)) 41 ix (nI sx))
              rw [show (nI ix) + (nI 1) = nI (ix + 1) from nI_add _ _]
              rw [show (nI (pw_knw A w gx ix)) + (nI 1) = nI ((pw_knw A w gx ix) + 1) from nI_add _ _]
              refine pw_goto (tgt := 7) (off := -144) (by decide +kernel) (by decide) ?_
              rw [show pw_up (pw_sM B gx (ac.1, ac.2.1, ac.2.2.1, pw_ff1 A gx ac ix)) 41 ix (nI sx) = pw_sM B gx (ac.1, ac.2.1, ac.2.2.1, pw_ff1 A gx ac (ix + 1)) from by rw [show nI sx = pw_o (gx ix) from by rw [hsx]; rfl, pw_sM_up1 (by omega)]; rw [pw_ff1_s (by rw [if_pos ⟨h22, h35⟩])]]
              rw [show ((pw_mvd A gx ix) + 0) = pw_mvd A gx (ix + 1) from by unfold pw_mvd; rw [pw_ct_, h22, hsx]; simp [h74]]
              rw [show ((pw_knw A w gx ix) + 1) = pw_knw A w gx (ix + 1) from by
                  have kb : pw_kb A w gx ix = true := by unfold pw_kb; rw [hsx, show (some sx).bind (fun s => pw_sby gx (pw_k A) (pw_bh (pw_n A) s)) = pw_sby gx (pw_k A) (pw_bh (pw_n A) sx) from rfl, h116]; exact h138
                  unfold pw_knw
                  rw [pw_ct_, h22, kb]
                  rfl]
              refine pw_lvp [4, 5, 3, 1, 0] rfl ?_
              exact ih (by omega)
          · show pw_V x m_X8_finds 3 Z 116 [(5, .int (nI s116)), (2, .int (nI ((pw_mvd A gx ix) + 0))), (0, .ref 26), (1, .int (nI w)), (3, .int (nI (pw_knw A w gx ix))), (4, .int (nI ix))] [.int (-1), .int (nI s116), .int (nI (pw_g A 44 ix)), .int (nI (pw_knw A w gx ix))] (pw_up (pw_sM B gx (ac.1, ac.2.1, ac.2.2.1, pw_ff1 A gx ac ix)) 41 ix (nI sx))
            have b116 := pw_sby_6 bk h116
            refine pw_ic_ne (tgt := 123) (off := 7) (by decide +kernel) (by decide) (fun _ => ?_) (fun h => absurd h (pw_n1 (by first | omega | exact pw_g_lt)))
            refine pw_blk (pc' := 135) [.aload 0, .getfield 808, .iconst (8), .iload 5, .iadd, .iaload, .ior, .iload 1] (by decide +kernel) ?_
            refine ⟨(8 + s116), (show (nI 8) + (nI s116) = nI (8 + s116) from by rw [show (nI 8) + (nI s116) = nI (8 + s116) from nI_add _ _]), by first | omega | exact pw_g_lt, ?_⟩
            show pw_V x m_X8_finds 3 Z 135 [(5, .int (nI s116)), (2, .int (nI ((pw_mvd A gx ix) + 0))), (0, .ref 26), (1, .int (nI w)), (3, .int (nI (pw_knw A w gx ix))), (4, .int (nI ix))] [.int (nI w), .int ((nI (pw_g A 44 ix)) ||| ((pw_sM B gx (ac.1, ac.2.1, ac.2.2.1, pw_ff1 A gx ac ix)) 30 (8 + s116))), .int (nI (pw_knw A w gx ix))] (pw_up (pw_sM B gx (ac.1, ac.2.1, ac.2.2.1, pw_ff1 A gx ac ix)) 41 ix (nI sx))
            rw [show (pw_sM B gx (ac.1, ac.2.1, ac.2.2.1, pw_ff1 A gx ac ix)) 30 (8 + s116) = nI (pw_g A 44 s116) from ((congrFun (pw_sM_o (by omega) (by omega) (by omega)) _).trans (mv_nw (B := pw_up B 26 33 (-1)) hl hok (i := s116) (by omega)))]
            rw [show (nI (pw_g A 44 ix)) ||| (nI (pw_g A 44 s116)) = nI ((pw_g A 44 ix) ||| (pw_g A 44 s116)) from fa_or _ _]
            refine pw_cS (vs := [.int (nI ((pw_g A 44 ix) ||| (pw_g A 44 s116))), .int (nI w)]) (rest := [.int (nI (pw_knw A w gx ix))]) k_X8_has (c_mhasN ((pw_g A 44 ix) ||| (pw_g A 44 s116)) w (pw_up (pw_sM B gx (ac.1, ac.2.1, ac.2.2.1, pw_ff1 A gx ac ix)) 41 ix (nI sx)) (by first | omega | exact pw_g_lt | exact pw_ob_lt31 (by omega) | exact Nat.lt_trans (Nat.or_lt_two_pow (n := 4) b44 (pw_b44 hok (by omega))) (by decide) | exact Nat.lt_trans (Nat.or_lt_two_pow (n := 4) b44 (by decide)) (by decide)) (by first | omega | exact pw_g_lt)) l_8_86 rfl (by omega) (Nat.le_of_ble_eq_true rfl) (by decide +kernel) ?_
            rintro _ m1 ⟨rfl, e1⟩
            rw [e1]
            clear e1 m1
            show pw_V x m_X8_finds 3 Z 138 [(5, .int (nI s116)), (2, .int (nI ((pw_mvd A gx ix) + 0))), (0, .ref 26), (1, .int (nI w)), (3, .int (nI (pw_knw A w gx ix))), (4, .int (nI ix))] [.int (pw_b ((((pw_g A 44 ix) ||| (pw_g A 44 s116))).testBit w)), .int (nI (pw_knw A w gx ix))] (pw_up (pw_sM B gx (ac.1, ac.2.1, ac.2.2.1, pw_ff1 A gx ac ix)) 41 ix (nI sx))
            refine pw_ib_eq (tgt := 145) (off := 7) (by decide +kernel) (by decide) (fun h138 => ?_) (fun h138 => ?_)
            · refine pw_blk (pc' := 151) [.iconst 0, .iadd, .istore 3, .iinc 4 1] (by decide +kernel) ?_
              show pw_V x m_X8_finds 3 Z 151 [(4, .int ((nI ix) + (nI 1))), (3, .int ((nI (pw_knw A w gx ix)) + (nI 0))), (5, .int (nI s116)), (2, .int (nI ((pw_mvd A gx ix) + 0))), (0, .ref 26), (1, .int (nI w))] [] (pw_up (pw_sM B gx (ac.1, ac.2.1, ac.2.2.1, pw_ff1 A gx ac ix)) 41 ix (nI sx))
              rw [show (nI ix) + (nI 1) = nI (ix + 1) from nI_add _ _]
              rw [show (nI (pw_knw A w gx ix)) + (nI 0) = nI ((pw_knw A w gx ix) + 0) from nI_add _ _]
              refine pw_goto (tgt := 7) (off := -144) (by decide +kernel) (by decide) ?_
              rw [show pw_up (pw_sM B gx (ac.1, ac.2.1, ac.2.2.1, pw_ff1 A gx ac ix)) 41 ix (nI sx) = pw_sM B gx (ac.1, ac.2.1, ac.2.2.1, pw_ff1 A gx ac (ix + 1)) from by rw [show nI sx = pw_o (gx ix) from by rw [hsx]; rfl, pw_sM_up1 (by omega)]; rw [pw_ff1_s (by rw [if_pos ⟨h22, h35⟩])]]
              rw [show ((pw_mvd A gx ix) + 0) = pw_mvd A gx (ix + 1) from by unfold pw_mvd; rw [pw_ct_, h22, hsx]; simp [h74]]
              rw [show ((pw_knw A w gx ix) + 0) = pw_knw A w gx (ix + 1) from by
                  have kb : pw_kb A w gx ix = false := by unfold pw_kb; rw [hsx, show (some sx).bind (fun s => pw_sby gx (pw_k A) (pw_bh (pw_n A) s)) = pw_sby gx (pw_k A) (pw_bh (pw_n A) sx) from rfl, h116]; exact h138
                  unfold pw_knw
                  rw [pw_ct_, h22, kb]
                  rfl]
              refine pw_lvp [4, 5, 3, 1, 0] rfl ?_
              exact ih (by omega)
            · refine pw_blk (pc' := 142) [.iconst 1] (by decide +kernel) ?_
              show pw_V x m_X8_finds 3 Z 142 [(5, .int (nI s116)), (2, .int (nI ((pw_mvd A gx ix) + 0))), (0, .ref 26), (1, .int (nI w)), (3, .int (nI (pw_knw A w gx ix))), (4, .int (nI ix))] [.int (nI 1), .int (nI (pw_knw A w gx ix))] (pw_up (pw_sM B gx (ac.1, ac.2.1, ac.2.2.1, pw_ff1 A gx ac ix)) 41 ix (nI sx))
              refine pw_goto (tgt := 146) (off := 4) (by decide +kernel) (by decide) ?_
              refine pw_blk (pc' := 151) [.iadd, .istore 3, .iinc 4 1] (by decide +kernel) ?_
              show pw_V x m_X8_finds 3 Z 151 [(4, .int ((nI ix) + (nI 1))), (3, .int ((nI (pw_knw A w gx ix)) + (nI 1))), (5, .int (nI s116)), (2, .int (nI ((pw_mvd A gx ix) + 0))), (0, .ref 26), (1, .int (nI w))] [] (pw_up (pw_sM B gx (ac.1, ac.2.1, ac.2.2.1, pw_ff1 A gx ac ix)) 41 ix (nI sx))
              rw [show (nI ix) + (nI 1) = nI (ix + 1) from nI_add _ _]
              rw [show (nI (pw_knw A w gx ix)) + (nI 1) = nI ((pw_knw A w gx ix) + 1) from nI_add _ _]
              refine pw_goto (tgt := 7) (off := -144) (by decide +kernel) (by decide) ?_
              rw [show pw_up (pw_sM B gx (ac.1, ac.2.1, ac.2.2.1, pw_ff1 A gx ac ix)) 41 ix (nI sx) = pw_sM B gx (ac.1, ac.2.1, ac.2.2.1, pw_ff1 A gx ac (ix + 1)) from by rw [show nI sx = pw_o (gx ix) from by rw [hsx]; rfl, pw_sM_up1 (by omega)]; rw [pw_ff1_s (by rw [if_pos ⟨h22, h35⟩])]]
              rw [show ((pw_mvd A gx ix) + 0) = pw_mvd A gx (ix + 1) from by unfold pw_mvd; rw [pw_ct_, h22, hsx]; simp [h74]]
              rw [show ((pw_knw A w gx ix) + 1) = pw_knw A w gx (ix + 1) from by
                  have kb : pw_kb A w gx ix = true := by unfold pw_kb; rw [hsx, show (some sx).bind (fun s => pw_sby gx (pw_k A) (pw_bh (pw_n A) s)) = pw_sby gx (pw_k A) (pw_bh (pw_n A) sx) from rfl, h116]; exact h138
                  unfold pw_knw
                  rw [pw_ct_, h22, kb]
                  rfl]
              refine pw_lvp [4, 5, 3, 1, 0] rfl ?_
              exact ih (by omega)
