def pw_n4 (m : pw_m) (a p t v : Int32) : pw_m := fun c => if c = 26 then (fun j => if j = 17 then a else if j = 18 then p else if j = 19 then t else if j = 20 then v else m 26 j) else m c
theorem pw_n4_a {m : pw_m} {a p t v : Int32} : pw_up (pw_up (pw_up (pw_up m 26 17 a) 26 18 p) 26 20 v) 26 19 t = pw_n4 m a p t v := by
  funext c
  by_cases h : c = 26
  · subst h
    rw [pw_up_eq, pw_up_eq, pw_up_eq, pw_up_eq]
    funext j
    unfold upd pw_n4
    rw [if_pos rfl]
    by_cases q1 : j = 17
    · subst q1; rfl
    · by_cases q2 : j = 18
      · subst q2; rfl
      · by_cases q3 : j = 19
        · subst q3; rfl
        · by_cases q4 : j = 20
          · subst q4; rfl
          · simp only [q1, q2, q3, q4, if_false]
  · rw [pw_up_ne h, pw_up_ne h, pw_up_ne h, pw_up_ne h]; unfold pw_n4; rw [if_neg h]
theorem pw_n4_17 {m : pw_m} {a p t v a' : Int32} : pw_up (pw_n4 m a p t v) 26 17 a' = pw_n4 m a' p t v := by
  funext c
  by_cases h : c = 26
  · subst h
    rw [pw_up_eq]
    funext j
    unfold upd pw_n4
    rw [if_pos rfl, if_pos rfl]
    by_cases q1 : j = 17
    · subst q1; rfl
    · simp only [q1, if_false]
  · rw [pw_up_ne h]; unfold pw_n4; rw [if_neg h, if_neg h]
theorem pw_n4_20 {m : pw_m} {a p t v v' : Int32} : pw_up (pw_n4 m a p t v) 26 20 v' = pw_n4 m a p t v' := by
  funext c
  by_cases h : c = 26
  · subst h
    rw [pw_up_eq]
    funext j
    unfold upd pw_n4
    rw [if_pos rfl, if_pos rfl]
    by_cases q4 : j = 20
    · subst q4; rfl
    · simp only [q4, if_false]
  · rw [pw_up_ne h]; unfold pw_n4; rw [if_neg h, if_neg h]
theorem pw_up_id {m : pw_m} {c k : Nat} {v : Int32} (h : m c k = v) : pw_up m c k v = m := by
  funext d
  by_cases q : d = c
  · subst q
    rw [pw_up_eq]
    funext j
    unfold upd
    by_cases q2 : j = k
    · rw [if_pos q2, q2, h]
    · rw [if_neg q2]
  · rw [pw_up_ne q]
theorem pw_up_up {m : pw_m} {c k : Nat} {v u : Int32} : pw_up (pw_up m c k v) c k u = pw_up m c k u := by
  funext d
  by_cases q : d = c
  · subst q
    rw [pw_up_eq, pw_up_eq, pw_up_eq]
    funext j
    unfold upd
    by_cases q2 : j = k
    · rw [if_pos q2, if_pos q2]
    · rw [if_neg q2, if_neg q2, if_neg q2]
  · rw [pw_up_ne q, pw_up_ne q, pw_up_ne q]
/-- the token that stands in the model -/
def TK (A m : pw_m) (e : Nat) : Prop := m 26 17 = nI (pw_tE A e) ∧ m 26 18 = nI (pw_tB A e) ∧ m 26 19 = nI (pw_mT A e) ∧ m 26 20 = pw_mV A e
def pw_tok (A m : pw_m) (e : Nat) : pw_m := pw_n4 m (nI (pw_tE A e)) (nI (pw_tB A e)) (nI (pw_mT A e)) (pw_mV A e)
theorem pw_tok_TK {A m : pw_m} {e : Nat} : TK A (pw_tok A m e) e := ⟨rfl, rfl, rfl, rfl⟩
theorem pw_tok_o {A m : pw_m} {e c : Nat} (h : c ≠ 26) : pw_tok A m e c = m c := by unfold pw_tok pw_n4; rw [if_neg h]
theorem pw_tok_6 {A m : pw_m} {e j : Nat} (h : j < 17 ∨ 20 < j) : pw_tok A m e 26 j = m 26 j := by
  unfold pw_tok pw_n4
  rw [if_pos rfl, if_neg (by omega), if_neg (by omega), if_neg (by omega), if_neg (by omega)]
theorem MX.t {A m : pw_m} {e : Nat} (h : MX A m) : MX A (pw_tok A m e) := h.f (pw_tok_6 (by omega)) (pw_tok_o (by omega))
theorem MX.u {A m : pw_m} {c k : Nat} {v : Int32} (h : MX A m) (hc : c ≠ 35 ∧ ¬ (c = 26 ∧ k = 16)) : MX A (pw_up m c k v) := by
  refine h.f ?_ (pw_up_ne (fun z => hc.1 z.symm))
  by_cases q : c = 26
  · subst q
    rw [pw_up_eq]
    unfold upd
    rw [if_neg (fun z => hc.2 ⟨rfl, z.symm⟩)]
  · rw [pw_up_ne (fun z => q z.symm)]

set_option maxHeartbeats 4000000 in
set_option maxRecDepth 100000 in
theorem c_mlet {A : pw_m} (mm : pw_m) (hx : MX A mm) (k : Nat) (hk : k < 2 ^ 31) (b21 : pw_g A 2 1 ≤ 160) : pw_Ct 0 yX8_letterAt m_X8_letterAt [.ref 26, .int (nI k)] mm (fun r m' => r = some (.int (pw_lt_ A k)) ∧ m' = mm) := by
  refine pw_ct (by decide +kernel) rfl (Nat.le_of_ble_eq_true rfl) (fun x => ?_)
  generalize hZ : pw_Z x _ = Z
  show pw_V x m_X8_letterAt 0 Z 0 [(0, .ref 26), (1, .int (nI k))] [] mm
  refine pw_blk (pc' := 5) [.iload 1, .aload 0, .getfield 816] (by decide +kernel) ?_
  show pw_V x m_X8_letterAt 0 Z 5 [(0, .ref 26), (1, .int (nI k))] [.int (mm 26 16), .int (nI k)] mm
  rw [show mm 26 16 = nI (pw_g A 2 1) from hx.1]
  refine pw_in_ge (tgt := 17) (off := 12) (by omega) (by omega) (by decide +kernel) (by decide) (fun h5 => ?_) (fun h5 => ?_)
  · refine pw_blk (pc' := 18) [.iconst (-1)] (by decide +kernel) ?_
    show pw_V x m_X8_letterAt 0 Z 18 [(0, .ref 26), (1, .int (nI k))] [.int (-1)] mm
    rw [← hZ]
    refine pw_ri (by decide +kernel) ?_
    refine ⟨?_, rfl⟩
    rw [pw_ltm (by omega)]
  · refine pw_blk (pc' := 14) [.aload 0, .getfield 815, .iload 1, .iaload] (by decide +kernel) ?_
    refine ⟨k, rfl, by omega, ?_⟩
    show pw_V x m_X8_letterAt 0 Z 14 [(0, .ref 26), (1, .int (nI k))] [.int (mm 35 k)] mm
    rw [show mm 35 k = A 3 k from hx.2 k (by omega)]
    refine pw_goto (tgt := 18) (off := 4) (by decide +kernel) (by decide) ?_
    rw [← hZ]
    refine pw_ri (by decide +kernel) ?_
    refine ⟨?_, rfl⟩
    rw [pw_ltp (by omega)]

set_option maxHeartbeats 4000000 in
set_option maxRecDepth 100000 in
theorem c_small0 (c : Int32) (mm : pw_m) : pw_Ct 1 yX8_isSmall m_X8_isSmall [.int c] mm (fun r m' => r = some (.int (pw_b (pw_in c (nI 97) (nI 122)))) ∧ m' = mm) := by
  refine pw_ct (by decide +kernel) rfl (Nat.le_of_ble_eq_true rfl) (fun x => ?_)
  generalize hZ : pw_Z x _ = Z
  show pw_V x m_X8_isSmall 1 Z 0 [(0, .int c)] [] mm
  refine pw_blk (pc' := 5) [.iload 0, .iconst (97), .iconst (122)] (by decide +kernel) ?_
  show pw_V x m_X8_isSmall 1 Z 5 [(0, .int c)] [.int (nI 122), .int (nI 97), .int c] mm
  refine pw_cS (vs := [.int c, .int (nI 97), .int (nI 122)]) (rest := []) k_X8_in (c_mIn c (nI 97) (nI 122) mm) l_8_78 rfl (by omega) (Nat.le_of_ble_eq_true rfl) (by decide +kernel) ?_
  rintro _ m1 ⟨rfl, e1⟩
  rw [e1]
  clear e1 m1
  show pw_V x m_X8_isSmall 1 Z 8 [(0, .int c)] [.int (pw_b (pw_in c (nI 97) (nI 122)))] mm
  rw [← hZ]
  refine pw_rz (by decide +kernel) (pw_b01 _) ?_
  exact ⟨rfl, rfl⟩

set_option maxHeartbeats 4000000 in
set_option maxRecDepth 100000 in
theorem c_fig0 (c : Int32) (mm : pw_m) : pw_Ct 1 yX8_isFigure m_X8_isFigure [.int c] mm (fun r m' => r = some (.int (pw_b (pw_in c (nI 48) (nI 57)))) ∧ m' = mm) := by
  refine pw_ct (by decide +kernel) rfl (Nat.le_of_ble_eq_true rfl) (fun x => ?_)
  generalize hZ : pw_Z x _ = Z
  show pw_V x m_X8_isFigure 1 Z 0 [(0, .int c)] [] mm
  refine pw_blk (pc' := 5) [.iload 0, .iconst (48), .iconst (57)] (by decide +kernel) ?_
  show pw_V x m_X8_isFigure 1 Z 5 [(0, .int c)] [.int (nI 57), .int (nI 48), .int c] mm
  refine pw_cS (vs := [.int c, .int (nI 48), .int (nI 57)]) (rest := []) k_X8_in (c_mIn c (nI 48) (nI 57) mm) l_8_78 rfl (by omega) (Nat.le_of_ble_eq_true rfl) (by decide +kernel) ?_
  rintro _ m1 ⟨rfl, e1⟩
  rw [e1]
  clear e1 m1
  show pw_V x m_X8_isFigure 1 Z 8 [(0, .int c)] [.int (pw_b (pw_in c (nI 48) (nI 57)))] mm
  rw [← hZ]
  refine pw_rz (by decide +kernel) (pw_b01 _) ?_
  exact ⟨rfl, rfl⟩

theorem c_small (c : Int32) (mm : pw_m) : pw_Ct 1 yX8_isSmall m_X8_isSmall [.int c] mm (fun r m' => r = some (.int (pw_b (decide (F_tk c = nI 1)))) ∧ m' = mm) := by
  rw [← pw_small]
  exact c_small0 c mm
theorem c_fig (c : Int32) (mm : pw_m) : pw_Ct 1 yX8_isFigure m_X8_isFigure [.int c] mm (fun r m' => r = some (.int (pw_b (decide (F_tk c = nI 2)))) ∧ m' = mm) := by
  rw [← pw_figs]
  exact c_fig0 c mm

theorem pw_lt_in {A : pw_m} {k : Nat} (h : ¬ pw_lt_ A k = -1) : k < pw_g A 2 1 := by
  rcases Nat.lt_or_ge k (pw_g A 2 1) with q | q
  · exact q
  · exact absurd (pw_ltm (by omega)) h

set_option maxHeartbeats 4000000 in
set_option maxRecDepth 100000 in
theorem c_mnext {A : pw_m} (mm : pw_m) (hx : MX A mm) (hok : pw_ok A) (e : Nat) (he : mm 26 17 = nI e) (he2 : e ≤ pw_g A 2 1) : pw_Ct 2 yX8_next m_X8_next [.ref 26] mm (fun r m' => r = none ∧ m' = pw_tok A mm e) := by
  refine pw_ct (by decide +kernel) rfl (Nat.le_of_ble_eq_true rfl) (fun x => ?_)
  generalize hZ : pw_Z x _ = Z
  have b21 := pw_b21 hok
  show pw_V x m_X8_next 2 Z 0 [(0, .ref 26)] [] mm
  rw [← pw_up_id he]
  suffices lo : ∀ ix : Nat, ix ≤ pw_g A 2 1 → pw_sk A e = pw_sk A ix → pw_V x m_X8_next 2 Z 0 [(0, .ref 26)] [] (pw_up mm 26 17 (nI ix)) from lo e he2 rfl
  refine pw_dn (pw_g A 2 1) (fun ix hix ih hsk => ?_)
  refine pw_blk (pc' := 5) [.aload 0, .aload 0, .getfield 817] (by decide +kernel) ?_
  show pw_V x m_X8_next 2 Z 5 [(0, .ref 26)] [.int (nI ix), .ref 26] (pw_up mm 26 17 (nI ix))
  refine pw_cV (vs := [.int (nI ix)]) (rest := []) k_X8_letterAt (c_mlet (A := A) (pw_up mm 26 17 (nI ix)) (MX.u hx (by decide)) ix (by omega) b21) l_8_96 rfl rfl rfl rfl (by omega) (Nat.le_of_ble_eq_true rfl) (by decide +kernel) ?_
  rintro _ m1 ⟨rfl, e1⟩
  rw [e1]
  clear e1 m1
  show pw_V x m_X8_next 2 Z 8 [(0, .ref 26)] [.int (pw_lt_ A ix)] (pw_up mm 26 17 (nI ix))
  refine pw_blk (pc' := 10) [.iconst (32)] (by decide +kernel) ?_
  show pw_V x m_X8_next 2 Z 10 [(0, .ref 26)] [.int (nI 32), .int (pw_lt_ A ix)] (pw_up mm 26 17 (nI ix))
  refine pw_ic_ne (tgt := 26) (off := 16) (by decide +kernel) (by decide) (fun h10 => ?_) (fun h10 => ?_)
  · have hb : pw_tB A e = ix := by
      show pw_sk A e = ix
      rw [hsk]
      by_cases hl : ix < pw_g A 2 1
      · exact pw_sk_n hl (fun z => h10 (by rw [pw_ltp hl]; exact z))
      · exact pw_sk_e hl
    refine pw_blk (pc' := 39) [.aload 0, .aload 0, .getfield 817, .putfield 818, .aload 0, .aload 0, .getfield 817] (by decide +kernel) ?_
    show pw_V x m_X8_next 2 Z 39 [(0, .ref 26)] [.int (nI ix), .ref 26] (pw_up (pw_up mm 26 17 (nI ix)) 26 18 (nI ix))
    refine pw_cV (vs := [.int (nI ix)]) (rest := []) k_X8_letterAt (c_mlet (A := A) (pw_up (pw_up mm 26 17 (nI ix)) 26 18 (nI ix)) (MX.u (MX.u hx (by decide)) (by decide)) ix (by omega) b21) l_8_96 rfl rfl rfl rfl (by omega) (Nat.le_of_ble_eq_true rfl) (by decide +kernel) ?_
    rintro _ m1 ⟨rfl, e1⟩
    rw [e1]
    clear e1 m1
    show pw_V x m_X8_next 2 Z 42 [(0, .ref 26)] [.int (pw_lt_ A ix)] (pw_up (pw_up mm 26 17 (nI ix)) 26 18 (nI ix))
    refine pw_blk (pc' := 49) [.istore 1, .aload 0, .iconst 0, .putfield 820, .iload 1] (by decide +kernel) ?_
    show pw_V x m_X8_next 2 Z 49 [(1, .int (pw_lt_ A ix)), (0, .ref 26)] [.int (pw_lt_ A ix)] (pw_up (pw_up (pw_up mm 26 17 (nI ix)) 26 18 (nI ix)) 26 20 (nI 0))
    refine pw_if_ge (tgt := 60) (off := 11) (by decide +kernel) (by decide) (fun h49 => ?_) (fun h49 => ?_)
    · have hl : ix < pw_g A 2 1 := pw_lt_in (fun z => by rw [z] at h49; exact absurd h49 (by decide))
      have hc := pw_ltp hl
      refine pw_blk (pc' := 61) [.iload 1] (by decide +kernel) ?_
      show pw_V x m_X8_next 2 Z 61 [(1, .int (pw_lt_ A ix)), (0, .ref 26)] [.int (pw_lt_ A ix)] (pw_up (pw_up (pw_up mm 26 17 (nI ix)) 26 18 (nI ix)) 26 20 (nI 0))
      refine pw_cS (vs := [.int (pw_lt_ A ix)]) (rest := []) k_X8_isSmall (c_small (pw_lt_ A ix) (pw_up (pw_up (pw_up mm 26 17 (nI ix)) 26 18 (nI ix)) 26 20 (nI 0))) l_8_109 rfl (by omega) (Nat.le_of_ble_eq_true rfl) (by decide +kernel) ?_
      rintro _ m1 ⟨rfl, e1⟩
      rw [e1]
      clear e1 m1
      show pw_V x m_X8_next 2 Z 64 [(1, .int (pw_lt_ A ix)), (0, .ref 26)] [.int (pw_b (decide (F_tk (pw_lt_ A ix) = nI 1)))] (pw_up (pw_up (pw_up mm 26 17 (nI ix)) 26 18 (nI ix)) 26 20 (nI 0))
      refine pw_ib_eq (tgt := 99) (off := 35) (by decide +kernel) (by decide) (fun h64 => ?_) (fun h64 => ?_)
      · refine pw_blk (pc' := 100) [.iload 1] (by decide +kernel) ?_
        show pw_V x m_X8_next 2 Z 100 [(1, .int (pw_lt_ A ix)), (0, .ref 26)] [.int (pw_lt_ A ix)] (pw_up (pw_up (pw_up mm 26 17 (nI ix)) 26 18 (nI ix)) 26 20 (nI 0))
        refine pw_cS (vs := [.int (pw_lt_ A ix)]) (rest := []) k_X8_isFigure (c_fig (pw_lt_ A ix) (pw_up (pw_up (pw_up mm 26 17 (nI ix)) 26 18 (nI ix)) 26 20 (nI 0))) l_8_112 rfl (by omega) (Nat.le_of_ble_eq_true rfl) (by decide +kernel) ?_
        rintro _ m1 ⟨rfl, e1⟩
        rw [e1]
        clear e1 m1
        show pw_V x m_X8_next 2 Z 103 [(1, .int (pw_lt_ A ix)), (0, .ref 26)] [.int (pw_b (decide (F_tk (pw_lt_ A ix) = nI 2)))] (pw_up (pw_up (pw_up mm 26 17 (nI ix)) 26 18 (nI ix)) 26 20 (nI 0))
        refine pw_ib_eq (tgt := 179) (off := 76) (by decide +kernel) (by decide) (fun h103 => ?_) (fun h103 => ?_)
        · refine pw_blk (pc' := 183) [.aload 0, .iload 1, .iconst (59)] (by decide +kernel) ?_
          show pw_V x m_X8_next 2 Z 183 [(1, .int (pw_lt_ A ix)), (0, .ref 26)] [.int (nI 59), .int (pw_lt_ A ix), .ref 26] (pw_up (pw_up (pw_up mm 26 17 (nI ix)) 26 18 (nI ix)) 26 20 (nI 0))
          refine pw_ic_ne (tgt := 190) (off := 7) (by decide +kernel) (by decide) (fun h183 => ?_) (fun h183 => ?_)
          · refine pw_blk (pc' := 204) [.iconst 4, .putfield 819, .aload 0, .dup, .getfield 817, .iconst 1, .iadd, .putfield 817] (by decide +kernel) ?_
            show pw_V x m_X8_next 2 Z 204 [(1, .int (pw_lt_ A ix)), (0, .ref 26)] [] (pw_up (pw_up (pw_up (pw_up (pw_up mm 26 17 (nI ix)) 26 18 (nI ix)) 26 20 (nI 0)) 26 19 (nI 4)) 26 17 ((nI ix) + (nI 1)))
            rw [show (nI ix) + (nI 1) = nI (ix + 1) from nI_add _ _]
            rw [← hZ]
            refine pw_rv (by decide +kernel) ?_
            have n1 := of_decide_eq_false h64
            have n2 := of_decide_eq_false h103
            rw [hc] at n1 n2
            have t3 : F_tk (A 3 ix) = nI 3 := by rcases F_tk_123 (A 3 ix) with q | q | q; exact absurd q n1; exact absurd q n2; exact q
            have hE : pw_tE A e = ix + 1 := by unfold pw_tE; rw [show pw_sk A e = ix from hb, if_pos hl]; exact pw_rn_3 t3
            have hM : pw_mT A e = 4 := by unfold pw_mT; rw [hb, if_pos hl, if_neg n1, if_neg n2, if_neg (by rw [← hc]; exact h183)]
            have hV : pw_mV A e = nI 0 := by unfold pw_mV; rw [hM]; rfl
            refine ⟨rfl, ?_⟩
            unfold pw_tok
            rw [hE, hb, hM, hV, pw_n4_a, pw_n4_17]
          · refine pw_blk (pc' := 187) [.iconst 3] (by decide +kernel) ?_
            show pw_V x m_X8_next 2 Z 187 [(1, .int (pw_lt_ A ix)), (0, .ref 26)] [.int (nI 3), .ref 26] (pw_up (pw_up (pw_up mm 26 17 (nI ix)) 26 18 (nI ix)) 26 20 (nI 0))
            refine pw_goto (tgt := 191) (off := 4) (by decide +kernel) (by decide) ?_
            refine pw_blk (pc' := 204) [.putfield 819, .aload 0, .dup, .getfield 817, .iconst 1, .iadd, .putfield 817] (by decide +kernel) ?_
            show pw_V x m_X8_next 2 Z 204 [(1, .int (pw_lt_ A ix)), (0, .ref 26)] [] (pw_up (pw_up (pw_up (pw_up (pw_up mm 26 17 (nI ix)) 26 18 (nI ix)) 26 20 (nI 0)) 26 19 (nI 3)) 26 17 ((nI ix) + (nI 1)))
            rw [show (nI ix) + (nI 1) = nI (ix + 1) from nI_add _ _]
            rw [← hZ]
            refine pw_rv (by decide +kernel) ?_
            have n1 := of_decide_eq_false h64
            have n2 := of_decide_eq_false h103
            rw [hc] at n1 n2
            have t3 : F_tk (A 3 ix) = nI 3 := by rcases F_tk_123 (A 3 ix) with q | q | q; exact absurd q n1; exact absurd q n2; exact q
            have hE : pw_tE A e = ix + 1 := by unfold pw_tE; rw [show pw_sk A e = ix from hb, if_pos hl]; exact pw_rn_3 t3
            have hM : pw_mT A e = 3 := by unfold pw_mT; rw [hb, if_pos hl, if_neg n1, if_neg n2, if_pos (by rw [← hc]; exact h183)]
            have hV : pw_mV A e = nI 0 := by unfold pw_mV; rw [hM]; rfl
            refine ⟨rfl, ?_⟩
            unfold pw_tok
            rw [hE, hb, hM, hV, pw_n4_a, pw_n4_17]
        · refine pw_blk (pc' := 111) [.aload 0, .iconst 2, .putfield 819] (by decide +kernel) ?_
          show pw_V x m_X8_next 2 Z 111 [(1, .int (pw_lt_ A ix)), (0, .ref 26)] [] (pw_up (pw_up (pw_up (pw_up mm 26 17 (nI ix)) 26 18 (nI ix)) 26 20 (nI 0)) 26 19 (nI 2))
          have ht : F_tk (A 3 ix) = nI 2 := by have z := of_decide_eq_true h103; rw [hc] at z; exact z
          have hE : pw_tE A e = pw_rn A (nI 2) ix := by unfold pw_tE; rw [show pw_sk A e = ix from hb, if_pos hl, ht]; exact (pw_rn_s hl (by decide) ht).symm
          have hM : pw_mT A e = 2 := pw_mT2.mpr (by unfold pw_tT; rw [show pw_sk A e = ix from hb, if_pos hl]; exact ht)
          rw [pw_n4_a, show nI 0 = pw_vl A ix (ix - ix) from by rw [Nat.sub_self]; rfl]
          refine pw_lvp [1] rfl ?_
          suffices l3 : ∀ iy : Nat, iy ≤ pw_g A 2 1 → ix ≤ iy → pw_tE A e = pw_rn A (nI 2) iy → pw_V x m_X8_next 2 Z 111 [(0, .ref 26)] [] (pw_n4 mm (nI iy) (nI ix) (nI 2) (pw_vl A ix (iy - ix))) from l3 ix hix (Nat.le_refl _) hE
          refine pw_dn (pw_g A 2 1) (fun iy hiy jh hxy hrn => ?_)
          refine pw_blk (pc' := 116) [.aload 0, .aload 0, .getfield 817] (by decide +kernel) ?_
          show pw_V x m_X8_next 2 Z 116 [(0, .ref 26)] [.int ((pw_n4 mm (nI iy) (nI ix) (nI 2) (pw_vl A ix (iy - ix))) 26 17), .ref 26] (pw_n4 mm (nI iy) (nI ix) (nI 2) (pw_vl A ix (iy - ix)))
          rw [show (pw_n4 mm (nI iy) (nI ix) (nI 2) (pw_vl A ix (iy - ix))) 26 17 = nI iy from rfl]
          refine pw_cV (vs := [.int (nI iy)]) (rest := []) k_X8_letterAt (c_mlet (A := A) (pw_n4 mm (nI iy) (nI ix) (nI 2) (pw_vl A ix (iy - ix))) (MX.f hx rfl rfl) iy (by omega) b21) l_8_96 rfl rfl rfl rfl (by omega) (Nat.le_of_ble_eq_true rfl) (by decide +kernel) ?_
          rintro _ m1 ⟨rfl, e1⟩
          rw [e1]
          clear e1 m1
          show pw_V x m_X8_next 2 Z 119 [(0, .ref 26)] [.int (pw_lt_ A iy)] (pw_n4 mm (nI iy) (nI ix) (nI 2) (pw_vl A ix (iy - ix)))
          refine pw_cS (vs := [.int (pw_lt_ A iy)]) (rest := []) k_X8_isFigure (c_fig (pw_lt_ A iy) (pw_n4 mm (nI iy) (nI ix) (nI 2) (pw_vl A ix (iy - ix)))) l_8_112 rfl (by omega) (Nat.le_of_ble_eq_true rfl) (by decide +kernel) ?_
          rintro _ m1 ⟨rfl, e1⟩
          rw [e1]
          clear e1 m1
          show pw_V x m_X8_next 2 Z 122 [(0, .ref 26)] [.int (pw_b (decide (F_tk (pw_lt_ A iy) = nI 2)))] (pw_n4 mm (nI iy) (nI ix) (nI 2) (pw_vl A ix (iy - ix)))
          refine pw_ib_eq (tgt := 204) (off := 82) (by decide +kernel) (by decide) (fun h122 => ?_) (fun h122 => ?_)
          · rw [← hZ]
            refine pw_rv (by decide +kernel) ?_
            have hE2 : pw_tE A e = iy := by
              rw [hrn]
              by_cases hm : iy < pw_g A 2 1
              · exact pw_rn_n hm (fun z => by have q := of_decide_eq_false h122; rw [pw_ltp hm] at q; exact q z)
              · exact pw_rn_e hm
            have hV : pw_mV A e = pw_vl A ix (iy - ix) := by unfold pw_mV; rw [if_pos hM, hE2, hb]
            refine ⟨rfl, ?_⟩
            unfold pw_tok
            rw [hE2, hb, hM, hV]
          · have hz := of_decide_eq_true h122
            have hm : iy < pw_g A 2 1 := pw_lt_in (fun z => by rw [z, F_tkm] at hz; exact absurd hz (by decide))
            have hlm := pw_ltp hm
            rw [hlm] at hz
            refine pw_blk (pc' := 134) [.aload 0, .aload 0, .getfield 817, .aload 0, .getfield 818] (by decide +kernel) ?_
            show pw_V x m_X8_next 2 Z 134 [(0, .ref 26)] [.int ((pw_n4 mm (nI iy) (nI ix) (nI 2) (pw_vl A ix (iy - ix))) 26 18), .int ((pw_n4 mm (nI iy) (nI ix) (nI 2) (pw_vl A ix (iy - ix))) 26 17), .ref 26] (pw_n4 mm (nI iy) (nI ix) (nI 2) (pw_vl A ix (iy - ix)))
            rw [show (pw_n4 mm (nI iy) (nI ix) (nI 2) (pw_vl A ix (iy - ix))) 26 18 = nI ix from rfl]
            rw [show (pw_n4 mm (nI iy) (nI ix) (nI 2) (pw_vl A ix (iy - ix))) 26 17 = nI iy from rfl]
            refine pw_blk (pc' := 135) [.isub] (by decide +kernel) ?_
            show pw_V x m_X8_next 2 Z 135 [(0, .ref 26)] [.int (nI iy - nI ix), .ref 26] (pw_n4 mm (nI iy) (nI ix) (nI 2) (pw_vl A ix (iy - ix)))
            rw [pk_sub (show ix ≤ iy by omega)]
            refine pw_blk (pc' := 136) [.iconst 2] (by decide +kernel) ?_
            show pw_V x m_X8_next 2 Z 136 [(0, .ref 26)] [.int (nI 2), .int (nI (iy - ix)), .ref 26] (pw_n4 mm (nI iy) (nI ix) (nI 2) (pw_vl A ix (iy - ix)))
            refine pw_in_ge (tgt := 161) (off := 25) (by omega) (by omega) (by decide +kernel) (by decide) (fun h136 => ?_) (fun h136 => ?_)
            · refine pw_blk (pc' := 176) [.iconst (100), .putfield 820, .aload 0, .dup, .getfield 817, .iconst 1, .iadd, .putfield 817] (by decide +kernel) ?_
              show pw_V x m_X8_next 2 Z 176 [(0, .ref 26)] [] (pw_up (pw_up (pw_n4 mm (nI iy) (nI ix) (nI 2) (pw_vl A ix (iy - ix))) 26 20 (nI 100)) 26 17 (((pw_n4 mm (nI iy) (nI ix) (nI 2) (pw_vl A ix (iy - ix))) 26 17) + (nI 1)))
              rw [show (pw_n4 mm (nI iy) (nI ix) (nI 2) (pw_vl A ix (iy - ix))) 26 17 = nI iy from rfl]
              rw [show (nI iy) + (nI 1) = nI (iy + 1) from nI_add _ _]
              refine pw_goto (tgt := 111) (off := -65) (by decide +kernel) (by decide) ?_
              rw [show nI 100 = pw_vl A ix (iy + 1 - ix) from by rw [show iy + 1 - ix = (iy - ix) + 1 by omega]; exact pw_vl_n (by omega)]
              rw [pw_n4_20, pw_n4_17]
              exact jh (by omega) (by omega) (by rw [hrn]; exact pw_rn_s hm (by decide) hz)
            · refine pw_blk (pc' := 151) [.iconst (10), .aload 0, .getfield 820, .imul, .aload 0, .aload 0, .getfield 817] (by decide +kernel) ?_
              show pw_V x m_X8_next 2 Z 151 [(0, .ref 26)] [.int ((pw_n4 mm (nI iy) (nI ix) (nI 2) (pw_vl A ix (iy - ix))) 26 17), .ref 26, .int ((nI 10) * ((pw_n4 mm (nI iy) (nI ix) (nI 2) (pw_vl A ix (iy - ix))) 26 20)), .ref 26] (pw_n4 mm (nI iy) (nI ix) (nI 2) (pw_vl A ix (iy - ix)))
              rw [show (pw_n4 mm (nI iy) (nI ix) (nI 2) (pw_vl A ix (iy - ix))) 26 17 = nI iy from rfl]
              rw [show (pw_n4 mm (nI iy) (nI ix) (nI 2) (pw_vl A ix (iy - ix))) 26 20 = pw_vl A ix (iy - ix) from rfl]
              refine pw_cV (vs := [.int (nI iy)]) (rest := [.int ((nI 10) * (pw_vl A ix (iy - ix))), .ref 26]) k_X8_letterAt (c_mlet (A := A) (pw_n4 mm (nI iy) (nI ix) (nI 2) (pw_vl A ix (iy - ix))) (MX.f hx rfl rfl) iy (by omega) b21) l_8_96 rfl rfl rfl rfl (by omega) (Nat.le_of_ble_eq_true rfl) (by decide +kernel) ?_
              rintro _ m1 ⟨rfl, e1⟩
              rw [e1]
              clear e1 m1
              show pw_V x m_X8_next 2 Z 154 [(0, .ref 26)] [.int (pw_lt_ A iy), .int ((nI 10) * (pw_vl A ix (iy - ix))), .ref 26] (pw_n4 mm (nI iy) (nI ix) (nI 2) (pw_vl A ix (iy - ix)))
              refine pw_blk (pc' := 158) [.iadd, .iconst (48), .isub] (by decide +kernel) ?_
              show pw_V x m_X8_next 2 Z 158 [(0, .ref 26)] [.int ((((nI 10) * (pw_vl A ix (iy - ix))) + (pw_lt_ A iy)) - (nI 48)), .ref 26] (pw_n4 mm (nI iy) (nI ix) (nI 2) (pw_vl A ix (iy - ix)))
              refine pw_goto (tgt := 163) (off := 5) (by decide +kernel) (by decide) ?_
              refine pw_blk (pc' := 176) [.putfield 820, .aload 0, .dup, .getfield 817, .iconst 1, .iadd, .putfield 817] (by decide +kernel) ?_
              show pw_V x m_X8_next 2 Z 176 [(0, .ref 26)] [] (pw_up (pw_up (pw_n4 mm (nI iy) (nI ix) (nI 2) (pw_vl A ix (iy - ix))) 26 20 ((((nI 10) * (pw_vl A ix (iy - ix))) + (pw_lt_ A iy)) - (nI 48))) 26 17 (((pw_n4 mm (nI iy) (nI ix) (nI 2) (pw_vl A ix (iy - ix))) 26 17) + (nI 1)))
              rw [show (pw_n4 mm (nI iy) (nI ix) (nI 2) (pw_vl A ix (iy - ix))) 26 17 = nI iy from rfl]
              rw [show (nI iy) + (nI 1) = nI (iy + 1) from nI_add _ _]
              refine pw_goto (tgt := 111) (off := -65) (by decide +kernel) (by decide) ?_
              rw [show (((nI 10) * (pw_vl A ix (iy - ix))) + (pw_lt_ A iy)) - (nI 48) = pw_vl A ix (iy + 1 - ix) from by rw [hlm, show iy + 1 - ix = (iy - ix) + 1 by omega, ← pw_vl_s (by omega), show ix + (iy - ix) = iy by omega]]
              rw [pw_n4_20, pw_n4_17]
              exact jh (by omega) (by omega) (by rw [hrn]; exact pw_rn_s hm (by decide) hz)
      · refine pw_blk (pc' := 72) [.aload 0, .iconst 1, .putfield 819] (by decide +kernel) ?_
        show pw_V x m_X8_next 2 Z 72 [(1, .int (pw_lt_ A ix)), (0, .ref 26)] [] (pw_up (pw_up (pw_up (pw_up mm 26 17 (nI ix)) 26 18 (nI ix)) 26 20 (nI 0)) 26 19 (nI 1))
        have ht : F_tk (A 3 ix) = nI 1 := by have z := of_decide_eq_true h64; rw [hc] at z; exact z
        have hE : pw_tE A e = pw_rn A (nI 1) ix := by unfold pw_tE; rw [show pw_sk A e = ix from hb, if_pos hl, ht]; exact (pw_rn_s hl (by decide) ht).symm
        have hM : pw_mT A e = 1 := pw_mT1.mpr (by unfold pw_tT; rw [show pw_sk A e = ix from hb, if_pos hl]; exact ht)
        rw [pw_n4_a]
        refine pw_lvp [1] rfl ?_
        suffices l2 : ∀ iy : Nat, iy ≤ pw_g A 2 1 → pw_tE A e = pw_rn A (nI 1) iy → pw_V x m_X8_next 2 Z 72 [(0, .ref 26)] [] (pw_n4 mm (nI iy) (nI ix) (nI 1) (nI 0)) from l2 ix hix hE
        refine pw_dn (pw_g A 2 1) (fun iy hiy jh hrn => ?_)
        refine pw_blk (pc' := 77) [.aload 0, .aload 0, .getfield 817] (by decide +kernel) ?_
        show pw_V x m_X8_next 2 Z 77 [(0, .ref 26)] [.int ((pw_n4 mm (nI iy) (nI ix) (nI 1) (nI 0)) 26 17), .ref 26] (pw_n4 mm (nI iy) (nI ix) (nI 1) (nI 0))
        rw [show (pw_n4 mm (nI iy) (nI ix) (nI 1) (nI 0)) 26 17 = nI iy from rfl]
        refine pw_cV (vs := [.int (nI iy)]) (rest := []) k_X8_letterAt (c_mlet (A := A) (pw_n4 mm (nI iy) (nI ix) (nI 1) (nI 0)) (MX.f hx rfl rfl) iy (by omega) b21) l_8_96 rfl rfl rfl rfl (by omega) (Nat.le_of_ble_eq_true rfl) (by decide +kernel) ?_
        rintro _ m1 ⟨rfl, e1⟩
        rw [e1]
        clear e1 m1
        show pw_V x m_X8_next 2 Z 80 [(0, .ref 26)] [.int (pw_lt_ A iy)] (pw_n4 mm (nI iy) (nI ix) (nI 1) (nI 0))
        refine pw_cS (vs := [.int (pw_lt_ A iy)]) (rest := []) k_X8_isSmall (c_small (pw_lt_ A iy) (pw_n4 mm (nI iy) (nI ix) (nI 1) (nI 0))) l_8_109 rfl (by omega) (Nat.le_of_ble_eq_true rfl) (by decide +kernel) ?_
        rintro _ m1 ⟨rfl, e1⟩
        rw [e1]
        clear e1 m1
        show pw_V x m_X8_next 2 Z 83 [(0, .ref 26)] [.int (pw_b (decide (F_tk (pw_lt_ A iy) = nI 1)))] (pw_n4 mm (nI iy) (nI ix) (nI 1) (nI 0))
        refine pw_ib_eq (tgt := 204) (off := 121) (by decide +kernel) (by decide) (fun h83 => ?_) (fun h83 => ?_)
        · rw [← hZ]
          refine pw_rv (by decide +kernel) ?_
          have hE2 : pw_tE A e = iy := by
            rw [hrn]
            by_cases hm : iy < pw_g A 2 1
            · exact pw_rn_n hm (fun z => by have q := of_decide_eq_false h83; rw [pw_ltp hm] at q; exact q z)
            · exact pw_rn_e hm
          have hV : pw_mV A e = nI 0 := by unfold pw_mV; rw [hM]; rfl
          refine ⟨rfl, ?_⟩
          unfold pw_tok
          rw [hE2, hb, hM, hV]
        · refine pw_blk (pc' := 96) [.aload 0, .dup, .getfield 817, .iconst 1, .iadd, .putfield 817] (by decide +kernel) ?_
          show pw_V x m_X8_next 2 Z 96 [(0, .ref 26)] [] (pw_up (pw_n4 mm (nI iy) (nI ix) (nI 1) (nI 0)) 26 17 (((pw_n4 mm (nI iy) (nI ix) (nI 1) (nI 0)) 26 17) + (nI 1)))
          rw [show (pw_n4 mm (nI iy) (nI ix) (nI 1) (nI 0)) 26 17 = nI iy from rfl]
          rw [show (nI iy) + (nI 1) = nI (iy + 1) from nI_add _ _]
          refine pw_goto (tgt := 72) (off := -24) (by decide +kernel) (by decide) ?_
          have hz := of_decide_eq_true h83
          have hm : iy < pw_g A 2 1 := pw_lt_in (fun z => by rw [z, F_tkm] at hz; exact absurd hz (by decide))
          rw [pw_ltp hm] at hz
          rw [pw_n4_17]
          exact jh (by omega) (by rw [hrn]; exact pw_rn_s hm (by decide) hz)
    · refine pw_blk (pc' := 57) [.aload 0, .iconst 0, .putfield 819] (by decide +kernel) ?_
      show pw_V x m_X8_next 2 Z 57 [(1, .int (pw_lt_ A ix)), (0, .ref 26)] [] (pw_up (pw_up (pw_up (pw_up mm 26 17 (nI ix)) 26 18 (nI ix)) 26 20 (nI 0)) 26 19 (nI 0))
      refine pw_goto (tgt := 204) (off := 147) (by decide +kernel) (by decide) ?_
      rw [← hZ]
      refine pw_rv (by decide +kernel) ?_
      have hl : ¬ ix < pw_g A 2 1 := fun z => by rw [pw_ltp z] at h49; exact h49 (Int32.not_lt.mp (pw_lt_pos hok z))
      have hE : pw_tE A e = ix := by unfold pw_tE; rw [show pw_sk A e = ix from hb, if_neg hl]; omega
      have hM : pw_mT A e = 0 := by unfold pw_mT; rw [hb, if_neg hl]
      have hV : pw_mV A e = nI 0 := by unfold pw_mV; rw [hM]; rfl
      refine ⟨rfl, ?_⟩
      unfold pw_tok
      rw [hE, hb, hM, hV, pw_n4_a]
  · refine pw_blk (pc' := 23) [.aload 0, .dup, .getfield 817, .iconst 1, .iadd, .putfield 817] (by decide +kernel) ?_
    show pw_V x m_X8_next 2 Z 23 [(0, .ref 26)] [] (pw_up (pw_up mm 26 17 (nI ix)) 26 17 ((nI ix) + (nI 1)))
    rw [show (nI ix) + (nI 1) = nI (ix + 1) from nI_add _ _]
    refine pw_goto (tgt := 0) (off := -23) (by decide +kernel) (by decide) ?_
    have hl : ix < pw_g A 2 1 := pw_lt_in (by rw [h10]; decide)
    rw [pw_ltp hl] at h10
    rw [pw_up_up]
    exact ih (by omega) (by rw [hsk]; exact pw_sk_s hl h10)
