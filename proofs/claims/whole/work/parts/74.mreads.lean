def pw_cpC (B : pw_m) (d s n : Nat) : pw_m := fun c => if c = d then (fun k => if k < n then B s k else B d k) else B c
theorem pw_cpC_0 {B : pw_m} {d s : Nat} : pw_cpC B d s 0 = B := by
  funext c
  unfold pw_cpC
  by_cases h : c = d
  · subst h; rw [if_pos rfl]; funext k; rw [if_neg (by omega)]
  · rw [if_neg h]
theorem pw_cpC_s {B : pw_m} {d s i : Nat} (hsd : s ≠ d) : pw_up (pw_cpC B d s i) d i (pw_cpC B d s i s i) = pw_cpC B d s (i + 1) := by
  funext c
  by_cases h : c = d
  · subst h
    rw [pw_up_eq]
    unfold pw_cpC upd
    rw [if_pos rfl, if_pos rfl, if_neg hsd]
    funext k
    by_cases q : k = i
    · subst q; rw [if_pos rfl, if_pos (by omega)]
    · rw [if_neg q]
      by_cases q2 : k < i
      · rw [if_pos q2, if_pos (by omega)]
      · rw [if_neg q2, if_neg (by omega)]
  · rw [pw_up_ne h]; unfold pw_cpC; rw [if_neg h, if_neg h]
theorem pw_cpC_o {B : pw_m} {d s n c : Nat} (h : c ≠ d) : pw_cpC B d s n c = B c := by unfold pw_cpC; rw [if_neg h]
theorem pw_cpC_i {B : pw_m} {d s n k : Nat} (h : k < n) : pw_cpC B d s n d k = B s k := by unfold pw_cpC; rw [if_pos rfl, if_pos h]
def pw_rfn (m m' : pw_m) : Prop := (∀ c, c ≠ 26 → (c < 36 ∨ 38 < c) → m' c = m c) ∧ ∀ j, j < 17 ∨ 30 < j → m' 26 j = m 26 j
theorem pw_rfn_m {m m' m'' : pw_m} (h : pw_rfn m m') (h2 : pw_rfm m' m'') : pw_rfn m m'' := ⟨fun c q1 q2 => (h2.1 c q1 q2).trans (h.1 c q1 q2), fun j q => (h2.2 j (by omega)).trans (h.2 j q)⟩
theorem pw_rfn_6 {m m' : pw_m} {k : Nat} {v : Int32} (h : pw_rfn m m') (hk : 17 ≤ k ∧ k ≤ 30) : pw_rfn m (pw_up m' 26 k v) := ⟨fun c q1 q2 => (pw_up_ne q1).trans (h.1 c q1 q2), fun j q => by rw [pw_up_eq]; unfold upd; rw [if_neg (by omega)]; exact h.2 j q⟩
theorem pw_rfn_k {A m m' : pw_m} {e : Nat} (h : pw_rfn m m') : pw_rfn m (pw_tok A m' e) := ⟨fun c q1 q2 => (pw_tok_o q1).trans (h.1 c q1 q2), fun j q => (pw_tok_6 (by omega)).trans (h.2 j q)⟩
/-- the text is read aside: how it begins -/
def pw_rd0 (m : pw_m) : pw_m := pw_up (pw_up (pw_up (pw_up (pw_up (pw_up (pw_cpC (pw_cpC (pw_cpC (pw_up (pw_up m 26 23 (m 26 0)) 26 25 (m 26 2)) 36 27 16) 37 28 18) 38 29 6) 26 28 (m 26 5)) 26 29 (m 26 6)) 26 30 (m 26 7)) 26 17 (nI 0)) 26 22 (nI 0)) 26 21 (nI 1)
theorem pw_rd0_f {m : pw_m} : pw_rfn m (pw_rd0 m) := by
  unfold pw_rd0
  refine pw_rfn_6 (pw_rfn_6 (pw_rfn_6 (pw_rfn_6 (pw_rfn_6 (pw_rfn_6 ⟨fun c q1 q2 => ?_, fun j q => ?_⟩ (by decide)) (by decide)) (by decide)) (by decide)) (by decide)) (by decide)
  · rw [pw_cpC_o (by omega), pw_cpC_o (by omega), pw_cpC_o (by omega), pw_up_ne q1, pw_up_ne q1]
  · rw [pw_cpC_o (by omega), pw_cpC_o (by omega), pw_cpC_o (by omega), pw_up_26 (by omega), pw_up_26 (by omega)]
theorem pw_rd0_s {A m : pw_m} (hv : MVT A m) : SD A (pw_rd0 m) := by
  obtain ⟨⟨a1, a2⟩, ⟨a3, a4, a5⟩, a6, a7⟩ := hv
  have e6 : ∀ c, c ≠ 26 → pw_rd0 m c = pw_cpC (pw_cpC (pw_cpC (pw_up (pw_up m 26 23 (m 26 0)) 26 25 (m 26 2)) 36 27 16) 37 28 18) 38 29 6 c := fun c hc => by
    unfold pw_rd0
    rw [pw_up_ne hc, pw_up_ne hc, pw_up_ne hc, pw_up_ne hc, pw_up_ne hc, pw_up_ne hc]
  refine ⟨⟨?_, ?_⟩, ⟨?_, ?_, ?_⟩, fun s hs => ?_, fun i hi => ⟨?_, ?_⟩⟩
  · unfold pw_rd0
    rw [pw_up_26 (by omega), pw_up_26 (by omega), pw_up_26 (by omega), pw_up_26 (by omega), pw_up_26 (by omega), pw_up_26 (by omega), pw_cpC_o (by omega), pw_cpC_o (by omega), pw_cpC_o (by omega), pw_up_26 (by omega), pw_up_gs]
    exact a1
  · unfold pw_rd0
    rw [pw_up_26 (by omega), pw_up_26 (by omega), pw_up_26 (by omega), pw_up_26 (by omega), pw_up_26 (by omega), pw_up_26 (by omega), pw_cpC_o (by omega), pw_cpC_o (by omega), pw_cpC_o (by omega), pw_up_gs]
    exact a2
  · unfold pw_rd0
    rw [pw_up_26 (by omega), pw_up_26 (by omega), pw_up_26 (by omega), pw_up_26 (by omega), pw_up_26 (by omega), pw_up_gs]
    exact a3
  · unfold pw_rd0
    rw [pw_up_26 (by omega), pw_up_26 (by omega), pw_up_26 (by omega), pw_up_26 (by omega), pw_up_gs]
    exact a4
  · unfold pw_rd0
    rw [pw_up_26 (by omega), pw_up_26 (by omega), pw_up_26 (by omega), pw_up_gs]
    exact a5
  · rw [e6 36 (by omega), pw_cpC_o (by omega), pw_cpC_o (by omega), pw_cpC_i (by omega), pw_cpC_i (by omega), pw_up_ne (by omega), pw_up_ne (by omega)]
    exact a6 s hs
  · rw [e6 37 (by omega), pw_cpC_o (by omega), pw_cpC_i (by omega), pw_cpC_i (by omega), pw_cpC_i (by omega), pw_cpC_o (by omega), pw_up_ne (by omega), pw_up_ne (by omega)]
    exact (a7 i hi).1
  · rw [e6 38 (by omega), pw_cpC_i hi, pw_cpC_o (by omega), pw_cpC_o (by omega), pw_up_ne (by omega), pw_up_ne (by omega)]
    exact (a7 i hi).2
/-- what reading the whole text leaves -/
def pw_rdm (A mm m' : pw_m) : Prop := pw_rfn mm m' ∧ m' 26 21 = pw_b (pw_RF A).isNone ∧ (∀ b, pw_RF A = some b → m' 26 18 = nI b) ∧ (pw_RF A = none → m' 26 22 = nI (pw_CQ A).length ∧ SD (G_oq A (pw_CQ A)) m')

set_option maxHeartbeats 4000000 in
set_option maxRecDepth 100000 in
theorem c_mreads {A : pw_m} (mm : pw_m) (hv : MV A mm) (hok : pw_ok A) : pw_Ct 6 yX8_reads m_X8_reads [.ref 26] mm (fun r m' => r = none ∧ pw_rdm A mm m') := by
  refine pw_ct (by decide +kernel) rfl (Nat.le_of_ble_eq_true rfl) (fun x => ?_)
  generalize hZ : pw_Z x _ = Z
  have bn := pw_bn hok
  have bk := pw_bk hok
  show pw_V x m_X8_reads 6 Z 0 [(0, .ref 26)] [] mm
  refine pw_blk (pc' := 18) [.aload 0, .aload 0, .getfield 800, .putfield 823, .aload 0, .aload 0, .getfield 802, .putfield 825, .iconst 0, .istore 1] (by decide +kernel) ?_
  show pw_V x m_X8_reads 6 Z 18 [(1, .int (nI 0)), (0, .ref 26)] [] (pw_up (pw_up mm 26 23 (mm 26 0)) 26 25 (mm 26 2))
  refine pw_lvp [1, 0] rfl ?_
  rw [← pw_cpC_0 (B := pw_up (pw_up mm 26 23 (mm 26 0)) 26 25 (mm 26 2)) (d := 36) (s := 27)]
  suffices lo : ∀ ix : Nat, ix ≤ 16 → pw_V x m_X8_reads 6 Z 18 [(0, .ref 26), (1, .int (nI ix))] [] (pw_cpC (pw_up (pw_up mm 26 23 (mm 26 0)) 26 25 (mm 26 2)) 36 27 ix) from lo 0 (by omega)
  refine pw_dn 16 (fun ix hix ih => ?_)
  refine pw_blk (pc' := 21) [.iload 1, .iconst (16)] (by decide +kernel) ?_
  show pw_V x m_X8_reads 6 Z 21 [(0, .ref 26), (1, .int (nI ix))] [.int (nI 16), .int (nI ix)] (pw_cpC (pw_up (pw_up mm 26 23 (mm 26 0)) 26 25 (mm 26 2)) 36 27 ix)
  refine pw_in_ge (tgt := 42) (off := 21) (by omega) (by omega) (by decide +kernel) (by decide) (fun h21 => ?_) (fun h21 => ?_)
  · have en : ix = 16 := by omega
    rw [en]
    clear en
    refine pw_blk (pc' := 44) [.iconst 0, .istore 1] (by decide +kernel) ?_
    show pw_V x m_X8_reads 6 Z 44 [(1, .int (nI 0)), (0, .ref 26)] [] (pw_cpC (pw_up (pw_up mm 26 23 (mm 26 0)) 26 25 (mm 26 2)) 36 27 16)
    refine pw_lvp [1, 0] rfl ?_
    rw [← pw_cpC_0 (B := pw_cpC (pw_up (pw_up mm 26 23 (mm 26 0)) 26 25 (mm 26 2)) 36 27 16) (d := 37) (s := 28)]
    suffices lo : ∀ ix : Nat, ix ≤ 18 → pw_V x m_X8_reads 6 Z 44 [(0, .ref 26), (1, .int (nI ix))] [] (pw_cpC (pw_cpC (pw_up (pw_up mm 26 23 (mm 26 0)) 26 25 (mm 26 2)) 36 27 16) 37 28 ix) from lo 0 (by omega)
    refine pw_dn 18 (fun ix hix ih => ?_)
    refine pw_blk (pc' := 47) [.iload 1, .iconst (18)] (by decide +kernel) ?_
    show pw_V x m_X8_reads 6 Z 47 [(0, .ref 26), (1, .int (nI ix))] [.int (nI 18), .int (nI ix)] (pw_cpC (pw_cpC (pw_up (pw_up mm 26 23 (mm 26 0)) 26 25 (mm 26 2)) 36 27 16) 37 28 ix)
    refine pw_in_ge (tgt := 68) (off := 21) (by omega) (by omega) (by decide +kernel) (by decide) (fun h47 => ?_) (fun h47 => ?_)
    · have en : ix = 18 := by omega
      rw [en]
      clear en
      refine pw_blk (pc' := 70) [.iconst 0, .istore 1] (by decide +kernel) ?_
      show pw_V x m_X8_reads 6 Z 70 [(1, .int (nI 0)), (0, .ref 26)] [] (pw_cpC (pw_cpC (pw_up (pw_up mm 26 23 (mm 26 0)) 26 25 (mm 26 2)) 36 27 16) 37 28 18)
      refine pw_lvp [1, 0] rfl ?_
      rw [← pw_cpC_0 (B := pw_cpC (pw_cpC (pw_up (pw_up mm 26 23 (mm 26 0)) 26 25 (mm 26 2)) 36 27 16) 37 28 18) (d := 38) (s := 29)]
      suffices lo : ∀ ix : Nat, ix ≤ 6 → pw_V x m_X8_reads 6 Z 70 [(0, .ref 26), (1, .int (nI ix))] [] (pw_cpC (pw_cpC (pw_cpC (pw_up (pw_up mm 26 23 (mm 26 0)) 26 25 (mm 26 2)) 36 27 16) 37 28 18) 38 29 ix) from lo 0 (by omega)
      refine pw_dn 6 (fun ix hix ih => ?_)
      refine pw_blk (pc' := 73) [.iload 1, .iconst (6)] (by decide +kernel) ?_
      show pw_V x m_X8_reads 6 Z 73 [(0, .ref 26), (1, .int (nI ix))] [.int (nI 6), .int (nI ix)] (pw_cpC (pw_cpC (pw_cpC (pw_up (pw_up mm 26 23 (mm 26 0)) 26 25 (mm 26 2)) 36 27 16) 37 28 18) 38 29 ix)
      refine pw_in_ge (tgt := 94) (off := 21) (by omega) (by omega) (by decide +kernel) (by decide) (fun h73 => ?_) (fun h73 => ?_)
      · have en : ix = 6 := by omega
        rw [en]
        clear en
        refine pw_blk (pc' := 133) [.aload 0, .aload 0, .getfield 805, .putfield 828, .aload 0, .aload 0, .getfield 806, .putfield 829, .aload 0, .aload 0, .getfield 807, .putfield 830, .aload 0, .iconst 0, .putfield 817, .aload 0, .iconst 0, .putfield 822, .aload 0, .iconst 1, .putfield 821] (by decide +kernel) ?_
        refine ⟨Or.inr rfl, ?_⟩
        show pw_V x m_X8_reads 6 Z 133 [(0, .ref 26), (1, .int (nI 6))] [] (pw_up (pw_up (pw_up (pw_up (pw_up (pw_up (pw_cpC (pw_cpC (pw_cpC (pw_up (pw_up mm 26 23 (mm 26 0)) 26 25 (mm 26 2)) 36 27 16) 37 28 18) 38 29 6) 26 28 ((pw_cpC (pw_cpC (pw_cpC (pw_up (pw_up mm 26 23 (mm 26 0)) 26 25 (mm 26 2)) 36 27 16) 37 28 18) 38 29 6) 26 5)) 26 29 ((pw_cpC (pw_cpC (pw_cpC (pw_up (pw_up mm 26 23 (mm 26 0)) 26 25 (mm 26 2)) 36 27 16) 37 28 18) 38 29 6) 26 6)) 26 30 ((pw_cpC (pw_cpC (pw_cpC (pw_up (pw_up mm 26 23 (mm 26 0)) 26 25 (mm 26 2)) 36 27 16) 37 28 18) 38 29 6) 26 7)) 26 17 (nI 0)) 26 22 (nI 0)) 26 21 (nI 1))
        obtain ⟨m0, hm0⟩ : ∃ m, m = pw_rd0 mm := ⟨_, rfl⟩
        rw [show pw_up (pw_up (pw_up (pw_up (pw_up (pw_up (pw_cpC (pw_cpC (pw_cpC (pw_up (pw_up mm 26 23 (mm 26 0)) 26 25 (mm 26 2)) 36 27 16) 37 28 18) 38 29 6) 26 28 ((pw_cpC (pw_cpC (pw_cpC (pw_up (pw_up mm 26 23 (mm 26 0)) 26 25 (mm 26 2)) 36 27 16) 37 28 18) 38 29 6) 26 5)) 26 29 ((pw_cpC (pw_cpC (pw_cpC (pw_up (pw_up mm 26 23 (mm 26 0)) 26 25 (mm 26 2)) 36 27 16) 37 28 18) 38 29 6) 26 6)) 26 30 ((pw_cpC (pw_cpC (pw_cpC (pw_up (pw_up mm 26 23 (mm 26 0)) 26 25 (mm 26 2)) 36 27 16) 37 28 18) 38 29 6) 26 7)) 26 17 (nI 0)) 26 22 (nI 0)) 26 21 (nI 1) = m0 from by rw [hm0]; rfl]
        have X0 : MX A m0 := by rw [hm0]; exact MX.f (hv.x hok) (pw_rd0_f.2 16 (by omega)) (pw_rd0_f.1 35 (by omega) (by omega))
        have S0 : SD A m0 := by rw [hm0]; exact pw_rd0_s hv.1
        have F0 : pw_rfn mm m0 := by rw [hm0]; exact pw_rd0_f
        have A0 : m0 26 17 = nI 0 := by rw [hm0]; unfold pw_rd0; rw [pw_up_26 (by omega), pw_up_26 (by omega), pw_up_gs]
        have C0 : m0 26 22 = nI 0 := by rw [hm0]; unfold pw_rd0; rw [pw_up_26 (by omega), pw_up_gs]
        have W0 : m0 26 21 = nI 1 := by rw [hm0]; unfold pw_rd0; rw [pw_up_gs]
        clear hm0
        refine pw_blk (pc' := 134) [.aload 0] (by decide +kernel) ?_
        show pw_V x m_X8_reads 6 Z 134 [(0, .ref 26), (1, .int (nI 6))] [.ref 26] m0
        refine pw_cV (vs := []) (rest := []) k_X8_next (c_mnext (A := A) m0 X0 hok 0 A0 (Nat.zero_le _)) l_8_127 rfl rfl rfl rfl (by omega) (Nat.le_of_ble_eq_true rfl) (by decide +kernel) ?_
        rintro _ m1 ⟨rfl, e1⟩
        rw [e1]
        clear e1 m1
        show pw_V x m_X8_reads 6 Z 137 [(0, .ref 26), (1, .int (nI 6))] [] (pw_tok A m0 0)
        obtain ⟨m1, hm1⟩ : ∃ m, m = pw_tok A m0 0 := ⟨_, rfl⟩
        rw [← hm1]
        have T1 : TK A m1 0 := by rw [hm1]; exact pw_tok_TK
        have X1 : MX A m1 := by rw [hm1]; exact MX.t X0
        have S1 : SD A m1 := by rw [hm1]; exact SD.t S0
        have F1 : pw_rfn mm m1 := by rw [hm1]; exact pw_rfn_k F0
        have C1 : m1 26 22 = nI 0 := by rw [hm1]; exact (pw_tok_6 (by omega)).trans C0
        have W1 : m1 26 21 = nI 1 := by rw [hm1]; exact (pw_tok_6 (by omega)).trans W0
        clear hm1 X0 S0 F0 A0 C0 W0
        clear m0
        refine pw_blk (pc' := 139) [.iconst 1, .istore 1] (by decide +kernel) ?_
        show pw_V x m_X8_reads 6 Z 139 [(1, .int (nI 1)), (0, .ref 26)] [] m1
        refine pw_lvp [1, 0] rfl ?_
        suffices lo : ∀ f : Nat, ∀ cl s k e : Nat, ∀ m1 X : pw_m, cl + (f + 1) = 14 → pw_rfn mm m1 → MX A m1 → SD X m1 → X 4 0 = nI s → X 4 1 = nI k → s ≤ 8 → k ≤ 6 → e ≤ pw_g A 2 1 → TK A m1 e → m1 26 21 = nI 1 → m1 26 22 = nI cl → pw_RF A = pw_rf A (f + 1) s k e → G_oq A (pw_CQ A) = G_oq X (pw_cq A (f + 1) s k e) → (pw_CQ A).length = cl + (pw_cq A (f + 1) s k e).length → pw_V x m_X8_reads 6 Z 139 [(0, .ref 26), (1, .int (nI 1))] [] m1 from lo 13 0 (pw_n A) (pw_k A) 0 m1 A (by omega) F1 X1 S1 (pw_q40 hok) (pw_q41 hok) (pw_bn hok) (pw_bk hok) (Nat.zero_le _) T1 W1 C1 rfl rfl (Nat.zero_add _).symm
        clear T1 X1 S1 F1 C1 W1
        clear m1
        intro f
        induction f with
        | zero =>
          intro cl s k e m1 X hcf hF hX1 hX hs hk hs8 hk6 he2 hT hW hcl hrf hcs hln
          refine pw_blk (pc' := 140) [.iload 1] (by decide +kernel) ?_
          show pw_V x m_X8_reads 6 Z 140 [(0, .ref 26), (1, .int (nI 1))] [.int (nI 1)] m1
          refine pw_iz_eq (tgt := 236) (off := 96) (by omega) (by decide +kernel) (by decide) (fun h => by omega) (fun _ => ?_)
          refine pw_blk (pc' := 144) [.aload 0] (by decide +kernel) ?_
          show pw_V x m_X8_reads 6 Z 144 [(0, .ref 26), (1, .int (nI 1))] [.ref 26] m1
          refine pw_cV (vs := []) (rest := []) k_X8_readClause (c_mrClause m1 hX1 hok X hX s k hs hk hs8 hk6 e he2 hT hW) l_8_180 rfl rfl rfl rfl (by omega) (Nat.le_of_ble_eq_true rfl) (by decide +kernel) ?_
          rintro _ m2 ⟨rfl, hrc⟩
          show pw_V x m_X8_reads 6 Z 147 [(0, .ref 26), (1, .int (nI 1))] [] m2
          obtain ⟨q1, q2, q3, q4⟩ := hrc
          have C2 : m2 26 22 = nI cl := (q1.2 22 (by omega)).trans hcl
          have X2 : MX A m2 := hX1.f (q1.2 16 (by omega)) (q1.1 35 (by omega) (by omega))
          have F2 : pw_rfn mm m2 := pw_rfn_m hF q1
          rcases hp : (pw_cz A s k e).2 with _ | p
          · have W2 : m2 26 21 = nI 0 := by rw [q2, hp]; rfl
            have P2 := q3 hp
            refine pw_blk (pc' := 156) [.aload 0, .dup, .getfield 822, .aload 0, .getfield 821] (by decide +kernel) ?_
            show pw_V x m_X8_reads 6 Z 156 [(0, .ref 26), (1, .int (nI 1))] [.int (m2 26 21), .int (m2 26 22), .ref 26] m2
            rw [show m2 26 21 = nI 0 from W2]
            rw [show m2 26 22 = nI cl from C2]
            refine pw_iz_eq (tgt := 163) (off := 7) (by omega) (by decide +kernel) (by decide) (fun _ => ?_) (fun h => by omega)
            refine pw_blk (pc' := 172) [.iconst 0, .iadd, .putfield 822, .aload 0, .getfield 821] (by decide +kernel) ?_
            show pw_V x m_X8_reads 6 Z 172 [(0, .ref 26), (1, .int (nI 1))] [.int (m2 26 21)] (pw_up m2 26 22 ((nI cl) + (nI 0)))
            rw [show m2 26 21 = nI 0 from W2]
            rw [show (nI cl) + (nI 0) = nI (cl + 0) from nI_add _ _]
            refine pw_iz_eq (tgt := 196) (off := 24) (by omega) (by decide +kernel) (by decide) (fun _ => ?_) (fun h => by omega)
            refine pw_blk (pc' := 203) [.iconst 0, .istore 1, .aload 0, .aload 0, .getfield 821] (by decide +kernel) ?_
            show pw_V x m_X8_reads 6 Z 203 [(1, .int (nI 0)), (0, .ref 26)] [.int (m2 26 21), .ref 26] (pw_up m2 26 22 (nI (cl + 0)))
            rw [show m2 26 21 = nI 0 from W2]
            refine pw_iz_eq (tgt := 221) (off := 18) (by omega) (by decide +kernel) (by decide) (fun _ => ?_) (fun h => by omega)
            refine pw_blk (pc' := 226) [.iconst 0, .putfield 821, .iload 1] (by decide +kernel) ?_
            refine ⟨Or.inl rfl, ?_⟩
            show pw_V x m_X8_reads 6 Z 226 [(1, .int (nI 0)), (0, .ref 26)] [.int (nI 0)] (pw_up (pw_up m2 26 22 (nI (cl + 0))) 26 21 (nI 0))
            refine pw_iz_eq (tgt := 139) (off := -87) (by omega) (by decide +kernel) (by decide) (fun _ => ?_) (fun h => by omega)
            refine pw_blk (pc' := 140) [.iload 1] (by decide +kernel) ?_
            show pw_V x m_X8_reads 6 Z 140 [(1, .int (nI 0)), (0, .ref 26)] [.int (nI 0)] (pw_up (pw_up m2 26 22 (nI (cl + 0))) 26 21 (nI 0))
            refine pw_iz_eq (tgt := 236) (off := 96) (by omega) (by decide +kernel) (by decide) (fun _ => ?_) (fun h => by omega)
            rw [← hZ]
            refine pw_rv (by decide +kernel) ?_
            have g1 : pw_rf A 1 s k e = some (pw_tB A (pw_cz A s k e).1) := by rw [pw_rf, hp]
            have g3 : pw_RF A = some (pw_tB A (pw_cz A s k e).1) := hrf.trans g1
            exact ⟨rfl, pw_rfn_6 (pw_rfn_6 F2 (by decide)) (by decide), by rw [g3]; exact pw_up_gs, fun b z => by rw [g3] at z; cases z; exact (pw_up_26 (by decide)).trans ((pw_up_26 (by decide)).trans P2), fun z => by rw [g3] at z; cases z⟩
          · have W2 : m2 26 21 = nI 1 := by rw [q2, hp]; rfl
            obtain ⟨T2, S2⟩ := q4 p hp
            obtain ⟨u1, u2, u3, u4, u5⟩ := pw_cz_b hp hs8 hk6
            obtain ⟨v1, v2⟩ := pw_cz_n hp hs8 hk6
            have y1 := pw_tb1 (A := A) (pw_cz_e (s := s) (k := k) he2)
            have y2 := pw_tb1 (A := A) y1.2.2
            have bmt := pw_mT_b (A := A) (e := (pw_tE A (pw_cz A s k e).1))
            have g4 := G_ob_n (a := p.2.1) (b := p.2.2) u1 hs hk hk6
            refine pw_blk (pc' := 156) [.aload 0, .dup, .getfield 822, .aload 0, .getfield 821] (by decide +kernel) ?_
            show pw_V x m_X8_reads 6 Z 156 [(0, .ref 26), (1, .int (nI 1))] [.int (m2 26 21), .int (m2 26 22), .ref 26] m2
            rw [show m2 26 21 = nI 1 from W2]
            rw [show m2 26 22 = nI cl from C2]
            refine pw_iz_eq (tgt := 163) (off := 7) (by omega) (by decide +kernel) (by decide) (fun h => by omega) (fun _ => ?_)
            refine pw_blk (pc' := 160) [.iconst 1] (by decide +kernel) ?_
            show pw_V x m_X8_reads 6 Z 160 [(0, .ref 26), (1, .int (nI 1))] [.int (nI 1), .int (nI cl), .ref 26] m2
            refine pw_goto (tgt := 164) (off := 4) (by decide +kernel) (by decide) ?_
            refine pw_blk (pc' := 172) [.iadd, .putfield 822, .aload 0, .getfield 821] (by decide +kernel) ?_
            show pw_V x m_X8_reads 6 Z 172 [(0, .ref 26), (1, .int (nI 1))] [.int (m2 26 21)] (pw_up m2 26 22 ((nI cl) + (nI 1)))
            rw [show m2 26 21 = nI 1 from W2]
            rw [show (nI cl) + (nI 1) = nI (cl + 1) from nI_add _ _]
            refine pw_iz_eq (tgt := 196) (off := 24) (by omega) (by decide +kernel) (by decide) (fun h => by omega) (fun _ => ?_)
            refine pw_blk (pc' := 180) [.aload 0, .getfield 819, .iconst 3] (by decide +kernel) ?_
            show pw_V x m_X8_reads 6 Z 180 [(0, .ref 26), (1, .int (nI 1))] [.int (nI 3), .int (m2 26 19)] (pw_up m2 26 22 (nI (cl + 1)))
            rw [show m2 26 19 = nI (pw_mT A (pw_tE A (pw_cz A s k e).1)) from T2.2.2.1]
            refine pw_in_ne (tgt := 196) (off := 16) (by omega) (by omega) (by decide +kernel) (by decide) (fun h180 => ?_) (fun h180 => ?_)
            · refine pw_blk (pc' := 203) [.iconst 0, .istore 1, .aload 0, .aload 0, .getfield 821] (by decide +kernel) ?_
              show pw_V x m_X8_reads 6 Z 203 [(1, .int (nI 0)), (0, .ref 26)] [.int (m2 26 21), .ref 26] (pw_up m2 26 22 (nI (cl + 1)))
              rw [show m2 26 21 = nI 1 from W2]
              refine pw_iz_eq (tgt := 221) (off := 18) (by omega) (by decide +kernel) (by decide) (fun h => by omega) (fun _ => ?_)
              refine pw_blk (pc' := 207) [.iload 1] (by decide +kernel) ?_
              show pw_V x m_X8_reads 6 Z 207 [(1, .int (nI 0)), (0, .ref 26)] [.int (nI 0), .ref 26] (pw_up m2 26 22 (nI (cl + 1)))
              refine pw_iz_ne (tgt := 217) (off := 10) (by omega) (by decide +kernel) (by decide) (fun h => by omega) (fun _ => ?_)
              refine pw_blk (pc' := 214) [.aload 0, .getfield 819] (by decide +kernel) ?_
              show pw_V x m_X8_reads 6 Z 214 [(1, .int (nI 0)), (0, .ref 26)] [.int (m2 26 19), .ref 26] (pw_up m2 26 22 (nI (cl + 1)))
              rw [show m2 26 19 = nI (pw_mT A (pw_tE A (pw_cz A s k e).1)) from T2.2.2.1]
              refine pw_iz_ne (tgt := 221) (off := 7) (by omega) (by decide +kernel) (by decide) (fun h214 => ?_) (fun h214 => ?_)
              · refine pw_blk (pc' := 226) [.iconst 0, .putfield 821, .iload 1] (by decide +kernel) ?_
                refine ⟨Or.inl rfl, ?_⟩
                show pw_V x m_X8_reads 6 Z 226 [(1, .int (nI 0)), (0, .ref 26)] [.int (nI 0)] (pw_up (pw_up m2 26 22 (nI (cl + 1))) 26 21 (nI 0))
                refine pw_iz_eq (tgt := 139) (off := -87) (by omega) (by decide +kernel) (by decide) (fun _ => ?_) (fun h => by omega)
                refine pw_blk (pc' := 140) [.iload 1] (by decide +kernel) ?_
                show pw_V x m_X8_reads 6 Z 140 [(1, .int (nI 0)), (0, .ref 26)] [.int (nI 0)] (pw_up (pw_up m2 26 22 (nI (cl + 1))) 26 21 (nI 0))
                refine pw_iz_eq (tgt := 236) (off := 96) (by omega) (by decide +kernel) (by decide) (fun _ => ?_) (fun h => by omega)
                rw [← hZ]
                refine pw_rv (by decide +kernel) ?_
                have t0 : ¬ pw_tT A (pw_tE A (pw_cz A s k e).1) = 0 := fun z => h214 (pw_mT0.mpr z)
                have g1 : pw_rf A 1 s k e = some (pw_tB A (pw_tE A (pw_cz A s k e).1)) := by rw [pw_rf, hp]; dsimp only; rw [if_neg t0, if_neg (fun z => by have q := pw_mT3.mpr z.1; omega)]
                have g3 : pw_RF A = some (pw_tB A (pw_tE A (pw_cz A s k e).1)) := hrf.trans g1
                exact ⟨rfl, pw_rfn_6 (pw_rfn_6 F2 (by decide)) (by decide), by rw [g3]; exact pw_up_gs, fun b z => by rw [g3] at z; cases z; exact (pw_up_26 (by decide)).trans ((pw_up_26 (by decide)).trans T2.2.1), fun z => by rw [g3] at z; cases z⟩
              · refine pw_blk (pc' := 218) [.iconst 1] (by decide +kernel) ?_
                show pw_V x m_X8_reads 6 Z 218 [(1, .int (nI 0)), (0, .ref 26)] [.int (nI 1), .ref 26] (pw_up m2 26 22 (nI (cl + 1)))
                refine pw_goto (tgt := 222) (off := 4) (by decide +kernel) (by decide) ?_
                refine pw_blk (pc' := 226) [.putfield 821, .iload 1] (by decide +kernel) ?_
                refine ⟨Or.inr rfl, ?_⟩
                show pw_V x m_X8_reads 6 Z 226 [(1, .int (nI 0)), (0, .ref 26)] [.int (nI 0)] (pw_up (pw_up m2 26 22 (nI (cl + 1))) 26 21 (nI 1))
                refine pw_iz_eq (tgt := 139) (off := -87) (by omega) (by decide +kernel) (by decide) (fun _ => ?_) (fun h => by omega)
                refine pw_blk (pc' := 140) [.iload 1] (by decide +kernel) ?_
                show pw_V x m_X8_reads 6 Z 140 [(1, .int (nI 0)), (0, .ref 26)] [.int (nI 0)] (pw_up (pw_up m2 26 22 (nI (cl + 1))) 26 21 (nI 1))
                refine pw_iz_eq (tgt := 236) (off := 96) (by omega) (by decide +kernel) (by decide) (fun _ => ?_) (fun h => by omega)
                rw [← hZ]
                refine pw_rv (by decide +kernel) ?_
                have t0 : pw_tT A (pw_tE A (pw_cz A s k e).1) = 0 := pw_mT0.mp h214
                have g1 : pw_rf A 1 s k e = none := by rw [pw_rf, hp]; dsimp only; rw [if_pos t0]
                have g2 : pw_cq A 1 s k e = [p] := by rw [pw_cq, hp]; dsimp only; rw [if_pos t0]
                have g3 : pw_RF A = none := hrf.trans g1
                have gl : (pw_CQ A).length = cl + 1 := hln.trans (by rw [g2, List.length_singleton])
                have gq : G_oq A (pw_CQ A) = G_o1 X p := hcs.trans (by rw [g2]; rfl)
                refine ⟨rfl, pw_rfn_6 (pw_rfn_6 F2 (by decide)) (by decide), by rw [g3]; exact pw_up_gs, fun b z => (by rw [g3] at z; cases z), fun _ => ⟨?_, ?_⟩⟩
                · rw [gl]; exact (pw_up_26 (by decide)).trans pw_up_gs
                · rw [gq]; exact SD.w (SD.f S2 (fun c _ _ => pw_up_ne (by omega)) (fun j _ => pw_up_26 (by omega)))
            · refine pw_blk (pc' := 189) [.aload 0, .getfield 822, .iconst (14)] (by decide +kernel) ?_
              show pw_V x m_X8_reads 6 Z 189 [(0, .ref 26), (1, .int (nI 1))] [.int (nI 14), .int (nI (cl + 1))] (pw_up m2 26 22 (nI (cl + 1)))
              refine pw_in_ge (tgt := 196) (off := 7) (by omega) (by omega) (by decide +kernel) (by decide) (fun h189 => ?_) (fun h189 => ?_)
              · refine pw_blk (pc' := 203) [.iconst 0, .istore 1, .aload 0, .aload 0, .getfield 821] (by decide +kernel) ?_
                show pw_V x m_X8_reads 6 Z 203 [(1, .int (nI 0)), (0, .ref 26)] [.int (m2 26 21), .ref 26] (pw_up m2 26 22 (nI (cl + 1)))
                rw [show m2 26 21 = nI 1 from W2]
                refine pw_iz_eq (tgt := 221) (off := 18) (by omega) (by decide +kernel) (by decide) (fun h => by omega) (fun _ => ?_)
                refine pw_blk (pc' := 207) [.iload 1] (by decide +kernel) ?_
                show pw_V x m_X8_reads 6 Z 207 [(1, .int (nI 0)), (0, .ref 26)] [.int (nI 0), .ref 26] (pw_up m2 26 22 (nI (cl + 1)))
                refine pw_iz_ne (tgt := 217) (off := 10) (by omega) (by decide +kernel) (by decide) (fun h => by omega) (fun _ => ?_)
                refine pw_blk (pc' := 214) [.aload 0, .getfield 819] (by decide +kernel) ?_
                show pw_V x m_X8_reads 6 Z 214 [(1, .int (nI 0)), (0, .ref 26)] [.int (m2 26 19), .ref 26] (pw_up m2 26 22 (nI (cl + 1)))
                rw [show m2 26 19 = nI (pw_mT A (pw_tE A (pw_cz A s k e).1)) from T2.2.2.1]
                refine pw_iz_ne (tgt := 221) (off := 7) (by omega) (by decide +kernel) (by decide) (fun h214 => ?_) (fun h214 => ?_)
                · refine pw_blk (pc' := 226) [.iconst 0, .putfield 821, .iload 1] (by decide +kernel) ?_
                  refine ⟨Or.inl rfl, ?_⟩
                  show pw_V x m_X8_reads 6 Z 226 [(1, .int (nI 0)), (0, .ref 26)] [.int (nI 0)] (pw_up (pw_up m2 26 22 (nI (cl + 1))) 26 21 (nI 0))
                  refine pw_iz_eq (tgt := 139) (off := -87) (by omega) (by decide +kernel) (by decide) (fun _ => ?_) (fun h => by omega)
                  refine pw_blk (pc' := 140) [.iload 1] (by decide +kernel) ?_
                  show pw_V x m_X8_reads 6 Z 140 [(1, .int (nI 0)), (0, .ref 26)] [.int (nI 0)] (pw_up (pw_up m2 26 22 (nI (cl + 1))) 26 21 (nI 0))
                  refine pw_iz_eq (tgt := 236) (off := 96) (by omega) (by decide +kernel) (by decide) (fun _ => ?_) (fun h => by omega)
                  rw [← hZ]
                  refine pw_rv (by decide +kernel) ?_
                  have t0 : ¬ pw_tT A (pw_tE A (pw_cz A s k e).1) = 0 := fun z => h214 (pw_mT0.mpr z)
                  have g1 : pw_rf A 1 s k e = some (pw_tB A (pw_tE A (pw_cz A s k e).1)) := by rw [pw_rf, hp]; dsimp only; rw [if_neg t0, if_neg (fun z => by have q := pw_mT3.mpr z.1; omega)]
                  have g3 : pw_RF A = some (pw_tB A (pw_tE A (pw_cz A s k e).1)) := hrf.trans g1
                  exact ⟨rfl, pw_rfn_6 (pw_rfn_6 F2 (by decide)) (by decide), by rw [g3]; exact pw_up_gs, fun b z => by rw [g3] at z; cases z; exact (pw_up_26 (by decide)).trans ((pw_up_26 (by decide)).trans T2.2.1), fun z => by rw [g3] at z; cases z⟩
                · omega
              · omega
        | succ f ih =>
          intro cl s k e m1 X hcf hF hX1 hX hs hk hs8 hk6 he2 hT hW hcl hrf hcs hln
          refine pw_blk (pc' := 140) [.iload 1] (by decide +kernel) ?_
          show pw_V x m_X8_reads 6 Z 140 [(0, .ref 26), (1, .int (nI 1))] [.int (nI 1)] m1
          refine pw_iz_eq (tgt := 236) (off := 96) (by omega) (by decide +kernel) (by decide) (fun h => by omega) (fun _ => ?_)
          refine pw_blk (pc' := 144) [.aload 0] (by decide +kernel) ?_
          show pw_V x m_X8_reads 6 Z 144 [(0, .ref 26), (1, .int (nI 1))] [.ref 26] m1
          refine pw_cV (vs := []) (rest := []) k_X8_readClause (c_mrClause m1 hX1 hok X hX s k hs hk hs8 hk6 e he2 hT hW) l_8_180 rfl rfl rfl rfl (by omega) (Nat.le_of_ble_eq_true rfl) (by decide +kernel) ?_
          rintro _ m2 ⟨rfl, hrc⟩
          show pw_V x m_X8_reads 6 Z 147 [(0, .ref 26), (1, .int (nI 1))] [] m2
          obtain ⟨q1, q2, q3, q4⟩ := hrc
          have C2 : m2 26 22 = nI cl := (q1.2 22 (by omega)).trans hcl
          have X2 : MX A m2 := hX1.f (q1.2 16 (by omega)) (q1.1 35 (by omega) (by omega))
          have F2 : pw_rfn mm m2 := pw_rfn_m hF q1
          rcases hp : (pw_cz A s k e).2 with _ | p
          · have W2 : m2 26 21 = nI 0 := by rw [q2, hp]; rfl
            have P2 := q3 hp
            refine pw_blk (pc' := 156) [.aload 0, .dup, .getfield 822, .aload 0, .getfield 821] (by decide +kernel) ?_
            show pw_V x m_X8_reads 6 Z 156 [(0, .ref 26), (1, .int (nI 1))] [.int (m2 26 21), .int (m2 26 22), .ref 26] m2
            rw [show m2 26 21 = nI 0 from W2]
            rw [show m2 26 22 = nI cl from C2]
            refine pw_iz_eq (tgt := 163) (off := 7) (by omega) (by decide +kernel) (by decide) (fun _ => ?_) (fun h => by omega)
            refine pw_blk (pc' := 172) [.iconst 0, .iadd, .putfield 822, .aload 0, .getfield 821] (by decide +kernel) ?_
            show pw_V x m_X8_reads 6 Z 172 [(0, .ref 26), (1, .int (nI 1))] [.int (m2 26 21)] (pw_up m2 26 22 ((nI cl) + (nI 0)))
            rw [show m2 26 21 = nI 0 from W2]
            rw [show (nI cl) + (nI 0) = nI (cl + 0) from nI_add _ _]
            refine pw_iz_eq (tgt := 196) (off := 24) (by omega) (by decide +kernel) (by decide) (fun _ => ?_) (fun h => by omega)
            refine pw_blk (pc' := 203) [.iconst 0, .istore 1, .aload 0, .aload 0, .getfield 821] (by decide +kernel) ?_
            show pw_V x m_X8_reads 6 Z 203 [(1, .int (nI 0)), (0, .ref 26)] [.int (m2 26 21), .ref 26] (pw_up m2 26 22 (nI (cl + 0)))
            rw [show m2 26 21 = nI 0 from W2]
            refine pw_iz_eq (tgt := 221) (off := 18) (by omega) (by decide +kernel) (by decide) (fun _ => ?_) (fun h => by omega)
            refine pw_blk (pc' := 226) [.iconst 0, .putfield 821, .iload 1] (by decide +kernel) ?_
            refine ⟨Or.inl rfl, ?_⟩
            show pw_V x m_X8_reads 6 Z 226 [(1, .int (nI 0)), (0, .ref 26)] [.int (nI 0)] (pw_up (pw_up m2 26 22 (nI (cl + 0))) 26 21 (nI 0))
            refine pw_iz_eq (tgt := 139) (off := -87) (by omega) (by decide +kernel) (by decide) (fun _ => ?_) (fun h => by omega)
            refine pw_blk (pc' := 140) [.iload 1] (by decide +kernel) ?_
            show pw_V x m_X8_reads 6 Z 140 [(1, .int (nI 0)), (0, .ref 26)] [.int (nI 0)] (pw_up (pw_up m2 26 22 (nI (cl + 0))) 26 21 (nI 0))
            refine pw_iz_eq (tgt := 236) (off := 96) (by omega) (by decide +kernel) (by decide) (fun _ => ?_) (fun h => by omega)
            rw [← hZ]
            refine pw_rv (by decide +kernel) ?_
            have g1 : pw_rf A (f + 2) s k e = some (pw_tB A (pw_cz A s k e).1) := by rw [pw_rf, hp]
            have g3 : pw_RF A = some (pw_tB A (pw_cz A s k e).1) := hrf.trans g1
            exact ⟨rfl, pw_rfn_6 (pw_rfn_6 F2 (by decide)) (by decide), by rw [g3]; exact pw_up_gs, fun b z => by rw [g3] at z; cases z; exact (pw_up_26 (by decide)).trans ((pw_up_26 (by decide)).trans P2), fun z => by rw [g3] at z; cases z⟩
          · have W2 : m2 26 21 = nI 1 := by rw [q2, hp]; rfl
            obtain ⟨T2, S2⟩ := q4 p hp
            obtain ⟨u1, u2, u3, u4, u5⟩ := pw_cz_b hp hs8 hk6
            obtain ⟨v1, v2⟩ := pw_cz_n hp hs8 hk6
            have y1 := pw_tb1 (A := A) (pw_cz_e (s := s) (k := k) he2)
            have y2 := pw_tb1 (A := A) y1.2.2
            have bmt := pw_mT_b (A := A) (e := (pw_tE A (pw_cz A s k e).1))
            have g4 := G_ob_n (a := p.2.1) (b := p.2.2) u1 hs hk hk6
            refine pw_blk (pc' := 156) [.aload 0, .dup, .getfield 822, .aload 0, .getfield 821] (by decide +kernel) ?_
            show pw_V x m_X8_reads 6 Z 156 [(0, .ref 26), (1, .int (nI 1))] [.int (m2 26 21), .int (m2 26 22), .ref 26] m2
            rw [show m2 26 21 = nI 1 from W2]
            rw [show m2 26 22 = nI cl from C2]
            refine pw_iz_eq (tgt := 163) (off := 7) (by omega) (by decide +kernel) (by decide) (fun h => by omega) (fun _ => ?_)
            refine pw_blk (pc' := 160) [.iconst 1] (by decide +kernel) ?_
            show pw_V x m_X8_reads 6 Z 160 [(0, .ref 26), (1, .int (nI 1))] [.int (nI 1), .int (nI cl), .ref 26] m2
            refine pw_goto (tgt := 164) (off := 4) (by decide +kernel) (by decide) ?_
            refine pw_blk (pc' := 172) [.iadd, .putfield 822, .aload 0, .getfield 821] (by decide +kernel) ?_
            show pw_V x m_X8_reads 6 Z 172 [(0, .ref 26), (1, .int (nI 1))] [.int (m2 26 21)] (pw_up m2 26 22 ((nI cl) + (nI 1)))
            rw [show m2 26 21 = nI 1 from W2]
            rw [show (nI cl) + (nI 1) = nI (cl + 1) from nI_add _ _]
            refine pw_iz_eq (tgt := 196) (off := 24) (by omega) (by decide +kernel) (by decide) (fun h => by omega) (fun _ => ?_)
            refine pw_blk (pc' := 180) [.aload 0, .getfield 819, .iconst 3] (by decide +kernel) ?_
            show pw_V x m_X8_reads 6 Z 180 [(0, .ref 26), (1, .int (nI 1))] [.int (nI 3), .int (m2 26 19)] (pw_up m2 26 22 (nI (cl + 1)))
            rw [show m2 26 19 = nI (pw_mT A (pw_tE A (pw_cz A s k e).1)) from T2.2.2.1]
            refine pw_in_ne (tgt := 196) (off := 16) (by omega) (by omega) (by decide +kernel) (by decide) (fun h180 => ?_) (fun h180 => ?_)
            · refine pw_blk (pc' := 203) [.iconst 0, .istore 1, .aload 0, .aload 0, .getfield 821] (by decide +kernel) ?_
              show pw_V x m_X8_reads 6 Z 203 [(1, .int (nI 0)), (0, .ref 26)] [.int (m2 26 21), .ref 26] (pw_up m2 26 22 (nI (cl + 1)))
              rw [show m2 26 21 = nI 1 from W2]
              refine pw_iz_eq (tgt := 221) (off := 18) (by omega) (by decide +kernel) (by decide) (fun h => by omega) (fun _ => ?_)
              refine pw_blk (pc' := 207) [.iload 1] (by decide +kernel) ?_
              show pw_V x m_X8_reads 6 Z 207 [(1, .int (nI 0)), (0, .ref 26)] [.int (nI 0), .ref 26] (pw_up m2 26 22 (nI (cl + 1)))
              refine pw_iz_ne (tgt := 217) (off := 10) (by omega) (by decide +kernel) (by decide) (fun h => by omega) (fun _ => ?_)
              refine pw_blk (pc' := 214) [.aload 0, .getfield 819] (by decide +kernel) ?_
              show pw_V x m_X8_reads 6 Z 214 [(1, .int (nI 0)), (0, .ref 26)] [.int (m2 26 19), .ref 26] (pw_up m2 26 22 (nI (cl + 1)))
              rw [show m2 26 19 = nI (pw_mT A (pw_tE A (pw_cz A s k e).1)) from T2.2.2.1]
              refine pw_iz_ne (tgt := 221) (off := 7) (by omega) (by decide +kernel) (by decide) (fun h214 => ?_) (fun h214 => ?_)
              · refine pw_blk (pc' := 226) [.iconst 0, .putfield 821, .iload 1] (by decide +kernel) ?_
                refine ⟨Or.inl rfl, ?_⟩
                show pw_V x m_X8_reads 6 Z 226 [(1, .int (nI 0)), (0, .ref 26)] [.int (nI 0)] (pw_up (pw_up m2 26 22 (nI (cl + 1))) 26 21 (nI 0))
                refine pw_iz_eq (tgt := 139) (off := -87) (by omega) (by decide +kernel) (by decide) (fun _ => ?_) (fun h => by omega)
                refine pw_blk (pc' := 140) [.iload 1] (by decide +kernel) ?_
                show pw_V x m_X8_reads 6 Z 140 [(1, .int (nI 0)), (0, .ref 26)] [.int (nI 0)] (pw_up (pw_up m2 26 22 (nI (cl + 1))) 26 21 (nI 0))
                refine pw_iz_eq (tgt := 236) (off := 96) (by omega) (by decide +kernel) (by decide) (fun _ => ?_) (fun h => by omega)
                rw [← hZ]
                refine pw_rv (by decide +kernel) ?_
                have t0 : ¬ pw_tT A (pw_tE A (pw_cz A s k e).1) = 0 := fun z => h214 (pw_mT0.mpr z)
                have g1 : pw_rf A (f + 2) s k e = some (pw_tB A (pw_tE A (pw_cz A s k e).1)) := by rw [pw_rf, hp]; dsimp only; rw [if_neg t0, if_neg (fun z => by have q := pw_mT3.mpr z.1; omega)]
                have g3 : pw_RF A = some (pw_tB A (pw_tE A (pw_cz A s k e).1)) := hrf.trans g1
                exact ⟨rfl, pw_rfn_6 (pw_rfn_6 F2 (by decide)) (by decide), by rw [g3]; exact pw_up_gs, fun b z => by rw [g3] at z; cases z; exact (pw_up_26 (by decide)).trans ((pw_up_26 (by decide)).trans T2.2.1), fun z => by rw [g3] at z; cases z⟩
              · refine pw_blk (pc' := 218) [.iconst 1] (by decide +kernel) ?_
                show pw_V x m_X8_reads 6 Z 218 [(1, .int (nI 0)), (0, .ref 26)] [.int (nI 1), .ref 26] (pw_up m2 26 22 (nI (cl + 1)))
                refine pw_goto (tgt := 222) (off := 4) (by decide +kernel) (by decide) ?_
                refine pw_blk (pc' := 226) [.putfield 821, .iload 1] (by decide +kernel) ?_
                refine ⟨Or.inr rfl, ?_⟩
                show pw_V x m_X8_reads 6 Z 226 [(1, .int (nI 0)), (0, .ref 26)] [.int (nI 0)] (pw_up (pw_up m2 26 22 (nI (cl + 1))) 26 21 (nI 1))
                refine pw_iz_eq (tgt := 139) (off := -87) (by omega) (by decide +kernel) (by decide) (fun _ => ?_) (fun h => by omega)
                refine pw_blk (pc' := 140) [.iload 1] (by decide +kernel) ?_
                show pw_V x m_X8_reads 6 Z 140 [(1, .int (nI 0)), (0, .ref 26)] [.int (nI 0)] (pw_up (pw_up m2 26 22 (nI (cl + 1))) 26 21 (nI 1))
                refine pw_iz_eq (tgt := 236) (off := 96) (by omega) (by decide +kernel) (by decide) (fun _ => ?_) (fun h => by omega)
                rw [← hZ]
                refine pw_rv (by decide +kernel) ?_
                have t0 : pw_tT A (pw_tE A (pw_cz A s k e).1) = 0 := pw_mT0.mp h214
                have g1 : pw_rf A (f + 2) s k e = none := by rw [pw_rf, hp]; dsimp only; rw [if_pos t0]
                have g2 : pw_cq A (f + 2) s k e = [p] := by rw [pw_cq, hp]; dsimp only; rw [if_pos t0]
                have g3 : pw_RF A = none := hrf.trans g1
                have gl : (pw_CQ A).length = cl + 1 := hln.trans (by rw [g2, List.length_singleton])
                have gq : G_oq A (pw_CQ A) = G_o1 X p := hcs.trans (by rw [g2]; rfl)
                refine ⟨rfl, pw_rfn_6 (pw_rfn_6 F2 (by decide)) (by decide), by rw [g3]; exact pw_up_gs, fun b z => (by rw [g3] at z; cases z), fun _ => ⟨?_, ?_⟩⟩
                · rw [gl]; exact (pw_up_26 (by decide)).trans pw_up_gs
                · rw [gq]; exact SD.w (SD.f S2 (fun c _ _ => pw_up_ne (by omega)) (fun j _ => pw_up_26 (by omega)))
            · refine pw_blk (pc' := 189) [.aload 0, .getfield 822, .iconst (14)] (by decide +kernel) ?_
              show pw_V x m_X8_reads 6 Z 189 [(0, .ref 26), (1, .int (nI 1))] [.int (nI 14), .int (nI (cl + 1))] (pw_up m2 26 22 (nI (cl + 1)))
              refine pw_in_ge (tgt := 196) (off := 7) (by omega) (by omega) (by decide +kernel) (by decide) (fun h189 => ?_) (fun h189 => ?_)
              · refine pw_blk (pc' := 203) [.iconst 0, .istore 1, .aload 0, .aload 0, .getfield 821] (by decide +kernel) ?_
                show pw_V x m_X8_reads 6 Z 203 [(1, .int (nI 0)), (0, .ref 26)] [.int (m2 26 21), .ref 26] (pw_up m2 26 22 (nI (cl + 1)))
                rw [show m2 26 21 = nI 1 from W2]
                refine pw_iz_eq (tgt := 221) (off := 18) (by omega) (by decide +kernel) (by decide) (fun h => by omega) (fun _ => ?_)
                refine pw_blk (pc' := 207) [.iload 1] (by decide +kernel) ?_
                show pw_V x m_X8_reads 6 Z 207 [(1, .int (nI 0)), (0, .ref 26)] [.int (nI 0), .ref 26] (pw_up m2 26 22 (nI (cl + 1)))
                refine pw_iz_ne (tgt := 217) (off := 10) (by omega) (by decide +kernel) (by decide) (fun h => by omega) (fun _ => ?_)
                refine pw_blk (pc' := 214) [.aload 0, .getfield 819] (by decide +kernel) ?_
                show pw_V x m_X8_reads 6 Z 214 [(1, .int (nI 0)), (0, .ref 26)] [.int (m2 26 19), .ref 26] (pw_up m2 26 22 (nI (cl + 1)))
                rw [show m2 26 19 = nI (pw_mT A (pw_tE A (pw_cz A s k e).1)) from T2.2.2.1]
                refine pw_iz_ne (tgt := 221) (off := 7) (by omega) (by decide +kernel) (by decide) (fun h214 => ?_) (fun h214 => ?_)
                · refine pw_blk (pc' := 226) [.iconst 0, .putfield 821, .iload 1] (by decide +kernel) ?_
                  refine ⟨Or.inl rfl, ?_⟩
                  show pw_V x m_X8_reads 6 Z 226 [(1, .int (nI 0)), (0, .ref 26)] [.int (nI 0)] (pw_up (pw_up m2 26 22 (nI (cl + 1))) 26 21 (nI 0))
                  refine pw_iz_eq (tgt := 139) (off := -87) (by omega) (by decide +kernel) (by decide) (fun _ => ?_) (fun h => by omega)
                  refine pw_blk (pc' := 140) [.iload 1] (by decide +kernel) ?_
                  show pw_V x m_X8_reads 6 Z 140 [(1, .int (nI 0)), (0, .ref 26)] [.int (nI 0)] (pw_up (pw_up m2 26 22 (nI (cl + 1))) 26 21 (nI 0))
                  refine pw_iz_eq (tgt := 236) (off := 96) (by omega) (by decide +kernel) (by decide) (fun _ => ?_) (fun h => by omega)
                  rw [← hZ]
                  refine pw_rv (by decide +kernel) ?_
                  have t0 : ¬ pw_tT A (pw_tE A (pw_cz A s k e).1) = 0 := fun z => h214 (pw_mT0.mpr z)
                  have g1 : pw_rf A (f + 2) s k e = some (pw_tB A (pw_tE A (pw_cz A s k e).1)) := by rw [pw_rf, hp]; dsimp only; rw [if_neg t0, if_neg (fun z => by have q := pw_mT3.mpr z.1; omega)]
                  have g3 : pw_RF A = some (pw_tB A (pw_tE A (pw_cz A s k e).1)) := hrf.trans g1
                  exact ⟨rfl, pw_rfn_6 (pw_rfn_6 F2 (by decide)) (by decide), by rw [g3]; exact pw_up_gs, fun b z => by rw [g3] at z; cases z; exact (pw_up_26 (by decide)).trans ((pw_up_26 (by decide)).trans T2.2.1), fun z => by rw [g3] at z; cases z⟩
                · omega
              · refine pw_blk (pc' := 193) [.iconst 1] (by decide +kernel) ?_
                show pw_V x m_X8_reads 6 Z 193 [(0, .ref 26), (1, .int (nI 1))] [.int (nI 1)] (pw_up m2 26 22 (nI (cl + 1)))
                refine pw_goto (tgt := 197) (off := 4) (by decide +kernel) (by decide) ?_
                refine pw_blk (pc' := 203) [.istore 1, .aload 0, .aload 0, .getfield 821] (by decide +kernel) ?_
                show pw_V x m_X8_reads 6 Z 203 [(1, .int (nI 1)), (0, .ref 26)] [.int (m2 26 21), .ref 26] (pw_up m2 26 22 (nI (cl + 1)))
                rw [show m2 26 21 = nI 1 from W2]
                refine pw_iz_eq (tgt := 221) (off := 18) (by omega) (by decide +kernel) (by decide) (fun h => by omega) (fun _ => ?_)
                refine pw_blk (pc' := 207) [.iload 1] (by decide +kernel) ?_
                show pw_V x m_X8_reads 6 Z 207 [(1, .int (nI 1)), (0, .ref 26)] [.int (nI 1), .ref 26] (pw_up m2 26 22 (nI (cl + 1)))
                refine pw_iz_ne (tgt := 217) (off := 10) (by omega) (by decide +kernel) (by decide) (fun _ => ?_) (fun h => by omega)
                refine pw_blk (pc' := 218) [.iconst 1] (by decide +kernel) ?_
                show pw_V x m_X8_reads 6 Z 218 [(1, .int (nI 1)), (0, .ref 26)] [.int (nI 1), .ref 26] (pw_up m2 26 22 (nI (cl + 1)))
                refine pw_goto (tgt := 222) (off := 4) (by decide +kernel) (by decide) ?_
                refine pw_blk (pc' := 226) [.putfield 821, .iload 1] (by decide +kernel) ?_
                refine ⟨Or.inr rfl, ?_⟩
                show pw_V x m_X8_reads 6 Z 226 [(1, .int (nI 1)), (0, .ref 26)] [.int (nI 1)] (pw_up (pw_up m2 26 22 (nI (cl + 1))) 26 21 (nI 1))
                refine pw_iz_eq (tgt := 139) (off := -87) (by omega) (by decide +kernel) (by decide) (fun h => by omega) (fun _ => ?_)
                refine pw_blk (pc' := 230) [.aload 0] (by decide +kernel) ?_
                show pw_V x m_X8_reads 6 Z 230 [(1, .int (nI 1)), (0, .ref 26)] [.ref 26] (pw_up (pw_up m2 26 22 (nI (cl + 1))) 26 21 (nI 1))
                refine pw_cV (vs := []) (rest := []) k_X8_next (c_mnext (A := A) (pw_up (pw_up m2 26 22 (nI (cl + 1))) 26 21 (nI 1)) (MX.u (MX.u X2 (by decide)) (by decide)) hok (pw_tE A (pw_tE A (pw_cz A s k e).1)) ((pw_up_26 (by decide)).trans ((pw_up_26 (by decide)).trans T2.1)) y2.2.2) l_8_127 rfl rfl rfl rfl (by omega) (Nat.le_of_ble_eq_true rfl) (by decide +kernel) ?_
                rintro _ m1 ⟨rfl, e1⟩
                rw [e1]
                clear e1 m1
                show pw_V x m_X8_reads 6 Z 233 [(1, .int (nI 1)), (0, .ref 26)] [] (pw_tok A (pw_up (pw_up m2 26 22 (nI (cl + 1))) 26 21 (nI 1)) (pw_tE A (pw_tE A (pw_cz A s k e).1)))
                obtain ⟨m3, hm3⟩ : ∃ m, m = pw_tok A (pw_up (pw_up m2 26 22 (nI (cl + 1))) 26 21 (nI 1)) (pw_tE A (pw_tE A (pw_cz A s k e).1)) := ⟨_, rfl⟩
                rw [← hm3]
                have T3 : TK A m3 (pw_tE A (pw_tE A (pw_cz A s k e).1)) := by rw [hm3]; exact pw_tok_TK
                have X3 : MX A m3 := by rw [hm3]; exact MX.t (MX.u (MX.u X2 (by decide)) (by decide))
                have S3 : SD (G_o1 X p) m3 := by rw [hm3]; exact SD.t (SD.w (SD.f S2 (fun c _ _ => pw_up_ne (by omega)) (fun j _ => pw_up_26 (by omega))))
                have F3 : pw_rfn mm m3 := by rw [hm3]; exact pw_rfn_k (pw_rfn_6 (pw_rfn_6 F2 (by decide)) (by decide))
                have C3 : m3 26 22 = nI (cl + 1) := by rw [hm3]; exact (pw_tok_6 (by omega)).trans ((pw_up_26 (by decide)).trans pw_up_gs)
                have W3 : m3 26 21 = nI 1 := by rw [hm3]; exact (pw_tok_6 (by omega)).trans pw_up_gs
                clear hm3
                have t0 : ¬ pw_tT A (pw_tE A (pw_cz A s k e).1) = 0 := fun z => by have q := pw_mT0.mpr z; omega
                have t3 : pw_tS A (pw_tE A (pw_cz A s k e).1) = true := pw_mT3.mp h180
                have g1 : pw_rf A (f + 2) s k e = pw_rf A (f + 1) (pw_s2_ s p.1 p.2.1) (pw_k2_ k p.1) (pw_tE A (pw_tE A (pw_cz A s k e).1)) := by rw [pw_rf, hp]; dsimp only; rw [if_neg t0, if_pos ⟨t3, by omega⟩]
                have g2 : pw_cq A (f + 2) s k e = p :: pw_cq A (f + 1) (pw_s2_ s p.1 p.2.1) (pw_k2_ k p.1) (pw_tE A (pw_tE A (pw_cz A s k e).1)) := by rw [pw_cq, hp]; dsimp only; rw [if_neg t0, if_pos ⟨t3, by omega⟩]
                refine pw_goto (tgt := 139) (off := -94) (by decide +kernel) (by decide) ?_
                refine pw_lvp [1, 0] rfl ?_
                exact ih (cl + 1) (pw_s2_ s p.1 p.2.1) (pw_k2_ k p.1) (pw_tE A (pw_tE A (pw_cz A s k e).1)) m3 (G_o1 X p) (by omega) F3 X3 S3 g4.1 g4.2 v1 v2 y2.2.2 T3 W3 C3 (hrf.trans g1) (hcs.trans (by rw [g2]; rfl)) (hln.trans (by rw [g2, List.length_cons]; omega))
      · refine pw_blk (pc' := 91) [.aload 0, .getfield 827, .iload 1, .aload 0, .getfield 804, .iload 1, .iaload, .iastore, .iinc 1 1] (by decide +kernel) ?_
        refine ⟨ix, rfl, by omega, ?_⟩
        refine ⟨ix, rfl, by omega, ?_⟩
        show pw_V x m_X8_reads 6 Z 91 [(1, .int ((nI ix) + (nI 1))), (0, .ref 26)] [] (pw_up (pw_cpC (pw_cpC (pw_cpC (pw_up (pw_up mm 26 23 (mm 26 0)) 26 25 (mm 26 2)) 36 27 16) 37 28 18) 38 29 ix) 38 ix ((pw_cpC (pw_cpC (pw_cpC (pw_up (pw_up mm 26 23 (mm 26 0)) 26 25 (mm 26 2)) 36 27 16) 37 28 18) 38 29 ix) 29 ix))
        rw [show (nI ix) + (nI 1) = nI (ix + 1) from nI_add _ _]
        refine pw_goto (tgt := 70) (off := -21) (by decide +kernel) (by decide) ?_
        rw [show pw_up (pw_cpC (pw_cpC (pw_cpC (pw_up (pw_up mm 26 23 (mm 26 0)) 26 25 (mm 26 2)) 36 27 16) 37 28 18) 38 29 ix) 38 ix ((pw_cpC (pw_cpC (pw_cpC (pw_up (pw_up mm 26 23 (mm 26 0)) 26 25 (mm 26 2)) 36 27 16) 37 28 18) 38 29 ix) 29 ix) = pw_cpC (pw_cpC (pw_cpC (pw_up (pw_up mm 26 23 (mm 26 0)) 26 25 (mm 26 2)) 36 27 16) 37 28 18) 38 29 (ix + 1) from pw_cpC_s (by decide)]
        refine pw_lvp [1, 0] rfl ?_
        exact ih (by omega)
    · refine pw_blk (pc' := 65) [.aload 0, .getfield 826, .iload 1, .aload 0, .getfield 803, .iload 1, .iaload, .iastore, .iinc 1 1] (by decide +kernel) ?_
      refine ⟨ix, rfl, by omega, ?_⟩
      refine ⟨ix, rfl, by omega, ?_⟩
      show pw_V x m_X8_reads 6 Z 65 [(1, .int ((nI ix) + (nI 1))), (0, .ref 26)] [] (pw_up (pw_cpC (pw_cpC (pw_up (pw_up mm 26 23 (mm 26 0)) 26 25 (mm 26 2)) 36 27 16) 37 28 ix) 37 ix ((pw_cpC (pw_cpC (pw_up (pw_up mm 26 23 (mm 26 0)) 26 25 (mm 26 2)) 36 27 16) 37 28 ix) 28 ix))
      rw [show (nI ix) + (nI 1) = nI (ix + 1) from nI_add _ _]
      refine pw_goto (tgt := 44) (off := -21) (by decide +kernel) (by decide) ?_
      rw [show pw_up (pw_cpC (pw_cpC (pw_up (pw_up mm 26 23 (mm 26 0)) 26 25 (mm 26 2)) 36 27 16) 37 28 ix) 37 ix ((pw_cpC (pw_cpC (pw_up (pw_up mm 26 23 (mm 26 0)) 26 25 (mm 26 2)) 36 27 16) 37 28 ix) 28 ix) = pw_cpC (pw_cpC (pw_up (pw_up mm 26 23 (mm 26 0)) 26 25 (mm 26 2)) 36 27 16) 37 28 (ix + 1) from pw_cpC_s (by decide)]
      refine pw_lvp [1, 0] rfl ?_
      exact ih (by omega)
  · refine pw_blk (pc' := 39) [.aload 0, .getfield 824, .iload 1, .aload 0, .getfield 801, .iload 1, .iaload, .iastore, .iinc 1 1] (by decide +kernel) ?_
    refine ⟨ix, rfl, by omega, ?_⟩
    refine ⟨ix, rfl, by omega, ?_⟩
    show pw_V x m_X8_reads 6 Z 39 [(1, .int ((nI ix) + (nI 1))), (0, .ref 26)] [] (pw_up (pw_cpC (pw_up (pw_up mm 26 23 (mm 26 0)) 26 25 (mm 26 2)) 36 27 ix) 36 ix ((pw_cpC (pw_up (pw_up mm 26 23 (mm 26 0)) 26 25 (mm 26 2)) 36 27 ix) 27 ix))
    rw [show (nI ix) + (nI 1) = nI (ix + 1) from nI_add _ _]
    refine pw_goto (tgt := 18) (off := -21) (by decide +kernel) (by decide) ?_
    rw [show pw_up (pw_cpC (pw_up (pw_up mm 26 23 (mm 26 0)) 26 25 (mm 26 2)) 36 27 ix) 36 ix ((pw_cpC (pw_up (pw_up mm 26 23 (mm 26 0)) 26 25 (mm 26 2)) 36 27 ix) 27 ix) = pw_cpC (pw_up (pw_up mm 26 23 (mm 26 0)) 26 25 (mm 26 2)) 36 27 (ix + 1) from pw_cpC_s (by decide)]
    refine pw_lvp [1, 0] rfl ?_
    exact ih (by omega)
