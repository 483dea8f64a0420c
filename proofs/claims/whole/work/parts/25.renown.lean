def pw_qr (A : pw_m) (k s : Nat) : Bool := pw_en2 A (some k) (pw_si A (pw_bh (pw_n A) s)) || pw_en2 A (some k) (pw_si A (pw_ah (pw_n A) s))
def pw_crv (A : pw_m) (t k : Nat) : Int32 := match pw_pl A k with
  | none => A 43 k
  | some s => if t.testBit k then A 43 k else if pw_qr A k s then nI (pw_g A 43 k - 1) else nI (min 9 (pw_g A 43 k + 1))
def pw_crI (A : pw_m) (t i : Nat) : pw_m := fun c => if c = 43 then pw_c6 (A 43) (pw_crv A t) i else A c
theorem pw_crI_g {A : pw_m} {t i : Nat} : pw_crI A t i 43 i = A 43 i := by simp [pw_crI, pw_c6]
theorem pw_crI_o {A : pw_m} {t i c : Nat} (h : c ≠ 43) : pw_crI A t i c = A c := by simp [pw_crI, h]
theorem pw_crI_s {A : pw_m} {t i : Nat} : pw_up (pw_crI A t i) 43 i (pw_crv A t i) = pw_crI A t (i + 1) := by
  funext c
  by_cases h : c = 43
  · subst h; rw [pw_up_eq]; exact pw_c6_s
  · rw [pw_up_ne h, pw_crI_o h, pw_crI_o h]
theorem pw_c6_n {f g : Nat → Int32} {i : Nat} (h : g i = f i) : pw_c6 f g i = pw_c6 f g (i + 1) := by
  rw [← pw_c6_s, h]
  funext k
  unfold upd pw_c6
  by_cases q : k = i
  · subst q; simp
  · rw [if_neg q]
theorem pw_crI_n {A : pw_m} {t i : Nat} (h : pw_crv A t i = A 43 i) : pw_crI A t i = pw_crI A t (i + 1) := by
  funext c
  by_cases q : c = 43
  · subst q; exact pw_c6_n h
  · rw [pw_crI_o q, pw_crI_o q]
theorem pw_crI_0 {A : pw_m} {t : Nat} : pw_crI A t 0 = A := by
  funext c
  unfold pw_crI
  split
  · rename_i h; subst h; exact pw_c6_0
  · rfl
theorem pw_crv_ok {A : pw_m} {t k : Nat} (h : pw_ok A) (hk : k < 6) : pw_fine (pw_crv A t k) 10 := by
  have b := pw_b43 h hk
  unfold pw_crv
  split
  · exact h.2.1.2.1 k hk
  · split
    · exact h.2.1.2.1 k hk
    · split
      · exact pw_fine_nI (by omega) (by omega)
      · exact pw_fine_nI (by omega) (by omega)
theorem pw_ok_crI {A : pw_m} {t i : Nat} (h : pw_ok A) : pw_ok (pw_crI A t i) := by
  refine pw_ok_e (fun c hc => pw_crI_o (by omega)) (by rw [pw_crI_o (by omega)]) (by rw [pw_crI_o (by omega)]) ?_ h
  obtain ⟨a, c, f⟩ := h.2.1
  refine ⟨by rw [pw_crI_o (by omega)]; exact a, fun z hz => ?_, by rw [pw_crI_o (c := 42 + 2) (by omega), pw_crI_o (c := 42 + 3) (by omega)]; exact f⟩
  show pw_fine (pw_c6 (A 43) (pw_crv A t) i z) 10
  unfold pw_c6
  split
  · exact pw_crv_ok h hz
  · exact c z hz
theorem pw_max0 {g : Nat} (h : g < 2 ^ 30) : pw_max (nI 0) (nI g - nI 1) = nI (g - 1) := by
  unfold pw_max
  rcases Nat.eq_zero_or_pos g with q | q
  · subst q; decide
  · rw [pk_sub (show 1 ≤ g from q)]
    by_cases z : 0 < g - 1
    · rw [if_pos (nI_lt z (by omega))]
    · rw [show g - 1 = 0 by omega]; rfl
/-! news -/
def pw_hn (A : pw_m) (k : Nat) : Nat := match pw_pl A k with
  | none => 0
  | some s => match pw_si A (pw_bh (pw_n A) s) with
    | none => 0
    | some t => pw_g A 44 t
def pw_hdI (A : pw_m) (i : Nat) : pw_m := fun c => if c = 25 then pw_c6 (A 25) (fun k => nI (pw_hn A k)) i else A c
theorem pw_hdI_o {A : pw_m} {i c : Nat} (h : c ≠ 25) : pw_hdI A i c = A c := by simp [pw_hdI, h]
theorem pw_hdI_s {A : pw_m} {i : Nat} : pw_up (pw_hdI A i) 25 i (nI (pw_hn A i)) = pw_hdI A (i + 1) := by
  funext c
  by_cases h : c = 25
  · subst h; rw [pw_up_eq]; exact pw_c6_s (g := fun k => nI (pw_hn A k))
  · rw [pw_up_ne h, pw_hdI_o h, pw_hdI_o h]
theorem pw_hdI_0 {A : pw_m} : pw_hdI A 0 = A := by
  funext c
  unfold pw_hdI
  split
  · rename_i h; subst h; exact pw_c6_0
  · rfl
theorem pw_ok_hdI {A : pw_m} {i : Nat} (h : pw_ok A) : pw_ok (pw_hdI A i) := pw_ok_f (fun c hc => pw_hdI_o (by omega)) (by rw [pw_hdI_o (by omega)]) (by rw [pw_hdI_o (by omega)]) h
theorem pw_hn_lt {A : pw_m} {k : Nat} (h : pw_ok A) : pw_hn A k < 16 := by
  unfold pw_hn
  split
  · omega
  · split
    · omega
    · rename_i t ht; exact pw_b44 h (pw_si_lt ht)
def pw_snI (A : pw_m) (i : Nat) : pw_m := fun c => if c = 44 then pw_c6 (A 44) (fun k => nI (pw_g A 44 k ||| pw_hn A k)) i else if c = 25 then pw_c6 (A 25) (fun k => nI (pw_hn A k)) (pw_k A) else A c
theorem pw_snI_o {A : pw_m} {i c : Nat} (h : c ≠ 44) (h2 : c ≠ 25) : pw_snI A i c = A c := by simp [pw_snI, h, h2]
theorem pw_snI_s {A : pw_m} {i : Nat} : pw_up (pw_snI A i) 44 i (nI (pw_g A 44 i ||| pw_hn A i)) = pw_snI A (i + 1) := by
  funext c
  by_cases h : c = 44
  · subst h; rw [pw_up_eq]; exact pw_c6_s (g := fun k => nI (pw_g A 44 k ||| pw_hn A k))
  · rw [pw_up_ne h]; unfold pw_snI; rw [if_neg h, if_neg h]
theorem pw_snI_0 {A : pw_m} : pw_hdI A (pw_k A) = pw_snI A 0 := by
  funext c
  unfold pw_snI
  split
  · rename_i h; subst h; rw [pw_c6_0, pw_hdI_o (by omega)]
  · split
    · rename_i h; subst h; simp [pw_hdI]
    · rename_i h; rw [pw_hdI_o h]
theorem pw_snI_g {A : pw_m} {i : Nat} : pw_snI A i 44 i = A 44 i := by simp [pw_snI, pw_c6]
theorem pw_snI_h {A : pw_m} {i j : Nat} (h : j < pw_k A) : pw_snI A i 25 j = nI (pw_hn A j) := by simp [pw_snI, pw_c6, h]
theorem pw_ok_snI {A : pw_m} {i : Nat} (h : pw_ok A) : pw_ok (pw_snI A i) := by
  refine pw_ok_e (fun c hc => pw_snI_o (by omega) (by omega)) (by rw [pw_snI_o (by omega) (by omega)]) (by rw [pw_snI_o (by omega) (by omega)]) ?_ h
  obtain ⟨a, c, f, g⟩ := h.2.1
  refine ⟨by rw [pw_snI_o (by omega) (by omega)]; exact a, by rw [pw_snI_o (c := 42 + 1) (by omega) (by omega)]; exact c, fun z hz => ?_, by rw [pw_snI_o (c := 42 + 3) (by omega) (by omega)]; exact g⟩
  show pw_fine (pw_c6 (A 44) (fun k => nI (pw_g A 44 k ||| pw_hn A k)) i z) 16
  unfold pw_c6
  split
  · exact pw_fine_nI (Nat.or_lt_two_pow (n := 4) (pw_b44 h hz) (pw_hn_lt h)) (by omega)
  · exact f z hz
/-! who is there no more -/
def pw_an (a b : Nat) : Nat := a ^^^ (a &&& b)
theorem pw_anN : ∀ a, a < 64 → ∀ b, b < 64 → nI a &&& (nI b ^^^ (-1)) = nI (pw_an a b) := by decide +kernel
theorem pw_an_bit {a b i : Nat} : (pw_an a b).testBit i = (a.testBit i && !b.testBit i) := by
  unfold pw_an
  rw [Nat.testBit_xor, Nat.testBit_and]
  cases a.testBit i <;> cases b.testBit i <;> rfl
theorem pw_an_lt {a b k : Nat} (h : a < 2 ^ k) : pw_an a b < 2 ^ k := by
  apply Nat.lt_pow_two_of_testBit
  intro i hi
  rw [pw_an_bit, Nat.testBit_lt_two_pow (Nat.lt_of_lt_of_le h (Nat.pow_le_pow_right (by omega) hi))]
  rfl
theorem pw_ok_th {A : pw_m} {v : Nat} (h : pw_ok A) (hv : v < 2 ^ pw_k A) : pw_ok (pw_up A 42 1 (nI v)) := by
  have hv64 : v < 64 := Nat.lt_of_lt_of_le hv (Nat.pow_le_pow_right (by omega) (pw_bk h) : 2 ^ pw_k A ≤ 2 ^ 6)
  refine pw_ok_e (fun c hc => pw_up_ne (by omega)) (by rw [pw_up_ne (by omega)]) (by rw [pw_up_ne (by omega)]) ?_ h
  obtain ⟨⟨a, b⟩, c⟩ := h.2.1
  refine ⟨⟨by rw [pw_up_eq]; simpa [upd] using a, ?_⟩, by rw [pw_up_ne (by omega), pw_up_ne (by omega), pw_up_ne (by omega)]; exact c⟩
  rw [pw_up_eq]
  have hp : 2 ^ pw_k A ≤ 64 := Nat.pow_le_pow_right (by omega) (pw_bk h)
  simpa [upd] using pw_fine_nI hv (by omega)
theorem pw_ok_dy {A : pw_m} {v : Nat} (h : pw_ok A) (hv : v < 1000) : pw_ok (pw_up A 42 0 (nI v)) := by
  refine pw_ok_e (fun c hc => pw_up_ne (by omega)) (by rw [pw_up_ne (by omega)]) (by rw [pw_up_ne (by omega)]) ?_ h
  obtain ⟨⟨a, b⟩, c⟩ := h.2.1
  refine ⟨⟨?_, by rw [pw_up_eq]; simpa [upd] using b⟩, by rw [pw_up_ne (by omega), pw_up_ne (by omega), pw_up_ne (by omega)]; exact c⟩
  rw [pw_up_eq]
  simpa [upd] using pw_fine_nI hv (by omega)

set_option maxHeartbeats 4000000 in
set_option maxRecDepth 100000 in
theorem c_changeRenown (t : Nat) (mm : pw_m) (hok : pw_ok mm) (ht : t < 64) : pw_Ct 2 yX7_changeRenown m_X7_changeRenown [.ref 0, .int (nI t)] mm (fun r m' => r = none ∧ m' = pw_crI mm t (pw_k mm)) := by
  refine pw_ct (by decide +kernel) rfl (Nat.le_of_ble_eq_true rfl) (fun x => ?_)
  generalize hZ : pw_Z x _ = Z
  have bn := pw_bn hok
  have bk := pw_bk hok
  have loop : ∀ i : Nat, i ≤ pw_k mm → pw_V x m_X7_changeRenown 2 Z 2 [(0, .ref 0), (1, .int (nI t)), (2, .int (nI i))] [] (pw_crI mm t i) := by
    refine pw_dn (pw_k mm) (fun i hi ih => ?_)
    have hokI : pw_ok (pw_crI mm t i) := pw_ok_crI hok
    refine pw_blk (pc' := 10) [.iload 2, .aload 0, .getfield 701, .getfield 501] (by decide +kernel) ?_
    show pw_V x m_X7_changeRenown 2 Z 10 [(0, .ref 0), (1, .int (nI t)), (2, .int (nI i))] [.int (mm 4 1), .int (nI i)] (pw_crI mm t i)
    rw [show mm 4 1 = nI (pw_k mm) from pw_q41 hok]
    refine pw_in_ge (tgt := 139) (off := 129) (by omega) (by omega) (by decide +kernel) (by decide) (fun h10 => ?_) (fun h10 => ?_)
    · rw [← hZ]
      refine pw_rv (by decide +kernel) ?_
      have e : i = pw_k mm := by omega
      subst e
      exact ⟨rfl, rfl⟩
    · refine pw_blk (pc' := 25) [.aload 0, .getfield 702, .getfield 4, .iload 2, .iaload, .istore 3, .iload 3, .iconst (-1)] (by decide +kernel) ?_
      refine ⟨i, rfl, by omega, ?_⟩
      show pw_V x m_X7_changeRenown 2 Z 25 [(3, .int (mm 45 i)), (0, .ref 0), (1, .int (nI t)), (2, .int (nI i))] [.int (-1), .int (mm 45 i)] (pw_crI mm t i)
      rw [show mm 45 i = pw_o (pw_pl mm i) from pw_q45 hok (by omega)]
      rcases h25 : pw_pl mm i with _ | s25
      · show pw_V x m_X7_changeRenown 2 Z 25 [(3, .int (-1)), (0, .ref 0), (1, .int (nI t)), (2, .int (nI i))] [.int (-1), .int (-1)] (pw_crI mm t i)
        refine pw_ic_eq (tgt := 133) (off := 108) (by decide +kernel) (by decide) (fun _ => ?_) (fun h => absurd rfl h)
        refine pw_blk (pc' := 136) [.iinc 2 1] (by decide +kernel) ?_
        show pw_V x m_X7_changeRenown 2 Z 136 [(2, .int ((nI i) + (nI 1))), (3, .int (-1)), (0, .ref 0), (1, .int (nI t))] [] (pw_crI mm t i)
        rw [show (nI i) + (nI 1) = nI (i + 1) from nI_add _ _]
        refine pw_goto (tgt := 2) (off := -134) (by decide +kernel) (by decide) ?_
        rw [pw_crI_n (show pw_crv mm t i = mm 43 i from by simp [pw_crv, h25])]
        refine pw_lvp [2, 3, 0] rfl ?_
        exact ih (by omega)
      · show pw_V x m_X7_changeRenown 2 Z 25 [(3, .int (nI s25)), (0, .ref 0), (1, .int (nI t)), (2, .int (nI i))] [.int (-1), .int (nI s25)] (pw_crI mm t i)
        have b25 := pw_b45 hok (show i < 6 by omega) h25
        refine pw_ic_eq (tgt := 133) (off := 108) (by decide +kernel) (by decide) (fun h => absurd h (pw_n1 (by omega))) (fun _ => ?_)
        have bh := pw_bh_lt b25
        have ba := pw_ah_lt b25
        have b43 := pw_b43 hok (show i < 6 by omega)
        refine pw_blk (pc' := 30) [.iload 1, .iload 2] (by decide +kernel) ?_
        show pw_V x m_X7_changeRenown 2 Z 30 [(3, .int (nI s25)), (0, .ref 0), (1, .int (nI t)), (2, .int (nI i))] [.int (nI i), .int (nI t)] (pw_crI mm t i)
        refine pw_cS (vs := [.int (nI t), .int (nI i)]) (rest := []) k_X7_has (c_has (nI t) (nI i) (pw_crI mm t i)) l_7_124 rfl (by decide) (Nat.le_of_ble_eq_true rfl) (by decide +kernel) ?_
        rintro _ m1 ⟨rfl, e1⟩
        rw [e1]
        clear e1 m1
        show pw_V x m_X7_changeRenown 2 Z 33 [(3, .int (nI s25)), (0, .ref 0), (1, .int (nI t)), (2, .int (nI i))] [.int (pw_b (pw_hs (nI t) (nI i)))] (pw_crI mm t i)
        rw [pw_hs_n (by omega) (by omega)]
        refine pw_ib_eq (tgt := 39) (off := 6) (by decide +kernel) (by decide) (fun h33 => ?_) (fun h33 => ?_)
        · refine pw_blk (pc' := 43) [.aload 0, .iload 2, .aload 0, .iload 3] (by decide +kernel) ?_
          show pw_V x m_X7_changeRenown 2 Z 43 [(3, .int (nI s25)), (0, .ref 0), (1, .int (nI t)), (2, .int (nI i))] [.int (nI s25), .ref 0, .int (nI i), .ref 0] (pw_crI mm t i)
          refine pw_cV (vs := [.int (nI s25)]) (rest := [.int (nI i), .ref 0]) k_X7_whoSitsBehind (c_whoSitsBehind s25 (pw_crI mm t i) hokI (show s25 < pw_n mm from by omega)) l_7_274 rfl rfl rfl rfl (by decide) (Nat.le_of_ble_eq_true rfl) (by decide +kernel) ?_
          rintro _ m1 ⟨rfl, e1⟩
          rw [e1]
          clear e1 m1
          show pw_V x m_X7_changeRenown 2 Z 46 [(3, .int (nI s25)), (0, .ref 0), (1, .int (nI t)), (2, .int (nI i))] [.int (pw_o (pw_si mm (pw_bh (pw_n mm) s25))), .int (nI i), .ref 0] (pw_crI mm t i)
          refine pw_cV (vs := [.int (nI i), .int (pw_o (pw_si mm (pw_bh (pw_n mm) s25)))]) (rest := []) k_X7_areEnemies (c_areEnemies (some i) (pw_si mm (pw_bh (pw_n mm) s25)) (pw_crI mm t i) hokI (fun c hc => by cases hc; omega) (fun c hc => pw_si_lt hc)) l_7_277 rfl rfl rfl rfl (by decide) (Nat.le_of_ble_eq_true rfl) (by decide +kernel) ?_
          rintro _ m1 ⟨rfl, e1⟩
          rw [e1]
          clear e1 m1
          show pw_V x m_X7_changeRenown 2 Z 49 [(3, .int (nI s25)), (0, .ref 0), (1, .int (nI t)), (2, .int (nI i))] [.int (pw_b (pw_en2 mm (some i) (pw_si mm (pw_bh (pw_n mm) s25))))] (pw_crI mm t i)
          refine pw_ib_ne (tgt := 78) (off := 29) (by decide +kernel) (by decide) (fun h49 => ?_) (fun h49 => ?_)
          · refine pw_blk (pc' := 79) [.iconst 1] (by decide +kernel) ?_
            show pw_V x m_X7_changeRenown 2 Z 79 [(3, .int (nI s25)), (0, .ref 0), (1, .int (nI t)), (2, .int (nI i))] [.int (nI 1)] (pw_crI mm t i)
            refine pw_goto (tgt := 83) (off := 4) (by decide +kernel) (by decide) ?_
            refine pw_blk (pc' := 95) [.istore 4, .aload 0, .getfield 702, .getfield 2, .iload 2, .iload 4] (by decide +kernel) ?_
            show pw_V x m_X7_changeRenown 2 Z 95 [(4, .int (nI 1)), (3, .int (nI s25)), (0, .ref 0), (1, .int (nI t)), (2, .int (nI i))] [.int (nI 1), .int (nI i), .ref 43] (pw_crI mm t i)
            refine pw_iz_eq (tgt := 116) (off := 21) (by omega) (by decide +kernel) (by decide) (fun h => by omega) (fun _ => ?_)
            refine pw_blk (pc' := 110) [.iconst 0, .aload 0, .getfield 702, .getfield 2, .iload 2, .iaload, .iconst 1, .isub] (by decide +kernel) ?_
            refine ⟨i, rfl, by omega, ?_⟩
            show pw_V x m_X7_changeRenown 2 Z 110 [(4, .int (nI 1)), (3, .int (nI s25)), (0, .ref 0), (1, .int (nI t)), (2, .int (nI i))] [.int (((pw_crI mm t i) 43 i) - (nI 1)), .int (nI 0), .int (nI i), .ref 43] (pw_crI mm t i)
            rw [show (pw_crI mm t i) 43 i = nI (pw_g mm 43 i) from pw_crI_g.trans (pw_q43 hok (by omega))]
            refine pw_cMax l_7_283 (by decide) (Nat.le_of_ble_eq_true rfl) (by decide +kernel) ?_
            show pw_V x m_X7_changeRenown 2 Z 113 [(4, .int (nI 1)), (3, .int (nI s25)), (0, .ref 0), (1, .int (nI t)), (2, .int (nI i))] [.int (pw_max (nI 0) ((nI (pw_g mm 43 i)) - (nI 1))), .int (nI i), .ref 43] (pw_crI mm t i)
            rw [pw_max0 (g := pw_g mm 43 i) (by omega)]
            refine pw_goto (tgt := 132) (off := 19) (by decide +kernel) (by decide) ?_
            refine pw_blk (pc' := 136) [.iastore, .iinc 2 1] (by decide +kernel) ?_
            refine ⟨i, rfl, by omega, ?_⟩
            show pw_V x m_X7_changeRenown 2 Z 136 [(2, .int ((nI i) + (nI 1))), (4, .int (nI 1)), (3, .int (nI s25)), (0, .ref 0), (1, .int (nI t))] [] (pw_up (pw_crI mm t i) 43 i (nI (pw_g mm 43 i - 1)))
            rw [show (nI i) + (nI 1) = nI (i + 1) from nI_add _ _]
            refine pw_goto (tgt := 2) (off := -134) (by decide +kernel) (by decide) ?_
            rw [show nI (pw_g mm 43 i - 1) = pw_crv mm t i from by simp [pw_crv, pw_qr, h25, h33, h49], pw_crI_s]
            refine pw_lvp [3, 4, 0] rfl ?_
            exact ih (by omega)
          · refine pw_blk (pc' := 66) [.aload 0, .iload 2, .aload 0, .getfield 702, .iload 3, .aload 0, .getfield 701, .getfield 500] (by decide +kernel) ?_
            show pw_V x m_X7_changeRenown 2 Z 66 [(3, .int (nI s25)), (0, .ref 0), (1, .int (nI t)), (2, .int (nI i))] [.int (mm 4 0), .int (nI s25), .ref 42, .int (nI i), .ref 0] (pw_crI mm t i)
            rw [show mm 4 0 = nI (pw_n mm) from pw_q40 hok]
            refine pw_cS (vs := [.int (nI s25), .int (nI (pw_n mm))]) (rest := [.ref 42, .int (nI i), .ref 0]) k_X7_ahead (c_ahead s25 (pw_n mm) (by omega) (by omega) (pw_crI mm t i)) l_7_280 rfl (by decide) (Nat.le_of_ble_eq_true rfl) (by decide +kernel) ?_
            rintro _ m1 ⟨rfl, e1⟩
            rw [e1]
            clear e1 m1
            show pw_V x m_X7_changeRenown 2 Z 69 [(3, .int (nI s25)), (0, .ref 0), (1, .int (nI t)), (2, .int (nI i))] [.int (nI (pw_ah (pw_n mm) s25)), .ref 42, .int (nI i), .ref 0] (pw_crI mm t i)
            refine pw_cV (vs := [.int (nI (pw_ah (pw_n mm) s25))]) (rest := [.int (nI i), .ref 0]) k_X0_whoSitsOn (c_whoSitsOn (pw_ah (pw_n mm) s25) (pw_crI mm t i) hokI (by omega)) l_7_96 rfl rfl rfl rfl (by decide) (Nat.le_of_ble_eq_true rfl) (by decide +kernel) ?_
            rintro _ m1 ⟨rfl, e1⟩
            rw [e1]
            clear e1 m1
            show pw_V x m_X7_changeRenown 2 Z 72 [(3, .int (nI s25)), (0, .ref 0), (1, .int (nI t)), (2, .int (nI i))] [.int (pw_o (pw_si mm (pw_ah (pw_n mm) s25))), .int (nI i), .ref 0] (pw_crI mm t i)
            refine pw_cV (vs := [.int (nI i), .int (pw_o (pw_si mm (pw_ah (pw_n mm) s25)))]) (rest := []) k_X7_areEnemies (c_areEnemies (some i) (pw_si mm (pw_ah (pw_n mm) s25)) (pw_crI mm t i) hokI (fun c hc => by cases hc; omega) (fun c hc => pw_si_lt hc)) l_7_277 rfl rfl rfl rfl (by decide) (Nat.le_of_ble_eq_true rfl) (by decide +kernel) ?_
            rintro _ m1 ⟨rfl, e1⟩
            rw [e1]
            clear e1 m1
            show pw_V x m_X7_changeRenown 2 Z 75 [(3, .int (nI s25)), (0, .ref 0), (1, .int (nI t)), (2, .int (nI i))] [.int (pw_b (pw_en2 mm (some i) (pw_si mm (pw_ah (pw_n mm) s25))))] (pw_crI mm t i)
            refine pw_ib_eq (tgt := 82) (off := 7) (by decide +kernel) (by decide) (fun h75 => ?_) (fun h75 => ?_)
            · refine pw_blk (pc' := 95) [.iconst 0, .istore 4, .aload 0, .getfield 702, .getfield 2, .iload 2, .iload 4] (by decide +kernel) ?_
              show pw_V x m_X7_changeRenown 2 Z 95 [(4, .int (nI 0)), (3, .int (nI s25)), (0, .ref 0), (1, .int (nI t)), (2, .int (nI i))] [.int (nI 0), .int (nI i), .ref 43] (pw_crI mm t i)
              refine pw_iz_eq (tgt := 116) (off := 21) (by omega) (by decide +kernel) (by decide) (fun _ => ?_) (fun h => by omega)
              refine pw_blk (pc' := 129) [.iconst (9), .aload 0, .getfield 702, .getfield 2, .iload 2, .iaload, .iconst 1, .iadd] (by decide +kernel) ?_
              refine ⟨i, rfl, by omega, ?_⟩
              show pw_V x m_X7_changeRenown 2 Z 129 [(4, .int (nI 0)), (3, .int (nI s25)), (0, .ref 0), (1, .int (nI t)), (2, .int (nI i))] [.int (((pw_crI mm t i) 43 i) + (nI 1)), .int (nI 9), .int (nI i), .ref 43] (pw_crI mm t i)
              rw [show (pw_crI mm t i) 43 i = nI (pw_g mm 43 i) from pw_crI_g.trans (pw_q43 hok (by omega))]
              rw [show (nI (pw_g mm 43 i)) + (nI 1) = nI ((pw_g mm 43 i) + 1) from nI_add _ _]
              refine pw_cMin l_7_244 (by decide) (Nat.le_of_ble_eq_true rfl) (by decide +kernel) ?_
              show pw_V x m_X7_changeRenown 2 Z 132 [(4, .int (nI 0)), (3, .int (nI s25)), (0, .ref 0), (1, .int (nI t)), (2, .int (nI i))] [.int (pw_min (nI 9) (nI ((pw_g mm 43 i) + 1))), .int (nI i), .ref 43] (pw_crI mm t i)
              rw [pw_minN (by omega) (by omega)]
              refine pw_blk (pc' := 136) [.iastore, .iinc 2 1] (by decide +kernel) ?_
              refine ⟨i, rfl, by omega, ?_⟩
              show pw_V x m_X7_changeRenown 2 Z 136 [(2, .int ((nI i) + (nI 1))), (4, .int (nI 0)), (3, .int (nI s25)), (0, .ref 0), (1, .int (nI t))] [] (pw_up (pw_crI mm t i) 43 i (nI (min 9 ((pw_g mm 43 i) + 1))))
              rw [show (nI i) + (nI 1) = nI (i + 1) from nI_add _ _]
              refine pw_goto (tgt := 2) (off := -134) (by decide +kernel) (by decide) ?_
              rw [show nI (min 9 ((pw_g mm 43 i) + 1)) = pw_crv mm t i from by simp [pw_crv, pw_qr, h25, h33, h49, h75], pw_crI_s]
              refine pw_lvp [3, 4, 0] rfl ?_
              exact ih (by omega)
            · refine pw_blk (pc' := 79) [.iconst 1] (by decide +kernel) ?_
              show pw_V x m_X7_changeRenown 2 Z 79 [(3, .int (nI s25)), (0, .ref 0), (1, .int (nI t)), (2, .int (nI i))] [.int (nI 1)] (pw_crI mm t i)
              refine pw_goto (tgt := 83) (off := 4) (by decide +kernel) (by decide) ?_
              refine pw_blk (pc' := 95) [.istore 4, .aload 0, .getfield 702, .getfield 2, .iload 2, .iload 4] (by decide +kernel) ?_
              show pw_V x m_X7_changeRenown 2 Z 95 [(4, .int (nI 1)), (3, .int (nI s25)), (0, .ref 0), (1, .int (nI t)), (2, .int (nI i))] [.int (nI 1), .int (nI i), .ref 43] (pw_crI mm t i)
              refine pw_iz_eq (tgt := 116) (off := 21) (by omega) (by decide +kernel) (by decide) (fun h => by omega) (fun _ => ?_)
              refine pw_blk (pc' := 110) [.iconst 0, .aload 0, .getfield 702, .getfield 2, .iload 2, .iaload, .iconst 1, .isub] (by decide +kernel) ?_
              refine ⟨i, rfl, by omega, ?_⟩
              show pw_V x m_X7_changeRenown 2 Z 110 [(4, .int (nI 1)), (3, .int (nI s25)), (0, .ref 0), (1, .int (nI t)), (2, .int (nI i))] [.int (((pw_crI mm t i) 43 i) - (nI 1)), .int (nI 0), .int (nI i), .ref 43] (pw_crI mm t i)
              rw [show (pw_crI mm t i) 43 i = nI (pw_g mm 43 i) from pw_crI_g.trans (pw_q43 hok (by omega))]
              refine pw_cMax l_7_283 (by decide) (Nat.le_of_ble_eq_true rfl) (by decide +kernel) ?_
              show pw_V x m_X7_changeRenown 2 Z 113 [(4, .int (nI 1)), (3, .int (nI s25)), (0, .ref 0), (1, .int (nI t)), (2, .int (nI i))] [.int (pw_max (nI 0) ((nI (pw_g mm 43 i)) - (nI 1))), .int (nI i), .ref 43] (pw_crI mm t i)
              rw [pw_max0 (g := pw_g mm 43 i) (by omega)]
              refine pw_goto (tgt := 132) (off := 19) (by decide +kernel) (by decide) ?_
              refine pw_blk (pc' := 136) [.iastore, .iinc 2 1] (by decide +kernel) ?_
              refine ⟨i, rfl, by omega, ?_⟩
              show pw_V x m_X7_changeRenown 2 Z 136 [(2, .int ((nI i) + (nI 1))), (4, .int (nI 1)), (3, .int (nI s25)), (0, .ref 0), (1, .int (nI t))] [] (pw_up (pw_crI mm t i) 43 i (nI (pw_g mm 43 i - 1)))
              rw [show (nI i) + (nI 1) = nI (i + 1) from nI_add _ _]
              refine pw_goto (tgt := 2) (off := -134) (by decide +kernel) (by decide) ?_
              rw [show nI (pw_g mm 43 i - 1) = pw_crv mm t i from by simp [pw_crv, pw_qr, h25, h33, h49, h75], pw_crI_s]
              refine pw_lvp [3, 4, 0] rfl ?_
              exact ih (by omega)
        · refine pw_goto (tgt := 133) (off := 97) (by decide +kernel) (by decide) ?_
          refine pw_blk (pc' := 136) [.iinc 2 1] (by decide +kernel) ?_
          show pw_V x m_X7_changeRenown 2 Z 136 [(2, .int ((nI i) + (nI 1))), (3, .int (nI s25)), (0, .ref 0), (1, .int (nI t))] [] (pw_crI mm t i)
          rw [show (nI i) + (nI 1) = nI (i + 1) from nI_add _ _]
          refine pw_goto (tgt := 2) (off := -134) (by decide +kernel) (by decide) ?_
          rw [pw_crI_n (show pw_crv mm t i = mm 43 i from by simp [pw_crv, h25, h33])]
          refine pw_lvp [2, 3, 0] rfl ?_
          exact ih (by omega)
  show pw_V x m_X7_changeRenown 2 Z 0 [(0, .ref 0), (1, .int (nI t))] [] mm
  refine pw_blk (pc' := 2) [.iconst 0, .istore 2] (by decide +kernel) ?_
  show pw_V x m_X7_changeRenown 2 Z 2 [(2, .int (nI 0)), (0, .ref 0), (1, .int (nI t))] [] mm
  refine pw_lvp [1, 2, 0] rfl ?_
  have e := loop 0 (by omega)
  rw [pw_crI_0] at e
  exact e

set_option maxHeartbeats 4000000 in
set_option maxRecDepth 100000 in
theorem c_spreadNews (mm : pw_m) (hok : pw_ok mm) : pw_Ct 2 yX7_spreadNews m_X7_spreadNews [.ref 0] mm (fun r m' => r = none ∧ m' = pw_snI mm (pw_k mm)) := by
  refine pw_ct (by decide +kernel) rfl (Nat.le_of_ble_eq_true rfl) (fun x => ?_)
  generalize hZ : pw_Z x _ = Z
  have bn := pw_bn hok
  have bk := pw_bk hok
  have loop2 : ∀ i : Nat, i ≤ pw_k mm → pw_V x m_X7_spreadNews 2 Z 70 [(0, .ref 0), (1, .int (nI i))] [] (pw_snI mm i) := by
    refine pw_dn (pw_k mm) (fun i hi ih => ?_)
    refine pw_blk (pc' := 78) [.iload 1, .aload 0, .getfield 701, .getfield 501] (by decide +kernel) ?_
    show pw_V x m_X7_spreadNews 2 Z 78 [(0, .ref 0), (1, .int (nI i))] [.int (mm 4 1), .int (nI i)] (pw_snI mm i)
    rw [show mm 4 1 = nI (pw_k mm) from pw_q41 hok]
    refine pw_in_ge (tgt := 105) (off := 27) (by omega) (by omega) (by decide +kernel) (by decide) (fun h78 => ?_) (fun h78 => ?_)
    · rw [← hZ]
      refine pw_rv (by decide +kernel) ?_
      have e : i = pw_k mm := by omega
      subst e
      exact ⟨rfl, rfl⟩
    · refine pw_blk (pc' := 102) [.aload 0, .getfield 702, .getfield 3, .iload 1, .dup2, .iaload, .aload 0, .getfield 706, .iload 1, .iaload, .ior, .iastore, .iinc 1 1] (by decide +kernel) ?_
      refine ⟨i, rfl, by omega, ?_⟩
      refine ⟨i, rfl, by omega, ?_⟩
      refine ⟨i, rfl, by omega, ?_⟩
      show pw_V x m_X7_spreadNews 2 Z 102 [(1, .int ((nI i) + (nI 1))), (0, .ref 0)] [] (pw_up (pw_snI mm i) 44 i (((pw_snI mm i) 44 i) ||| ((pw_snI mm i) 25 i)))
      rw [show (nI i) + (nI 1) = nI (i + 1) from nI_add _ _]
      rw [show (pw_snI mm i) 44 i = nI (pw_g mm 44 i) from pw_snI_g.trans (pw_q44 hok (by omega))]
      rw [show (pw_snI mm i) 25 i = nI (pw_hn mm i) from pw_snI_h (by omega)]
      rw [show (nI (pw_g mm 44 i)) ||| (nI (pw_hn mm i)) = nI ((pw_g mm 44 i) ||| (pw_hn mm i)) from fa_or _ _]
      refine pw_goto (tgt := 70) (off := -32) (by decide +kernel) (by decide) ?_
      rw [pw_snI_s]
      refine pw_lvp [1, 0] rfl ?_
      exact ih (by omega)
  have loop1 : ∀ i : Nat, i ≤ pw_k mm → pw_V x m_X7_spreadNews 2 Z 2 [(0, .ref 0), (1, .int (nI i))] [] (pw_hdI mm i) := by
    refine pw_dn (pw_k mm) (fun i hi ih => ?_)
    have hokI : pw_ok (pw_hdI mm i) := pw_ok_hdI hok
    refine pw_blk (pc' := 10) [.iload 1, .aload 0, .getfield 701, .getfield 501] (by decide +kernel) ?_
    show pw_V x m_X7_spreadNews 2 Z 10 [(0, .ref 0), (1, .int (nI i))] [.int (mm 4 1), .int (nI i)] (pw_hdI mm i)
    rw [show mm 4 1 = nI (pw_k mm) from pw_q41 hok]
    refine pw_in_ge (tgt := 68) (off := 58) (by omega) (by omega) (by decide +kernel) (by decide) (fun h10 => ?_) (fun h10 => ?_)
    · refine pw_blk (pc' := 70) [.iconst 0, .istore 1] (by decide +kernel) ?_
      show pw_V x m_X7_spreadNews 2 Z 70 [(1, .int (nI 0)), (0, .ref 0)] [] (pw_hdI mm i)
      have e : i = pw_k mm := by omega
      subst e
      rw [pw_snI_0]
      refine pw_lvp [1, 0] rfl ?_
      exact loop2 0 (by omega)
    · refine pw_blk (pc' := 25) [.aload 0, .getfield 702, .getfield 4, .iload 1, .iaload, .istore 2, .iload 2, .iconst (-1)] (by decide +kernel) ?_
      refine ⟨i, rfl, by omega, ?_⟩
      show pw_V x m_X7_spreadNews 2 Z 25 [(2, .int (mm 45 i)), (0, .ref 0), (1, .int (nI i))] [.int (-1), .int (mm 45 i)] (pw_hdI mm i)
      rw [show mm 45 i = pw_o (pw_pl mm i) from pw_q45 hok (by omega)]
      rcases h25 : pw_pl mm i with _ | s25
      · show pw_V x m_X7_spreadNews 2 Z 25 [(2, .int (-1)), (0, .ref 0), (1, .int (nI i))] [.int (-1), .int (-1)] (pw_hdI mm i)
        refine pw_ic_ne (tgt := 32) (off := 7) (by decide +kernel) (by decide) (fun h => absurd rfl h) (fun _ => ?_)
        refine pw_blk (pc' := 29) [.iconst (-1)] (by decide +kernel) ?_
        show pw_V x m_X7_spreadNews 2 Z 29 [(2, .int (-1)), (0, .ref 0), (1, .int (nI i))] [.int (-1)] (pw_hdI mm i)
        refine pw_goto (tgt := 37) (off := 8) (by decide +kernel) (by decide) ?_
        refine pw_blk (pc' := 45) [.istore 3, .aload 0, .getfield 706, .iload 1, .iload 3, .iconst (-1)] (by decide +kernel) ?_
        show pw_V x m_X7_spreadNews 2 Z 45 [(3, .int (-1)), (2, .int (-1)), (0, .ref 0), (1, .int (nI i))] [.int (-1), .int (-1), .int (nI i), .ref 25] (pw_hdI mm i)
        refine pw_ic_ne (tgt := 52) (off := 7) (by decide +kernel) (by decide) (fun h => absurd rfl h) (fun _ => ?_)
        refine pw_blk (pc' := 49) [.iconst 0] (by decide +kernel) ?_
        show pw_V x m_X7_spreadNews 2 Z 49 [(3, .int (-1)), (2, .int (-1)), (0, .ref 0), (1, .int (nI i))] [.int (nI 0), .int (nI i), .ref 25] (pw_hdI mm i)
        refine pw_goto (tgt := 61) (off := 12) (by decide +kernel) (by decide) ?_
        refine pw_blk (pc' := 65) [.iastore, .iinc 1 1] (by decide +kernel) ?_
        refine ⟨i, rfl, by omega, ?_⟩
        show pw_V x m_X7_spreadNews 2 Z 65 [(1, .int ((nI i) + (nI 1))), (3, .int (-1)), (2, .int (-1)), (0, .ref 0)] [] (pw_up (pw_hdI mm i) 25 i (nI 0))
        rw [show (nI i) + (nI 1) = nI (i + 1) from nI_add _ _]
        refine pw_goto (tgt := 2) (off := -63) (by decide +kernel) (by decide) ?_
        rw [show nI 0 = nI (pw_hn mm i) from by simp [pw_hn, h25], pw_hdI_s]
        refine pw_lvp [3, 0] rfl ?_
        exact ih (by omega)
      · show pw_V x m_X7_spreadNews 2 Z 25 [(2, .int (nI s25)), (0, .ref 0), (1, .int (nI i))] [.int (-1), .int (nI s25)] (pw_hdI mm i)
        have b25 := pw_b45 hok (show i < 6 by omega) h25
        refine pw_ic_ne (tgt := 32) (off := 7) (by decide +kernel) (by decide) (fun _ => ?_) (fun h => absurd h (pw_n1 (by omega)))
        refine pw_blk (pc' := 34) [.aload 0, .iload 2] (by decide +kernel) ?_
        show pw_V x m_X7_spreadNews 2 Z 34 [(2, .int (nI s25)), (0, .ref 0), (1, .int (nI i))] [.int (nI s25), .ref 0] (pw_hdI mm i)
        refine pw_cV (vs := [.int (nI s25)]) (rest := []) k_X7_whoSitsBehind (c_whoSitsBehind s25 (pw_hdI mm i) hokI (show s25 < pw_n mm from by omega)) l_7_274 rfl rfl rfl rfl (by decide) (Nat.le_of_ble_eq_true rfl) (by decide +kernel) ?_
        rintro _ m1 ⟨rfl, e1⟩
        rw [e1]
        clear e1 m1
        show pw_V x m_X7_spreadNews 2 Z 37 [(2, .int (nI s25)), (0, .ref 0), (1, .int (nI i))] [.int (pw_o (pw_si mm (pw_bh (pw_n mm) s25)))] (pw_hdI mm i)
        refine pw_blk (pc' := 45) [.istore 3, .aload 0, .getfield 706, .iload 1, .iload 3, .iconst (-1)] (by decide +kernel) ?_
        show pw_V x m_X7_spreadNews 2 Z 45 [(3, .int (pw_o (pw_si mm (pw_bh (pw_n mm) s25)))), (2, .int (nI s25)), (0, .ref 0), (1, .int (nI i))] [.int (-1), .int (pw_o (pw_si mm (pw_bh (pw_n mm) s25))), .int (nI i), .ref 25] (pw_hdI mm i)
        rcases h45 : pw_si mm (pw_bh (pw_n mm) s25) with _ | s45
        · show pw_V x m_X7_spreadNews 2 Z 45 [(3, .int (-1)), (2, .int (nI s25)), (0, .ref 0), (1, .int (nI i))] [.int (-1), .int (-1), .int (nI i), .ref 25] (pw_hdI mm i)
          refine pw_ic_ne (tgt := 52) (off := 7) (by decide +kernel) (by decide) (fun h => absurd rfl h) (fun _ => ?_)
          refine pw_blk (pc' := 49) [.iconst 0] (by decide +kernel) ?_
          show pw_V x m_X7_spreadNews 2 Z 49 [(3, .int (-1)), (2, .int (nI s25)), (0, .ref 0), (1, .int (nI i))] [.int (nI 0), .int (nI i), .ref 25] (pw_hdI mm i)
          refine pw_goto (tgt := 61) (off := 12) (by decide +kernel) (by decide) ?_
          refine pw_blk (pc' := 65) [.iastore, .iinc 1 1] (by decide +kernel) ?_
          refine ⟨i, rfl, by omega, ?_⟩
          show pw_V x m_X7_spreadNews 2 Z 65 [(1, .int ((nI i) + (nI 1))), (3, .int (-1)), (2, .int (nI s25)), (0, .ref 0)] [] (pw_up (pw_hdI mm i) 25 i (nI 0))
          rw [show (nI i) + (nI 1) = nI (i + 1) from nI_add _ _]
          refine pw_goto (tgt := 2) (off := -63) (by decide +kernel) (by decide) ?_
          rw [show nI 0 = nI (pw_hn mm i) from by simp [pw_hn, h25, h45], pw_hdI_s]
          refine pw_lvp [3, 0] rfl ?_
          exact ih (by omega)
        · show pw_V x m_X7_spreadNews 2 Z 45 [(3, .int (nI s45)), (2, .int (nI s25)), (0, .ref 0), (1, .int (nI i))] [.int (-1), .int (nI s45), .int (nI i), .ref 25] (pw_hdI mm i)
          have b45 := pw_si_lt h45
          refine pw_ic_ne (tgt := 52) (off := 7) (by decide +kernel) (by decide) (fun _ => ?_) (fun h => absurd h (pw_n1 (by omega)))
          refine pw_blk (pc' := 65) [.aload 0, .getfield 702, .getfield 3, .iload 3, .iaload, .iastore, .iinc 1 1] (by decide +kernel) ?_
          refine ⟨s45, rfl, by omega, ?_⟩
          refine ⟨i, rfl, by omega, ?_⟩
          show pw_V x m_X7_spreadNews 2 Z 65 [(1, .int ((nI i) + (nI 1))), (3, .int (nI s45)), (2, .int (nI s25)), (0, .ref 0)] [] (pw_up (pw_hdI mm i) 25 i (mm 44 s45))
          rw [show (nI i) + (nI 1) = nI (i + 1) from nI_add _ _]
          rw [show mm 44 s45 = nI (pw_g mm 44 s45) from pw_q44 hok (by omega)]
          refine pw_goto (tgt := 2) (off := -63) (by decide +kernel) (by decide) ?_
          rw [show nI (pw_g mm 44 s45) = nI (pw_hn mm i) from by simp [pw_hn, h25, h45], pw_hdI_s]
          refine pw_lvp [3, 0] rfl ?_
          exact ih (by omega)
  show pw_V x m_X7_spreadNews 2 Z 0 [(0, .ref 0)] [] mm
  refine pw_blk (pc' := 2) [.iconst 0, .istore 1] (by decide +kernel) ?_
  show pw_V x m_X7_spreadNews 2 Z 2 [(1, .int (nI 0)), (0, .ref 0)] [] mm
  refine pw_lvp [1, 0] rfl ?_
  have e := loop1 0 (by omega)
  rw [pw_hdI_0] at e
  exact e
