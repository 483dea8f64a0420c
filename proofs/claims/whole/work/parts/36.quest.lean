def pw_ch (n : Nat) : Nat → Nat
  | 0 => 1
  | d + 1 => pw_ch n d * (n - d) / (d + 1)
def pw_wt (n p d : Nat) : Nat := pw_ch n d * p ^ d * (10 - p) ^ (n - d)
def pw_ab (A : pw_m) (k s n p : Nat) : Nat → Nat
  | 0 => 0
  | d + 1 => pw_ab A k s n p d + (if pw_fit A k (min 9 (pw_g A 43 k + d)) s then pw_wt n p d else 0)
theorem pw_ab_le {A : pw_m} {k s n p : Nat} : ∀ d, pw_ab A k s n p d ≤ pw_sm (pw_wt n p) d := by
  intro d
  induction d with
  | zero => exact Nat.le_refl _
  | succ d ih => simp only [pw_ab, pw_sm]; split <;> omega
theorem pw_wt_sum : ∀ n, n < 9 → ∀ p, p < 11 → pw_sm (pw_wt n p) (n + 1) = 10 ^ n := by decide +kernel
theorem pw_ch_b : ∀ n, n < 9 → ∀ d, d < 10 → pw_ch n d * (n - d) < 1000 := by decide +kernel
def F_qn (A : pw_m) (k s n p q : Nat) : Nat := (if q = 0 then pw_ab A k s n p (n + 1) else 10 ^ n) / Nat.gcd (10 ^ n) (pw_ab A k s n p (n + 1))
def F_quests (A : pw_m) (k s n p q : Int32) : Int64 := if pw_inr k (pw_k A) = true ∧ pw_inr s (pw_n A) = true then (if pw_inr n 9 = true ∧ pw_inr p 11 = true ∧ pw_inr q 2 = true then lN (F_qn A (pw_c k) (pw_c s) (pw_c n) (pw_c p) (pw_c q)) else -3) else -2
theorem pw_10n : ∀ n, n < 9 → 10 ^ n ≤ 100000000 ∧ 0 < 10 ^ n := by decide +kernel

set_option maxHeartbeats 4000000 in
set_option maxRecDepth 100000 in
theorem c_quests (k s n p q : Int32) (mm : pw_m) (hok : pw_ok mm) : pw_Ct 2 yX7_quests m_X7_quests [.ref 0, .int k, .int s, .int n, .int p, .int q] mm (fun r m' => r = some (.long (F_quests mm k s n p q)) ∧ m' = mm) := by
  refine pw_ct (by decide +kernel) rfl (Nat.le_of_ble_eq_true rfl) (fun x => ?_)
  generalize hZ : pw_Z x _ = Z
  have bn := pw_bn hok
  have bk := pw_bk hok
  show pw_V x m_X7_quests 2 Z 0 [(0, .ref 0), (1, .int k), (2, .int s), (3, .int n), (4, .int p), (5, .int q)] [] mm
  refine pw_blk (pc' := 2) [.aload 0, .iload 1] (by decide +kernel) ?_
  show pw_V x m_X7_quests 2 Z 2 [(0, .ref 0), (1, .int k), (2, .int s), (3, .int n), (4, .int p), (5, .int q)] [.int k, .ref 0] mm
  refine pw_cV (vs := [.int k]) (rest := []) k_X7_isKnight (c_isKnight k mm hok) l_7_106 rfl rfl rfl rfl (by omega) (Nat.le_of_ble_eq_true rfl) (by decide +kernel) ?_
  rintro _ m1 ⟨rfl, e1⟩
  rw [e1]
  clear e1 m1
  show pw_V x m_X7_quests 2 Z 5 [(0, .ref 0), (1, .int k), (2, .int s), (3, .int n), (4, .int p), (5, .int q)] [.int (pw_b (pw_inr k (pw_k mm)))] mm
  refine pw_ib_eq (tgt := 16) (off := 11) (by decide +kernel) (by decide) (fun h5 => ?_) (fun h5 => ?_)
  · refine pw_blk (pc' := 19) [.jsr (-2)] (by decide +kernel) ?_
    show pw_V x m_X7_quests 2 Z 19 [(0, .ref 0), (1, .int k), (2, .int s), (3, .int n), (4, .int p), (5, .int q)] [.long (-2 : Int64)] mm
    rw [← hZ]
    refine pw_rl (by decide +kernel) ?_
    exact ⟨by simp [F_quests, h5], rfl⟩
  · obtain ⟨j5, b5, e5⟩ := pw_inr_t (by omega) h5
    subst e5
    refine pw_blk (pc' := 10) [.aload 0, .iload 2] (by decide +kernel) ?_
    show pw_V x m_X7_quests 2 Z 10 [(0, .ref 0), (1, .int (nI j5)), (2, .int s), (3, .int n), (4, .int p), (5, .int q)] [.int s, .ref 0] mm
    refine pw_cV (vs := [.int s]) (rest := []) k_X7_isSeat (c_isSeat s mm hok) l_7_86 rfl rfl rfl rfl (by omega) (Nat.le_of_ble_eq_true rfl) (by decide +kernel) ?_
    rintro _ m1 ⟨rfl, e1⟩
    rw [e1]
    clear e1 m1
    show pw_V x m_X7_quests 2 Z 13 [(0, .ref 0), (1, .int (nI j5)), (2, .int s), (3, .int n), (4, .int p), (5, .int q)] [.int (pw_b (pw_inr s (pw_n mm)))] mm
    refine pw_ib_ne (tgt := 20) (off := 7) (by decide +kernel) (by decide) (fun h13 => ?_) (fun h13 => ?_)
    · obtain ⟨j13, b13, e13⟩ := pw_inr_t (by omega) h13
      subst e13
      refine pw_blk (pc' := 21) [.iload 3] (by decide +kernel) ?_
      show pw_V x m_X7_quests 2 Z 21 [(0, .ref 0), (1, .int (nI j5)), (2, .int (nI j13)), (3, .int n), (4, .int p), (5, .int q)] [.int n] mm
      refine pw_if_lt (tgt := 53) (off := 32) (by decide +kernel) (by decide) (fun h21 => ?_) (fun h21 => ?_)
      · refine pw_blk (pc' := 56) [.jsr (-3)] (by decide +kernel) ?_
        show pw_V x m_X7_quests 2 Z 56 [(0, .ref 0), (1, .int (nI j5)), (2, .int (nI j13)), (3, .int n), (4, .int p), (5, .int q)] [.long (-3 : Int64)] mm
        rw [← hZ]
        refine pw_rl (by decide +kernel) ?_
        refine ⟨?_, rfl⟩
        unfold F_quests
        rw [if_pos ⟨show pw_inr (nI j5) (pw_k mm) = true from by rw [pw_inr_nI (show j5 < 2 ^ 31 by omega) (show pw_k mm < 2 ^ 31 by omega)]; exact decide_eq_true b5, show pw_inr (nI j13) (pw_n mm) = true from by rw [pw_inr_nI (show j13 < 2 ^ 31 by omega) (show pw_n mm < 2 ^ 31 by omega)]; exact decide_eq_true b13⟩, if_neg (by rw [pw_inr_f1 h21]; simp)]
      · refine pw_blk (pc' := 27) [.iload 3, .iconst (8)] (by decide +kernel) ?_
        show pw_V x m_X7_quests 2 Z 27 [(0, .ref 0), (1, .int (nI j5)), (2, .int (nI j13)), (3, .int n), (4, .int p), (5, .int q)] [.int (nI 8), .int n] mm
        refine pw_ic_gt (tgt := 53) (off := 26) (by decide +kernel) (by decide) (fun h27 => ?_) (fun h27 => ?_)
        · refine pw_blk (pc' := 56) [.jsr (-3)] (by decide +kernel) ?_
          show pw_V x m_X7_quests 2 Z 56 [(0, .ref 0), (1, .int (nI j5)), (2, .int (nI j13)), (3, .int n), (4, .int p), (5, .int q)] [.long (-3 : Int64)] mm
          rw [← hZ]
          refine pw_rl (by decide +kernel) ?_
          refine ⟨?_, rfl⟩
          unfold F_quests
          rw [if_pos ⟨show pw_inr (nI j5) (pw_k mm) = true from by rw [pw_inr_nI (show j5 < 2 ^ 31 by omega) (show pw_k mm < 2 ^ 31 by omega)]; exact decide_eq_true b5, show pw_inr (nI j13) (pw_n mm) = true from by rw [pw_inr_nI (show j13 < 2 ^ 31 by omega) (show pw_n mm < 2 ^ 31 by omega)]; exact decide_eq_true b13⟩, if_neg (by rw [pw_inr_f3 (n := 8) (by omega) h27]; simp)]
        · refine pw_blk (pc' := 32) [.iload 4] (by decide +kernel) ?_
          show pw_V x m_X7_quests 2 Z 32 [(0, .ref 0), (1, .int (nI j5)), (2, .int (nI j13)), (3, .int n), (4, .int p), (5, .int q)] [.int p] mm
          refine pw_if_lt (tgt := 53) (off := 21) (by decide +kernel) (by decide) (fun h32 => ?_) (fun h32 => ?_)
          · refine pw_blk (pc' := 56) [.jsr (-3)] (by decide +kernel) ?_
            show pw_V x m_X7_quests 2 Z 56 [(0, .ref 0), (1, .int (nI j5)), (2, .int (nI j13)), (3, .int n), (4, .int p), (5, .int q)] [.long (-3 : Int64)] mm
            rw [← hZ]
            refine pw_rl (by decide +kernel) ?_
            refine ⟨?_, rfl⟩
            unfold F_quests
            rw [if_pos ⟨show pw_inr (nI j5) (pw_k mm) = true from by rw [pw_inr_nI (show j5 < 2 ^ 31 by omega) (show pw_k mm < 2 ^ 31 by omega)]; exact decide_eq_true b5, show pw_inr (nI j13) (pw_n mm) = true from by rw [pw_inr_nI (show j13 < 2 ^ 31 by omega) (show pw_n mm < 2 ^ 31 by omega)]; exact decide_eq_true b13⟩, if_neg (by rw [pw_inr_f1 h32]; simp)]
          · refine pw_blk (pc' := 39) [.iload 4, .iconst (10)] (by decide +kernel) ?_
            show pw_V x m_X7_quests 2 Z 39 [(0, .ref 0), (1, .int (nI j5)), (2, .int (nI j13)), (3, .int n), (4, .int p), (5, .int q)] [.int (nI 10), .int p] mm
            refine pw_ic_gt (tgt := 53) (off := 14) (by decide +kernel) (by decide) (fun h39 => ?_) (fun h39 => ?_)
            · refine pw_blk (pc' := 56) [.jsr (-3)] (by decide +kernel) ?_
              show pw_V x m_X7_quests 2 Z 56 [(0, .ref 0), (1, .int (nI j5)), (2, .int (nI j13)), (3, .int n), (4, .int p), (5, .int q)] [.long (-3 : Int64)] mm
              rw [← hZ]
              refine pw_rl (by decide +kernel) ?_
              refine ⟨?_, rfl⟩
              unfold F_quests
              rw [if_pos ⟨show pw_inr (nI j5) (pw_k mm) = true from by rw [pw_inr_nI (show j5 < 2 ^ 31 by omega) (show pw_k mm < 2 ^ 31 by omega)]; exact decide_eq_true b5, show pw_inr (nI j13) (pw_n mm) = true from by rw [pw_inr_nI (show j13 < 2 ^ 31 by omega) (show pw_n mm < 2 ^ 31 by omega)]; exact decide_eq_true b13⟩, if_neg (by rw [pw_inr_f3 (n := 10) (by omega) h39]; simp)]
            · refine pw_blk (pc' := 44) [.iload 5] (by decide +kernel) ?_
              show pw_V x m_X7_quests 2 Z 44 [(0, .ref 0), (1, .int (nI j5)), (2, .int (nI j13)), (3, .int n), (4, .int p), (5, .int q)] [.int q] mm
              refine pw_if_lt (tgt := 53) (off := 9) (by decide +kernel) (by decide) (fun h44 => ?_) (fun h44 => ?_)
              · refine pw_blk (pc' := 56) [.jsr (-3)] (by decide +kernel) ?_
                show pw_V x m_X7_quests 2 Z 56 [(0, .ref 0), (1, .int (nI j5)), (2, .int (nI j13)), (3, .int n), (4, .int p), (5, .int q)] [.long (-3 : Int64)] mm
                rw [← hZ]
                refine pw_rl (by decide +kernel) ?_
                refine ⟨?_, rfl⟩
                unfold F_quests
                rw [if_pos ⟨show pw_inr (nI j5) (pw_k mm) = true from by rw [pw_inr_nI (show j5 < 2 ^ 31 by omega) (show pw_k mm < 2 ^ 31 by omega)]; exact decide_eq_true b5, show pw_inr (nI j13) (pw_n mm) = true from by rw [pw_inr_nI (show j13 < 2 ^ 31 by omega) (show pw_n mm < 2 ^ 31 by omega)]; exact decide_eq_true b13⟩, if_neg (by rw [pw_inr_f1 h44]; simp)]
              · refine pw_blk (pc' := 50) [.iload 5, .iconst 1] (by decide +kernel) ?_
                show pw_V x m_X7_quests 2 Z 50 [(0, .ref 0), (1, .int (nI j5)), (2, .int (nI j13)), (3, .int n), (4, .int p), (5, .int q)] [.int (nI 1), .int q] mm
                refine pw_ic_le (tgt := 57) (off := 7) (by decide +kernel) (by decide) (fun h50 => ?_) (fun h50 => ?_)
                · have ynx := pw_inr_y3 (n := 8) (by omega) h21 (Int32.not_lt.mp h27)
                  obtain ⟨nx, bnx, enx⟩ := pw_inr_t (by omega) ynx
                  subst enx
                  have ypx := pw_inr_y3 (n := 10) (by omega) h32 (Int32.not_lt.mp h39)
                  obtain ⟨px, bpx, epx⟩ := pw_inr_t (by omega) ypx
                  subst epx
                  have yqx := pw_inr_y3 (n := 1) (by omega) h44 h50
                  obtain ⟨qx, bqx, eqx⟩ := pw_inr_t (by omega) yqx
                  subst eqx
                  obtain ⟨t1, t2⟩ := pw_10n nx bnx
                  show pw_V x m_X7_quests 2 Z 57 [(0, .ref 0), (1, .int (nI j5)), (2, .int (nI j13)), (3, .int (nI nx)), (4, .int (nI px)), (5, .int (nI qx))] [] mm
                  refine pw_blk (pc' := 66) [.jsr 0, .lstore 6, .jsr 1, .lstore 8, .iconst 0, .istore 10] (by decide +kernel) ?_
                  show pw_V x m_X7_quests 2 Z 66 [(10, .int (nI 0)), (8, .long (1 : Int64)), (6, .long (0 : Int64)), (0, .ref 0), (1, .int (nI j5)), (2, .int (nI j13)), (3, .int (nI nx)), (4, .int (nI px)), (5, .int (nI qx))] [] mm
                  refine pw_lvp [3, 4, 5, 6, 7, 8, 2, 1, 0] rfl ?_
                  suffices lo : ∀ dx : Nat, dx ≤ nx + 1 → pw_V x m_X7_quests 2 Z 66 [(0, .ref 0), (1, .int (nI j5)), (2, .int (nI j13)), (3, .int (nI nx)), (4, .int (nI px)), (5, .int (nI qx)), (6, .long (lN (pw_ab mm j5 j13 nx px dx))), (8, .long (lN (pw_ch nx dx))), (10, .int (nI dx))] [] mm from lo 0 (by omega)
                  refine pw_dn (nx + 1) (fun dx hdx ih => ?_)
                  have b43 := pw_b43 hok (show j5 < 6 by omega)
                  refine pw_blk (pc' := 69) [.iload 10, .iload 3] (by decide +kernel) ?_
                  show pw_V x m_X7_quests 2 Z 69 [(0, .ref 0), (1, .int (nI j5)), (2, .int (nI j13)), (3, .int (nI nx)), (4, .int (nI px)), (5, .int (nI qx)), (6, .long (lN (pw_ab mm j5 j13 nx px dx))), (8, .long (lN (pw_ch nx dx))), (10, .int (nI dx))] [.int (nI nx), .int (nI dx)] mm
                  refine pw_in_gt (tgt := 155) (off := 86) (by omega) (by omega) (by decide +kernel) (by decide) (fun h69 => ?_) (fun h69 => ?_)
                  · have ed : dx = nx + 1 := by omega
                    obtain ⟨ab, hab⟩ : ∃ ab, ab = pw_ab mm j5 j13 nx px (nx + 1) := ⟨_, rfl⟩
                    have habl : ab ≤ 10 ^ nx := by rw [hab, ← pw_wt_sum nx bnx px bpx]; exact pw_ab_le _
                    rw [show (pw_ab mm j5 j13 nx px dx) = ab from by rw [hab, ed]]
                    show pw_V x m_X7_quests 2 Z 155 [(0, .ref 0), (1, .int (nI j5)), (2, .int (nI j13)), (3, .int (nI nx)), (4, .int (nI px)), (5, .int (nI qx)), (6, .long (lN ab)), (8, .long (lN (pw_ch nx dx))), (10, .int (nI dx))] [] mm
                    refine pw_blk (pc' := 158) [.iconst (10), .iload 3] (by decide +kernel) ?_
                    show pw_V x m_X7_quests 2 Z 158 [(0, .ref 0), (1, .int (nI j5)), (2, .int (nI j13)), (3, .int (nI nx)), (4, .int (nI px)), (5, .int (nI qx)), (6, .long (lN ab)), (8, .long (lN (pw_ch nx dx))), (10, .int (nI dx))] [.int (nI nx), .int (nI 10)] mm
                    refine pw_cS (vs := [.int (nI 10), .int (nI nx)]) (rest := []) k_X7_power (c_power 10 nx mm (by omega) (by omega)) l_7_254 rfl (by omega) (Nat.le_of_ble_eq_true rfl) (by decide +kernel) ?_
                    rintro _ m1 ⟨rfl, e1⟩
                    rw [e1]
                    clear e1 m1
                    show pw_V x m_X7_quests 2 Z 161 [(0, .ref 0), (1, .int (nI j5)), (2, .int (nI j13)), (3, .int (nI nx)), (4, .int (nI px)), (5, .int (nI qx)), (6, .long (lN ab)), (8, .long (lN (pw_ch nx dx))), (10, .int (nI dx))] [.long (lN (10 ^ nx))] mm
                    refine pw_blk (pc' := 167) [.lstore 10, .lload 10, .lload 6] (by decide +kernel) ?_
                    show pw_V x m_X7_quests 2 Z 167 [(10, .long (lN (10 ^ nx))), (0, .ref 0), (1, .int (nI j5)), (2, .int (nI j13)), (3, .int (nI nx)), (4, .int (nI px)), (5, .int (nI qx)), (6, .long (lN ab)), (8, .long (lN (pw_ch nx dx)))] [.long (lN ab), .long (lN (10 ^ nx))] mm
                    refine pw_cS (vs := [.long (lN (10 ^ nx)), .long (lN ab)]) (rest := []) k_X7_commonDivisor (c_commonDivisor (10 ^ nx) ab mm t2 habl (by have h9 := Nat.mul_le_mul t1 (Nat.le_trans habl t1); omega) (by omega)) l_7_258 rfl (by omega) (Nat.le_of_ble_eq_true rfl) (by decide +kernel) ?_
                    rintro _ m1 ⟨rfl, e1⟩
                    rw [e1]
                    clear e1 m1
                    show pw_V x m_X7_quests 2 Z 170 [(10, .long (lN (10 ^ nx))), (0, .ref 0), (1, .int (nI j5)), (2, .int (nI j13)), (3, .int (nI nx)), (4, .int (nI px)), (5, .int (nI qx)), (6, .long (lN ab)), (8, .long (lN (pw_ch nx dx)))] [.long (lN (Nat.gcd (10 ^ nx) ab))] mm
                    refine pw_blk (pc' := 172) [.lstore 12] (by decide +kernel) ?_
                    show pw_V x m_X7_quests 2 Z 172 [(12, .long (lN (Nat.gcd (10 ^ nx) ab))), (10, .long (lN (10 ^ nx))), (0, .ref 0), (1, .int (nI j5)), (2, .int (nI j13)), (3, .int (nI nx)), (4, .int (nI px)), (5, .int (nI qx)), (6, .long (lN ab)), (8, .long (lN (pw_ch nx dx)))] [] mm
                    have hg0 : 0 < Nat.gcd (10 ^ nx) ab := Nat.gcd_pos_of_pos_left _ t2
                    have hgl : Nat.gcd (10 ^ nx) ab ≤ 10 ^ nx := Nat.gcd_le_left _ t2
                    have hgn : ¬ lN (Nat.gcd (10 ^ nx) ab) = 0 := fun z => Nat.ne_of_gt hg0 ((pk_lEQ (a := Nat.gcd (10 ^ nx) ab) (b := 0) (by omega) (by omega)).mp z)
                    refine pw_blk (pc' := 176) [.lload 12, .jsr 0, .lcmp] (by decide +kernel) ?_
                    show pw_V x m_X7_quests 2 Z 176 [(12, .long (lN (Nat.gcd (10 ^ nx) ab))), (10, .long (lN (10 ^ nx))), (0, .ref 0), (1, .int (nI j5)), (2, .int (nI j13)), (3, .int (nI nx)), (4, .int (nI px)), (5, .int (nI qx)), (6, .long (lN ab)), (8, .long (lN (pw_ch nx dx)))] [.int (lg_cmp (lN (Nat.gcd (10 ^ nx) ab)) (0 : Int64))] mm
                    refine pw_if_ne (tgt := 183) (off := 7) (by decide +kernel) (by decide) (fun h176 => ?_) (fun h176 => ?_)
                    · refine pw_blk (pc' := 185) [.iload 5] (by decide +kernel) ?_
                      show pw_V x m_X7_quests 2 Z 185 [(12, .long (lN (Nat.gcd (10 ^ nx) ab))), (10, .long (lN (10 ^ nx))), (0, .ref 0), (1, .int (nI j5)), (2, .int (nI j13)), (3, .int (nI nx)), (4, .int (nI px)), (5, .int (nI qx)), (6, .long (lN ab)), (8, .long (lN (pw_ch nx dx)))] [.int (nI qx)] mm
                      refine pw_iz_ne (tgt := 196) (off := 11) (by omega) (by decide +kernel) (by decide) (fun h185 => ?_) (fun h185 => ?_)
                      · refine pw_blk (pc' := 201) [.lload 10, .lload 12, .ldiv] (by decide +kernel) ?_
                        refine ⟨by first | exact hgn | (show ¬ (nI dx + nI 1).toInt64 = 0; rw [nI_add, nI_l (by omega)]; exact fun z => absurd ((pk_lEQ (a := dx + 1) (b := 0) (by omega) (by omega)).mp z) (by omega)), ?_⟩
                        show pw_V x m_X7_quests 2 Z 201 [(12, .long (lN (Nat.gcd (10 ^ nx) ab))), (10, .long (lN (10 ^ nx))), (0, .ref 0), (1, .int (nI j5)), (2, .int (nI j13)), (3, .int (nI nx)), (4, .int (nI px)), (5, .int (nI qx)), (6, .long (lN ab)), (8, .long (lN (pw_ch nx dx)))] [.long ((lN (10 ^ nx)) / (lN (Nat.gcd (10 ^ nx) ab)))] mm
                        rw [← hZ]
                        refine pw_rl (by decide +kernel) ?_
                        refine ⟨?_, rfl⟩
                        unfold F_quests
                        rw [if_pos ⟨show pw_inr (nI j5) (pw_k mm) = true from by rw [pw_inr_nI (show j5 < 2 ^ 31 by omega) (show pw_k mm < 2 ^ 31 by omega)]; exact decide_eq_true b5, show pw_inr (nI j13) (pw_n mm) = true from by rw [pw_inr_nI (show j13 < 2 ^ 31 by omega) (show pw_n mm < 2 ^ 31 by omega)]; exact decide_eq_true b13⟩, if_pos ⟨ynx, ypx, yqx⟩, pw_c_nI (show j5 < 2 ^ 31 by omega), pw_c_nI (show j13 < 2 ^ 31 by omega), pw_c_nI (show nx < 2 ^ 31 by omega), pw_c_nI (show px < 2 ^ 31 by omega), pw_c_nI (show qx < 2 ^ 31 by omega)]
                        rw [pk_lDiv (by omega) hg0 (by omega)]
                        unfold F_qn
                        rw [← hab]
                        simp [h185]
                      · refine pw_blk (pc' := 193) [.lload 6, .lload 12, .ldiv] (by decide +kernel) ?_
                        refine ⟨by first | exact hgn | (show ¬ (nI dx + nI 1).toInt64 = 0; rw [nI_add, nI_l (by omega)]; exact fun z => absurd ((pk_lEQ (a := dx + 1) (b := 0) (by omega) (by omega)).mp z) (by omega)), ?_⟩
                        show pw_V x m_X7_quests 2 Z 193 [(12, .long (lN (Nat.gcd (10 ^ nx) ab))), (10, .long (lN (10 ^ nx))), (0, .ref 0), (1, .int (nI j5)), (2, .int (nI j13)), (3, .int (nI nx)), (4, .int (nI px)), (5, .int (nI qx)), (6, .long (lN ab)), (8, .long (lN (pw_ch nx dx)))] [.long ((lN ab) / (lN (Nat.gcd (10 ^ nx) ab)))] mm
                        refine pw_goto (tgt := 201) (off := 8) (by decide +kernel) (by decide) ?_
                        rw [← hZ]
                        refine pw_rl (by decide +kernel) ?_
                        refine ⟨?_, rfl⟩
                        unfold F_quests
                        rw [if_pos ⟨show pw_inr (nI j5) (pw_k mm) = true from by rw [pw_inr_nI (show j5 < 2 ^ 31 by omega) (show pw_k mm < 2 ^ 31 by omega)]; exact decide_eq_true b5, show pw_inr (nI j13) (pw_n mm) = true from by rw [pw_inr_nI (show j13 < 2 ^ 31 by omega) (show pw_n mm < 2 ^ 31 by omega)]; exact decide_eq_true b13⟩, if_pos ⟨ynx, ypx, yqx⟩, pw_c_nI (show j5 < 2 ^ 31 by omega), pw_c_nI (show j13 < 2 ^ 31 by omega), pw_c_nI (show nx < 2 ^ 31 by omega), pw_c_nI (show px < 2 ^ 31 by omega), pw_c_nI (show qx < 2 ^ 31 by omega)]
                        rw [pk_lDiv (by omega) hg0 (by omega)]
                        unfold F_qn
                        rw [← hab]
                        simp [h185]
                    · exact absurd ((pw_lcmp0 (by omega)).mp h176) (by omega)
                  · refine pw_blk (pc' := 86) [.iconst (9), .aload 0, .getfield 702, .getfield 2, .iload 1, .iaload, .iload 10, .iadd] (by decide +kernel) ?_
                    refine ⟨j5, rfl, by omega, ?_⟩
                    show pw_V x m_X7_quests 2 Z 86 [(0, .ref 0), (1, .int (nI j5)), (2, .int (nI j13)), (3, .int (nI nx)), (4, .int (nI px)), (5, .int (nI qx)), (6, .long (lN (pw_ab mm j5 j13 nx px dx))), (8, .long (lN (pw_ch nx dx))), (10, .int (nI dx))] [.int ((mm 43 j5) + (nI dx)), .int (nI 9)] mm
                    rw [show mm 43 j5 = nI (pw_g mm 43 j5) from pw_q43 hok (by omega)]
                    rw [show (nI (pw_g mm 43 j5)) + (nI dx) = nI ((pw_g mm 43 j5) + dx) from nI_add _ _]
                    refine pw_cMin l_7_244 (by omega) (Nat.le_of_ble_eq_true rfl) (by decide +kernel) ?_
                    show pw_V x m_X7_quests 2 Z 89 [(0, .ref 0), (1, .int (nI j5)), (2, .int (nI j13)), (3, .int (nI nx)), (4, .int (nI px)), (5, .int (nI qx)), (6, .long (lN (pw_ab mm j5 j13 nx px dx))), (8, .long (lN (pw_ch nx dx))), (10, .int (nI dx))] [.int (pw_min (nI 9) (nI ((pw_g mm 43 j5) + dx)))] mm
                    rw [pw_minN (by omega) (by omega)]
                    refine pw_blk (pc' := 99) [.istore 11, .aload 0, .getfield 701, .iload 1, .iload 11, .iload 2] (by decide +kernel) ?_
                    show pw_V x m_X7_quests 2 Z 99 [(11, .int (nI (min 9 ((pw_g mm 43 j5) + dx)))), (0, .ref 0), (1, .int (nI j5)), (2, .int (nI j13)), (3, .int (nI nx)), (4, .int (nI px)), (5, .int (nI qx)), (6, .long (lN (pw_ab mm j5 j13 nx px dx))), (8, .long (lN (pw_ch nx dx))), (10, .int (nI dx))] [.int (nI j13), .int (nI (min 9 ((pw_g mm 43 j5) + dx))), .int (nI j5), .ref 4] mm
                    refine pw_cV (vs := [.int (nI j5), .int (nI (min 9 ((pw_g mm 43 j5) + dx))), .int (nI j13)]) (rest := []) k_X5_fits (c_fits j5 (min 9 ((pw_g mm 43 j5) + dx)) j13 mm hok (by omega) (by omega) (by omega)) l_7_250 rfl rfl rfl rfl (by omega) (Nat.le_of_ble_eq_true rfl) (by decide +kernel) ?_
                    rintro _ m1 ⟨rfl, e1⟩
                    rw [e1]
                    clear e1 m1
                    show pw_V x m_X7_quests 2 Z 102 [(11, .int (nI (min 9 ((pw_g mm 43 j5) + dx)))), (0, .ref 0), (1, .int (nI j5)), (2, .int (nI j13)), (3, .int (nI nx)), (4, .int (nI px)), (5, .int (nI qx)), (6, .long (lN (pw_ab mm j5 j13 nx px dx))), (8, .long (lN (pw_ch nx dx))), (10, .int (nI dx))] [.int (pw_b (pw_fit mm j5 (min 9 ((pw_g mm 43 j5) + dx)) j13))] mm
                    refine pw_ib_eq (tgt := 133) (off := 31) (by decide +kernel) (by decide) (fun h102 => ?_) (fun h102 => ?_)
                    · refine pw_blk (pc' := 138) [.lload 8, .iload 3, .iload 10] (by decide +kernel) ?_
                      show pw_V x m_X7_quests 2 Z 138 [(11, .int (nI (min 9 ((pw_g mm 43 j5) + dx)))), (0, .ref 0), (1, .int (nI j5)), (2, .int (nI j13)), (3, .int (nI nx)), (4, .int (nI px)), (5, .int (nI qx)), (6, .long (lN (pw_ab mm j5 j13 nx px dx))), (8, .long (lN (pw_ch nx dx))), (10, .int (nI dx))] [.int (nI dx), .int (nI nx), .long (lN (pw_ch nx dx))] mm
                      refine pw_blk (pc' := 139) [.isub] (by decide +kernel) ?_
                      show pw_V x m_X7_quests 2 Z 139 [(11, .int (nI (min 9 ((pw_g mm 43 j5) + dx)))), (0, .ref 0), (1, .int (nI j5)), (2, .int (nI j13)), (3, .int (nI nx)), (4, .int (nI px)), (5, .int (nI qx)), (6, .long (lN (pw_ab mm j5 j13 nx px dx))), (8, .long (lN (pw_ch nx dx))), (10, .int (nI dx))] [.int (nI nx - nI dx), .long (lN (pw_ch nx dx))] mm
                      rw [pk_sub (show dx ≤ nx by omega)]
                      refine pw_blk (pc' := 152) [.i2l, .lmul, .iload 10, .iconst 1, .iadd, .i2l, .ldiv, .lstore 8, .iinc 10 1] (by decide +kernel) ?_
                      refine ⟨by first | exact hgn | (show ¬ (nI dx + nI 1).toInt64 = 0; rw [nI_add, nI_l (by omega)]; exact fun z => absurd ((pk_lEQ (a := dx + 1) (b := 0) (by omega) (by omega)).mp z) (by omega)), ?_⟩
                      show pw_V x m_X7_quests 2 Z 152 [(10, .int ((nI dx) + (nI 1))), (8, .long (((lN (pw_ch nx dx)) * ((nI (nx - dx)).toInt64)) / (((nI dx) + (nI 1)).toInt64))), (11, .int (nI (min 9 ((pw_g mm 43 j5) + dx)))), (0, .ref 0), (1, .int (nI j5)), (2, .int (nI j13)), (3, .int (nI nx)), (4, .int (nI px)), (5, .int (nI qx)), (6, .long (lN (pw_ab mm j5 j13 nx px dx)))] [] mm
                      rw [show (nI dx) + (nI 1) = nI (dx + 1) from nI_add _ _]
                      refine pw_goto (tgt := 66) (off := -86) (by decide +kernel) (by decide) ?_
                      rw [show lN (pw_ab mm j5 j13 nx px dx) = lN (pw_ab mm j5 j13 nx px (dx + 1)) from by simp [pw_ab, h102]]
                      rw [show ((lN (pw_ch nx dx)) * ((nI (nx - dx)).toInt64)) / ((nI (dx + 1)).toInt64) = lN (pw_ch nx (dx + 1)) from by rw [nI_l (by omega), nI_l (by omega), lN_mul, pk_lDiv (by have := pw_ch_b nx bnx dx (by omega); omega) (by omega) (by omega)]; rfl]
                      refine pw_lvp [3, 4, 5, 6, 7, 8, 9, 1, 0] rfl ?_
                      exact ih (by omega)
                    · refine pw_blk (pc' := 113) [.lload 6, .lload 8, .iload 4, .iload 10] (by decide +kernel) ?_
                      show pw_V x m_X7_quests 2 Z 113 [(11, .int (nI (min 9 ((pw_g mm 43 j5) + dx)))), (0, .ref 0), (1, .int (nI j5)), (2, .int (nI j13)), (3, .int (nI nx)), (4, .int (nI px)), (5, .int (nI qx)), (6, .long (lN (pw_ab mm j5 j13 nx px dx))), (8, .long (lN (pw_ch nx dx))), (10, .int (nI dx))] [.int (nI dx), .int (nI px), .long (lN (pw_ch nx dx)), .long (lN (pw_ab mm j5 j13 nx px dx))] mm
                      refine pw_cS (vs := [.int (nI px), .int (nI dx)]) (rest := [.long (lN (pw_ch nx dx)), .long (lN (pw_ab mm j5 j13 nx px dx))]) k_X7_power (c_power px dx mm (by omega) (by omega)) l_7_254 rfl (by omega) (Nat.le_of_ble_eq_true rfl) (by decide +kernel) ?_
                      rintro _ m1 ⟨rfl, e1⟩
                      rw [e1]
                      clear e1 m1
                      show pw_V x m_X7_quests 2 Z 116 [(11, .int (nI (min 9 ((pw_g mm 43 j5) + dx)))), (0, .ref 0), (1, .int (nI j5)), (2, .int (nI j13)), (3, .int (nI nx)), (4, .int (nI px)), (5, .int (nI qx)), (6, .long (lN (pw_ab mm j5 j13 nx px dx))), (8, .long (lN (pw_ch nx dx))), (10, .int (nI dx))] [.long (lN (px ^ dx)), .long (lN (pw_ch nx dx)), .long (lN (pw_ab mm j5 j13 nx px dx))] mm
                      refine pw_blk (pc' := 121) [.lmul, .iconst (10), .iload 4] (by decide +kernel) ?_
                      show pw_V x m_X7_quests 2 Z 121 [(11, .int (nI (min 9 ((pw_g mm 43 j5) + dx)))), (0, .ref 0), (1, .int (nI j5)), (2, .int (nI j13)), (3, .int (nI nx)), (4, .int (nI px)), (5, .int (nI qx)), (6, .long (lN (pw_ab mm j5 j13 nx px dx))), (8, .long (lN (pw_ch nx dx))), (10, .int (nI dx))] [.int (nI px), .int (nI 10), .long ((lN (pw_ch nx dx)) * (lN (px ^ dx))), .long (lN (pw_ab mm j5 j13 nx px dx))] mm
                      refine pw_blk (pc' := 122) [.isub] (by decide +kernel) ?_
                      show pw_V x m_X7_quests 2 Z 122 [(11, .int (nI (min 9 ((pw_g mm 43 j5) + dx)))), (0, .ref 0), (1, .int (nI j5)), (2, .int (nI j13)), (3, .int (nI nx)), (4, .int (nI px)), (5, .int (nI qx)), (6, .long (lN (pw_ab mm j5 j13 nx px dx))), (8, .long (lN (pw_ch nx dx))), (10, .int (nI dx))] [.int (nI 10 - nI px), .long ((lN (pw_ch nx dx)) * (lN (px ^ dx))), .long (lN (pw_ab mm j5 j13 nx px dx))] mm
                      rw [pk_sub (show px ≤ 10 by omega)]
                      refine pw_blk (pc' := 125) [.iload 3, .iload 10] (by decide +kernel) ?_
                      show pw_V x m_X7_quests 2 Z 125 [(11, .int (nI (min 9 ((pw_g mm 43 j5) + dx)))), (0, .ref 0), (1, .int (nI j5)), (2, .int (nI j13)), (3, .int (nI nx)), (4, .int (nI px)), (5, .int (nI qx)), (6, .long (lN (pw_ab mm j5 j13 nx px dx))), (8, .long (lN (pw_ch nx dx))), (10, .int (nI dx))] [.int (nI dx), .int (nI nx), .int (nI (10 - px)), .long ((lN (pw_ch nx dx)) * (lN (px ^ dx))), .long (lN (pw_ab mm j5 j13 nx px dx))] mm
                      refine pw_blk (pc' := 126) [.isub] (by decide +kernel) ?_
                      show pw_V x m_X7_quests 2 Z 126 [(11, .int (nI (min 9 ((pw_g mm 43 j5) + dx)))), (0, .ref 0), (1, .int (nI j5)), (2, .int (nI j13)), (3, .int (nI nx)), (4, .int (nI px)), (5, .int (nI qx)), (6, .long (lN (pw_ab mm j5 j13 nx px dx))), (8, .long (lN (pw_ch nx dx))), (10, .int (nI dx))] [.int (nI nx - nI dx), .int (nI (10 - px)), .long ((lN (pw_ch nx dx)) * (lN (px ^ dx))), .long (lN (pw_ab mm j5 j13 nx px dx))] mm
                      rw [pk_sub (show dx ≤ nx by omega)]
                      refine pw_cS (vs := [.int (nI (10 - px)), .int (nI (nx - dx))]) (rest := [.long ((lN (pw_ch nx dx)) * (lN (px ^ dx))), .long (lN (pw_ab mm j5 j13 nx px dx))]) k_X7_power (c_power (10 - px) (nx - dx) mm (by omega) (by omega)) l_7_254 rfl (by omega) (Nat.le_of_ble_eq_true rfl) (by decide +kernel) ?_
                      rintro _ m1 ⟨rfl, e1⟩
                      rw [e1]
                      clear e1 m1
                      show pw_V x m_X7_quests 2 Z 129 [(11, .int (nI (min 9 ((pw_g mm 43 j5) + dx)))), (0, .ref 0), (1, .int (nI j5)), (2, .int (nI j13)), (3, .int (nI nx)), (4, .int (nI px)), (5, .int (nI qx)), (6, .long (lN (pw_ab mm j5 j13 nx px dx))), (8, .long (lN (pw_ch nx dx))), (10, .int (nI dx))] [.long (lN ((10 - px) ^ (nx - dx))), .long ((lN (pw_ch nx dx)) * (lN (px ^ dx))), .long (lN (pw_ab mm j5 j13 nx px dx))] mm
                      refine pw_blk (pc' := 138) [.lmul, .ladd, .lstore 6, .lload 8, .iload 3, .iload 10] (by decide +kernel) ?_
                      show pw_V x m_X7_quests 2 Z 138 [(6, .long ((lN (pw_ab mm j5 j13 nx px dx)) + (((lN (pw_ch nx dx)) * (lN (px ^ dx))) * (lN ((10 - px) ^ (nx - dx)))))), (11, .int (nI (min 9 ((pw_g mm 43 j5) + dx)))), (0, .ref 0), (1, .int (nI j5)), (2, .int (nI j13)), (3, .int (nI nx)), (4, .int (nI px)), (5, .int (nI qx)), (8, .long (lN (pw_ch nx dx))), (10, .int (nI dx))] [.int (nI dx), .int (nI nx), .long (lN (pw_ch nx dx))] mm
                      refine pw_blk (pc' := 139) [.isub] (by decide +kernel) ?_
                      show pw_V x m_X7_quests 2 Z 139 [(6, .long ((lN (pw_ab mm j5 j13 nx px dx)) + (((lN (pw_ch nx dx)) * (lN (px ^ dx))) * (lN ((10 - px) ^ (nx - dx)))))), (11, .int (nI (min 9 ((pw_g mm 43 j5) + dx)))), (0, .ref 0), (1, .int (nI j5)), (2, .int (nI j13)), (3, .int (nI nx)), (4, .int (nI px)), (5, .int (nI qx)), (8, .long (lN (pw_ch nx dx))), (10, .int (nI dx))] [.int (nI nx - nI dx), .long (lN (pw_ch nx dx))] mm
                      rw [pk_sub (show dx ≤ nx by omega)]
                      refine pw_blk (pc' := 152) [.i2l, .lmul, .iload 10, .iconst 1, .iadd, .i2l, .ldiv, .lstore 8, .iinc 10 1] (by decide +kernel) ?_
                      refine ⟨by first | exact hgn | (show ¬ (nI dx + nI 1).toInt64 = 0; rw [nI_add, nI_l (by omega)]; exact fun z => absurd ((pk_lEQ (a := dx + 1) (b := 0) (by omega) (by omega)).mp z) (by omega)), ?_⟩
                      show pw_V x m_X7_quests 2 Z 152 [(10, .int ((nI dx) + (nI 1))), (8, .long (((lN (pw_ch nx dx)) * ((nI (nx - dx)).toInt64)) / (((nI dx) + (nI 1)).toInt64))), (6, .long ((lN (pw_ab mm j5 j13 nx px dx)) + (((lN (pw_ch nx dx)) * (lN (px ^ dx))) * (lN ((10 - px) ^ (nx - dx)))))), (11, .int (nI (min 9 ((pw_g mm 43 j5) + dx)))), (0, .ref 0), (1, .int (nI j5)), (2, .int (nI j13)), (3, .int (nI nx)), (4, .int (nI px)), (5, .int (nI qx))] [] mm
                      rw [show (nI dx) + (nI 1) = nI (dx + 1) from nI_add _ _]
                      refine pw_goto (tgt := 66) (off := -86) (by decide +kernel) (by decide) ?_
                      rw [show (lN (pw_ab mm j5 j13 nx px dx)) + (((lN (pw_ch nx dx)) * (lN (px ^ dx))) * (lN ((10 - px) ^ (nx - dx)))) = lN (pw_ab mm j5 j13 nx px (dx + 1)) from by rw [lN_mul, lN_mul, lN_add]; simp [pw_ab, pw_wt, h102]]
                      rw [show ((lN (pw_ch nx dx)) * ((nI (nx - dx)).toInt64)) / ((nI (dx + 1)).toInt64) = lN (pw_ch nx (dx + 1)) from by rw [nI_l (by omega), nI_l (by omega), lN_mul, pk_lDiv (by have := pw_ch_b nx bnx dx (by omega); omega) (by omega) (by omega)]; rfl]
                      refine pw_lvp [4, 5, 6, 7, 8, 9, 2, 1, 0] rfl ?_
                      exact ih (by omega)
                · refine pw_blk (pc' := 56) [.jsr (-3)] (by decide +kernel) ?_
                  show pw_V x m_X7_quests 2 Z 56 [(0, .ref 0), (1, .int (nI j5)), (2, .int (nI j13)), (3, .int n), (4, .int p), (5, .int q)] [.long (-3 : Int64)] mm
                  rw [← hZ]
                  refine pw_rl (by decide +kernel) ?_
                  refine ⟨?_, rfl⟩
                  unfold F_quests
                  rw [if_pos ⟨show pw_inr (nI j5) (pw_k mm) = true from by rw [pw_inr_nI (show j5 < 2 ^ 31 by omega) (show pw_k mm < 2 ^ 31 by omega)]; exact decide_eq_true b5, show pw_inr (nI j13) (pw_n mm) = true from by rw [pw_inr_nI (show j13 < 2 ^ 31 by omega) (show pw_n mm < 2 ^ 31 by omega)]; exact decide_eq_true b13⟩, if_neg (by rw [pw_inr_f3 (n := 1) (by omega) (Int32.not_le.mp h50)]; simp)]
    · refine pw_blk (pc' := 19) [.jsr (-2)] (by decide +kernel) ?_
      show pw_V x m_X7_quests 2 Z 19 [(0, .ref 0), (1, .int (nI j5)), (2, .int s), (3, .int n), (4, .int p), (5, .int q)] [.long (-2 : Int64)] mm
      rw [← hZ]
      refine pw_rl (by decide +kernel) ?_
      exact ⟨by simp [F_quests, h13], rfl⟩
