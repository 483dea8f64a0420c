/-- who knows afterwards: of those who sit, who knew, and who sits ahead of one who knew -/
def pw_hr (n kw : Nat) : Nat := kw / 2 ^ 1 ||| (if kw.testBit 0 = true then 2 ^ (n - 1) else 0)
def pw_ka (n us kw : Nat) : Nat := pw_pc (us &&& (kw ||| pw_hr n kw))
def pw_ge (q : Option Nat) (mc : Nat) : Bool := match q with
  | none => false
  | some a => decide (mc ≤ a)
def pw_mo (n kn th : Nat) (gd en : Nat → Nat) (kb mc : Nat) : Nat → (Nat → Nat) → Nat → Nat → Option Nat → Option Nat
  | 0, _, us, kw, q => if pw_ge q mc = true then q else some (max (q.getD 0) (pw_ka n us kw))
  | f + 1, pl, us, kw, q => if pw_ge q mc = true then q else if th.testBit (kn - (f + 1)) = true then pw_fo (fun s x => if (pw_frI n th (gd (kn - (f + 1))) (en (kn - (f + 1))) pl us (kn - (f + 1))).testBit s = true then pw_mo n kn th gd en kb mc f (pw_ns pl (kn - (f + 1)) s) (us ||| 2 ^ s) (kw ||| (if kb.testBit (kn - (f + 1)) = true then 2 ^ s else 0)) x else x) n q else pw_mo n kn th gd en kb mc f pl us kw q
theorem pw_moS {n kn th f k kb mc : Nat} {gd en pl : Nat → Nat} {us kw : Nat} {q : Option Nat} (hk : k + (f + 1) = kn) (hq : pw_ge q mc = false) (ht : th.testBit k = true) : pw_mo n kn th gd en kb mc (f + 1) pl us kw q = pw_fo (fun s x => if (pw_frI n th (gd k) (en k) pl us k).testBit s = true then pw_mo n kn th gd en kb mc f (pw_ns pl k s) (us ||| 2 ^ s) (kw ||| (if kb.testBit k = true then 2 ^ s else 0)) x else x) n q := by
  have e : kn - (f + 1) = k := by omega
  simp only [pw_mo, e, if_pos ht, hq]
  rfl
theorem pw_moN {n kn th f k kb mc : Nat} {gd en pl : Nat → Nat} {us kw : Nat} {q : Option Nat} (hk : k + (f + 1) = kn) (hq : pw_ge q mc = false) (ht : th.testBit k = false) : pw_mo n kn th gd en kb mc (f + 1) pl us kw q = pw_mo n kn th gd en kb mc f pl us kw q := by
  have e : kn - (f + 1) = k := by omega
  simp only [pw_mo, e, ht, hq]
  rfl
theorem pw_moL {n kn th f kb mc : Nat} {gd en pl : Nat → Nat} {us kw : Nat} {q : Option Nat} (hq : pw_ge q mc = true) : pw_mo n kn th gd en kb mc f pl us kw q = q := by
  cases f <;> simp [pw_mo, hq]
theorem pw_mob {n kn th kb mc : Nat} {gd en : Nat → Nat} : ∀ (f : Nat) (pl : Nat → Nat) (us kw : Nat) (q : Option Nat), (∀ a, q = some a → a ≤ 8) → ∀ a, pw_mo n kn th gd en kb mc f pl us kw q = some a → a ≤ 8 := by
  intro f
  induction f with
  | zero =>
    intro pl us kw q hq a ha
    unfold pw_mo at ha
    split at ha
    · exact hq a ha
    · cases ha
      have h1 : pw_ka n us kw ≤ 8 := pw_pc_le _
      have h2 : q.getD 0 ≤ 8 := by
        cases q with
        | none => exact Nat.zero_le _
        | some b => exact hq b rfl
      omega
  | succ f ih =>
    intro pl us kw q hq a ha
    unfold pw_mo at ha
    split at ha
    · exact hq a ha
    · split at ha
      · have key : ∀ s a, pw_fo (fun s x => if (pw_frI n th (gd (kn - (f + 1))) (en (kn - (f + 1))) pl us (kn - (f + 1))).testBit s = true then pw_mo n kn th gd en kb mc f (pw_ns pl (kn - (f + 1)) s) (us ||| 2 ^ s) (kw ||| (if kb.testBit (kn - (f + 1)) = true then 2 ^ s else 0)) x else x) s q = some a → a ≤ 8 := by
          intro s
          induction s with
          | zero => intro a ha; exact hq a ha
          | succ s is =>
            intro a ha
            simp only [pw_fo] at ha
            split at ha
            · exact ih _ _ _ _ is a ha
            · exact is a ha
        exact key n a ha
      · exact ih _ _ _ _ hq a ha
theorem pw_maxm {a : Nat} (h : a < 2 ^ 31) : pw_max (-1) (nI a) = nI a := by
  unfold pw_max
  rw [if_pos (pw_m1_lt h)]
theorem pw_tb0 {n kw : Nat} (h : kw < 2 ^ n) (ht : kw.testBit 0 = true) : 1 ≤ n := by
  rcases Nat.eq_zero_or_pos n with q | q
  · subst q
    have : kw = 0 := by simpa using h
    subst this
    simp at ht
  · exact q
theorem pw_orn {n a s : Nat} (h : a < 2 ^ n) (hs : s < n) : a ||| 2 ^ s < 2 ^ n := Nat.or_lt_two_pow h (Nat.pow_lt_pow_right (by omega) hs)
theorem pw_and8 {n a b : Nat} (hn : n ≤ 8) (h : a < 2 ^ n) : a &&& b < 256 := Nat.lt_of_le_of_lt Nat.and_le_left (pw_p8 hn h)

set_option maxHeartbeats 4000000 in
set_option maxRecDepth 100000 in
theorem c_knowAfterwards (us kw : Nat) (mm : pw_m) {n kn th : Nat} {gd en : Nat → Nat} (hs : pw_SC mm n kn th gd en) (hus : us < 2 ^ n) (hkw : kw < 2 ^ n) : pw_Ct 1 yX4_knowAfterwards m_X4_knowAfterwards [.ref 20, .int (nI us), .int (nI kw)] mm (fun r m' => r = some (.int (nI (pw_ka n us kw))) ∧ m' = mm) := by
  refine pw_ct (by decide +kernel) rfl (Nat.le_of_ble_eq_true rfl) (fun x => ?_)
  generalize hZ : pw_Z x _ = Z
  obtain ⟨bn, bk, bt⟩ := hs.1
  have bu := pw_p8 bn hus
  have bw := pw_p8 bn hkw
  show pw_V x m_X4_knowAfterwards 1 Z 0 [(0, .ref 20), (1, .int (nI us)), (2, .int (nI kw))] [] mm
  refine pw_blk (pc' := 6) [.iload 2, .iconst 1, .ishr, .istore 3, .iload 2, .iconst 0] (by decide +kernel) ?_
  show pw_V x m_X4_knowAfterwards 1 Z 6 [(3, .int ((nI kw) >>> ((nI 1) &&& 31))), (0, .ref 20), (1, .int (nI us)), (2, .int (nI kw))] [.int (nI 0), .int (nI kw)] mm
  rw [show (nI kw) >>> ((nI 1) &&& 31) = nI (kw / 2 ^ 1) from pw_shr (by omega) (by omega)]
  refine pw_cN (idx := 63) (vs := [.int (nI kw), .int (nI 0)]) (rest := []) (host := RX7) k_X7_has (c_has (nI kw) (nI 0) mm) (by decide +kernel) rfl (by decide) (Nat.le_of_ble_eq_true rfl) (by decide +kernel) ?_
  rintro _ m1 ⟨rfl, e1⟩
  rw [e1]
  clear e1 m1
  show pw_V x m_X4_knowAfterwards 1 Z 9 [(3, .int (nI (kw / 2 ^ 1))), (0, .ref 20), (1, .int (nI us)), (2, .int (nI kw))] [.int (pw_b (pw_hs (nI kw) (nI 0)))] mm
  rw [pw_hs_n (by omega) (by omega)]
  refine pw_ib_eq (tgt := 23) (off := 14) (by decide +kernel) (by decide) (fun h9 => ?_) (fun h9 => ?_)
  · refine pw_blk (pc' := 28) [.iload 1, .iload 2, .iload 3, .ior, .iand] (by decide +kernel) ?_
    show pw_V x m_X4_knowAfterwards 1 Z 28 [(3, .int (nI (kw / 2 ^ 1))), (0, .ref 20), (1, .int (nI us)), (2, .int (nI kw))] [.int ((nI us) &&& ((nI kw) ||| (nI (kw / 2 ^ 1))))] mm
    rw [show (nI kw) ||| (nI (kw / 2 ^ 1)) = nI (kw ||| (kw / 2 ^ 1)) from fa_or _ _]
    rw [show (nI us) &&& (nI (kw ||| (kw / 2 ^ 1))) = nI (us &&& (kw ||| (kw / 2 ^ 1))) from fa_and _ _]
    refine pw_cS (vs := [.int (nI (us &&& (kw ||| (kw / 2 ^ 1))))]) (rest := []) k_J6_bitCount_0f7a4 (c_bitCount (nI (us &&& (kw ||| (kw / 2 ^ 1)))) mm) l_4_43 rfl (by decide) (Nat.le_of_ble_eq_true rfl) (by decide +kernel) ?_
    rintro _ m1 ⟨rfl, e1⟩
    rw [e1]
    clear e1 m1
    show pw_V x m_X4_knowAfterwards 1 Z 31 [(3, .int (nI (kw / 2 ^ 1))), (0, .ref 20), (1, .int (nI us)), (2, .int (nI kw))] [.int (pw_bc (nI (us &&& (kw ||| (kw / 2 ^ 1)))))] mm
    rw [pw_bcN _ (pw_and8 bn hus)]
    rw [← hZ]
    refine pw_ri (by decide +kernel) ?_
    refine ⟨?_, rfl⟩
    simp [pw_ka, pw_hr, h9]
  · refine pw_blk (pc' := 19) [.iload 3, .iconst 1, .aload 0, .getfield 400, .iconst 1] (by decide +kernel) ?_
    show pw_V x m_X4_knowAfterwards 1 Z 19 [(3, .int (nI (kw / 2 ^ 1))), (0, .ref 20), (1, .int (nI us)), (2, .int (nI kw))] [.int (nI 1), .int (mm 20 0), .int (nI 1), .int (nI (kw / 2 ^ 1))] mm
    rw [show mm 20 0 = nI n from hs.2.1.1]
    have n1 := pw_tb0 hkw h9
    refine pw_blk (pc' := 20) [.isub] (by decide +kernel) ?_
    show pw_V x m_X4_knowAfterwards 1 Z 20 [(3, .int (nI (kw / 2 ^ 1))), (0, .ref 20), (1, .int (nI us)), (2, .int (nI kw))] [.int (nI n - nI 1), .int (nI 1), .int (nI (kw / 2 ^ 1))] mm
    rw [pk_sub (show 1 ≤ n by omega)]
    refine pw_blk (pc' := 28) [.ishl, .ior, .istore 3, .iload 1, .iload 2, .iload 3, .ior, .iand] (by decide +kernel) ?_
    show pw_V x m_X4_knowAfterwards 1 Z 28 [(3, .int ((nI (kw / 2 ^ 1)) ||| ((nI 1) <<< ((nI (n - 1)) &&& 31)))), (0, .ref 20), (1, .int (nI us)), (2, .int (nI kw))] [.int ((nI us) &&& ((nI kw) ||| ((nI (kw / 2 ^ 1)) ||| ((nI 1) <<< ((nI (n - 1)) &&& 31)))))] mm
    rw [show (nI 1) <<< ((nI (n - 1)) &&& 31) = nI (2 ^ (n - 1)) from pw_shl1 (by omega)]
    rw [show (nI (kw / 2 ^ 1)) ||| (nI (2 ^ (n - 1))) = nI ((kw / 2 ^ 1) ||| (2 ^ (n - 1))) from fa_or _ _]
    rw [show (nI kw) ||| (nI ((kw / 2 ^ 1) ||| (2 ^ (n - 1)))) = nI (kw ||| ((kw / 2 ^ 1) ||| (2 ^ (n - 1)))) from fa_or _ _]
    rw [show (nI us) &&& (nI (kw ||| ((kw / 2 ^ 1) ||| (2 ^ (n - 1))))) = nI (us &&& (kw ||| ((kw / 2 ^ 1) ||| (2 ^ (n - 1))))) from fa_and _ _]
    refine pw_cS (vs := [.int (nI (us &&& (kw ||| ((kw / 2 ^ 1) ||| (2 ^ (n - 1))))))]) (rest := []) k_J6_bitCount_0f7a4 (c_bitCount (nI (us &&& (kw ||| ((kw / 2 ^ 1) ||| (2 ^ (n - 1)))))) mm) l_4_43 rfl (by decide) (Nat.le_of_ble_eq_true rfl) (by decide +kernel) ?_
    rintro _ m1 ⟨rfl, e1⟩
    rw [e1]
    clear e1 m1
    show pw_V x m_X4_knowAfterwards 1 Z 31 [(3, .int (nI ((kw / 2 ^ 1) ||| (2 ^ (n - 1))))), (0, .ref 20), (1, .int (nI us)), (2, .int (nI kw))] [.int (pw_bc (nI (us &&& (kw ||| ((kw / 2 ^ 1) ||| (2 ^ (n - 1)))))))] mm
    rw [pw_bcN _ (pw_and8 bn hus)]
    rw [← hZ]
    refine pw_ri (by decide +kernel) ?_
    refine ⟨?_, rfl⟩
    simp [pw_ka, pw_hr, h9]

set_option maxHeartbeats 8000000 in
set_option maxRecDepth 100000 in
theorem c_mostFrom {n kn th : Nat} {gd en : Nat → Nat} {kb mc : Nat} (hkb : kb < 64) (hmc : mc < 100) : ∀ (f k : Nat), k + f = kn → ∀ (pl : Nat → Nat) (us kw : Nat) (q : Option Nat) (mm : pw_m), pw_SC mm n kn th gd en → pw_PL mm n th pl k → mm 20 7 = nI kb → mm 20 8 = nI mc → us < 2 ^ n ∧ kw < 2 ^ n ∧ (∀ a, q = some a → a ≤ 8) → pw_Ct (3 + f) yX4_mostFrom m_X4_mostFrom [.ref 20, .int (nI k), .int (nI us), .int (nI kw), .int (pw_o (q))] mm (fun r m' => r = some (.int (pw_o (pw_mo n kn th gd en kb mc f pl us kw q))) ∧ (∀ c, c ≠ 23 → m' c = mm c) ∧ ∀ j, j < k → m' 23 j = mm 23 j) := by
  intro f
  induction f with
  | zero =>
    intro k hkf pl us kw q mm hs hp hb7 hb8 hb
    obtain ⟨bn, bk, bt⟩ := hs.1
    refine pw_ct (by decide +kernel) rfl (Nat.le_of_ble_eq_true rfl) (fun x => ?_)
    generalize hZ : pw_Z x _ = Z
    have bka : pw_ka n us kw ≤ 8 := pw_pc_le _
    have bkb : kb < 64 := hkb
    have bmc : mc < 100 := hmc
    show pw_V x m_X4_mostFrom (3 + 0) Z 0 [(0, .ref 20), (1, .int (nI k)), (2, .int (nI us)), (3, .int (nI kw)), (4, .int (pw_o (q)))] [] mm
    refine pw_blk (pc' := 6) [.iload 4, .aload 0, .getfield 408] (by decide +kernel) ?_
    show pw_V x m_X4_mostFrom (3 + 0) Z 6 [(0, .ref 20), (1, .int (nI k)), (2, .int (nI us)), (3, .int (nI kw)), (4, .int (pw_o (q)))] [.int (mm 20 8), .int (pw_o (q))] mm
    rw [show mm 20 8 = nI mc from hb8]
    rcases h6o : q with _ | s6
    · show pw_V x m_X4_mostFrom (3 + 0) Z 6 [(0, .ref 20), (1, .int (nI k)), (2, .int (nI us)), (3, .int (nI kw)), (4, .int (-1))] [.int (nI mc), .int (-1)] mm
      refine pw_ic_lt (tgt := 12) (off := 6) (by decide +kernel) (by decide) (fun _ => ?_) (fun h => absurd (pw_m1_lt (by omega)) h)
      refine pw_blk (pc' := 17) [.iload 1, .aload 0, .getfield 401] (by decide +kernel) ?_
      show pw_V x m_X4_mostFrom (3 + 0) Z 17 [(0, .ref 20), (1, .int (nI k)), (2, .int (nI us)), (3, .int (nI kw)), (4, .int (-1))] [.int (mm 20 1), .int (nI k)] mm
      rw [show mm 20 1 = nI kn from hs.2.1.2.1]
      refine pw_in_lt (tgt := 32) (off := 15) (by omega) (by omega) (by decide +kernel) (by decide) (fun h17 => ?_) (fun h17 => ?_)
      · omega
      · refine pw_blk (pc' := 25) [.iload 4, .aload 0, .iload 2, .iload 3] (by decide +kernel) ?_
        show pw_V x m_X4_mostFrom (3 + 0) Z 25 [(0, .ref 20), (1, .int (nI k)), (2, .int (nI us)), (3, .int (nI kw)), (4, .int (-1))] [.int (nI kw), .int (nI us), .ref 20, .int (-1)] mm
        refine pw_cV (vs := [.int (nI us), .int (nI kw)]) (rest := [.int (-1)]) k_X4_knowAfterwards (c_knowAfterwards us kw mm hs hb.1 hb.2.1) l_4_72 rfl rfl rfl rfl (by omega) (Nat.le_of_ble_eq_true rfl) (by decide +kernel) ?_
        rintro _ m1 ⟨rfl, e1⟩
        rw [e1]
        clear e1 m1
        show pw_V x m_X4_mostFrom (3 + 0) Z 28 [(0, .ref 20), (1, .int (nI k)), (2, .int (nI us)), (3, .int (nI kw)), (4, .int (-1))] [.int (nI (pw_ka n us kw)), .int (-1)] mm
        refine pw_cMax l_4_75 (by omega) (Nat.le_of_ble_eq_true rfl) (by decide +kernel) ?_
        show pw_V x m_X4_mostFrom (3 + 0) Z 31 [(0, .ref 20), (1, .int (nI k)), (2, .int (nI us)), (3, .int (nI kw)), (4, .int (-1))] [.int (pw_max (-1) (nI (pw_ka n us kw)))] mm
        rw [pw_maxm (by omega)]
        rw [← hZ]
        refine pw_ri (by decide +kernel) ?_
        subst h6o
        refine ⟨?_, fun _ _ => rfl, fun _ _ => rfl⟩
        simp [pw_mo, pw_ge, pw_o]
    · show pw_V x m_X4_mostFrom (3 + 0) Z 6 [(0, .ref 20), (1, .int (nI k)), (2, .int (nI us)), (3, .int (nI kw)), (4, .int (nI s6))] [.int (nI mc), .int (nI s6)] mm
      have b6 := hb.2.2 _ h6o
      refine pw_in_lt (tgt := 12) (off := 6) (by omega) (by omega) (by decide +kernel) (by decide) (fun h6 => ?_) (fun h6 => ?_)
      · refine pw_blk (pc' := 17) [.iload 1, .aload 0, .getfield 401] (by decide +kernel) ?_
        show pw_V x m_X4_mostFrom (3 + 0) Z 17 [(0, .ref 20), (1, .int (nI k)), (2, .int (nI us)), (3, .int (nI kw)), (4, .int (nI s6))] [.int (mm 20 1), .int (nI k)] mm
        rw [show mm 20 1 = nI kn from hs.2.1.2.1]
        refine pw_in_lt (tgt := 32) (off := 15) (by omega) (by omega) (by decide +kernel) (by decide) (fun h17 => ?_) (fun h17 => ?_)
        · omega
        · refine pw_blk (pc' := 25) [.iload 4, .aload 0, .iload 2, .iload 3] (by decide +kernel) ?_
          show pw_V x m_X4_mostFrom (3 + 0) Z 25 [(0, .ref 20), (1, .int (nI k)), (2, .int (nI us)), (3, .int (nI kw)), (4, .int (nI s6))] [.int (nI kw), .int (nI us), .ref 20, .int (nI s6)] mm
          refine pw_cV (vs := [.int (nI us), .int (nI kw)]) (rest := [.int (nI s6)]) k_X4_knowAfterwards (c_knowAfterwards us kw mm hs hb.1 hb.2.1) l_4_72 rfl rfl rfl rfl (by omega) (Nat.le_of_ble_eq_true rfl) (by decide +kernel) ?_
          rintro _ m1 ⟨rfl, e1⟩
          rw [e1]
          clear e1 m1
          show pw_V x m_X4_mostFrom (3 + 0) Z 28 [(0, .ref 20), (1, .int (nI k)), (2, .int (nI us)), (3, .int (nI kw)), (4, .int (nI s6))] [.int (nI (pw_ka n us kw)), .int (nI s6)] mm
          refine pw_cMax l_4_75 (by omega) (Nat.le_of_ble_eq_true rfl) (by decide +kernel) ?_
          show pw_V x m_X4_mostFrom (3 + 0) Z 31 [(0, .ref 20), (1, .int (nI k)), (2, .int (nI us)), (3, .int (nI kw)), (4, .int (nI s6))] [.int (pw_max (nI s6) (nI (pw_ka n us kw)))] mm
          rw [pw_maxN (by omega) (by omega)]
          rw [← hZ]
          refine pw_ri (by decide +kernel) ?_
          subst h6o
          refine ⟨?_, fun _ _ => rfl, fun _ _ => rfl⟩
          simp [pw_mo, pw_ge, h6, pw_o, Nat.not_le.mpr h6]
      · refine pw_blk (pc' := 11) [.iload 4] (by decide +kernel) ?_
        show pw_V x m_X4_mostFrom (3 + 0) Z 11 [(0, .ref 20), (1, .int (nI k)), (2, .int (nI us)), (3, .int (nI kw)), (4, .int (nI s6))] [.int (nI s6)] mm
        rw [← hZ]
        refine pw_ri (by decide +kernel) ?_
        subst h6o
        exact ⟨by rw [pw_moL (by simp [pw_ge, h6])]; rfl, fun _ _ => rfl, fun _ _ => rfl⟩
  | succ f ih =>
    intro k hkf pl us kw q mm hs hp hb7 hb8 hb
    obtain ⟨bn, bk, bt⟩ := hs.1
    refine pw_ct (by decide +kernel) rfl (Nat.le_of_ble_eq_true rfl) (fun x => ?_)
    generalize hZ : pw_Z x _ = Z
    have bkb : kb < 64 := hkb
    have bmc : mc < 100 := hmc
    show pw_V x m_X4_mostFrom (3 + (f + 1)) Z 0 [(0, .ref 20), (1, .int (nI k)), (2, .int (nI us)), (3, .int (nI kw)), (4, .int (pw_o (q)))] [] mm
    refine pw_blk (pc' := 6) [.iload 4, .aload 0, .getfield 408] (by decide +kernel) ?_
    show pw_V x m_X4_mostFrom (3 + (f + 1)) Z 6 [(0, .ref 20), (1, .int (nI k)), (2, .int (nI us)), (3, .int (nI kw)), (4, .int (pw_o (q)))] [.int (mm 20 8), .int (pw_o (q))] mm
    rw [show mm 20 8 = nI mc from hb8]
    rcases h6o : q with _ | s6
    · show pw_V x m_X4_mostFrom (3 + (f + 1)) Z 6 [(0, .ref 20), (1, .int (nI k)), (2, .int (nI us)), (3, .int (nI kw)), (4, .int (-1))] [.int (nI mc), .int (-1)] mm
      refine pw_ic_lt (tgt := 12) (off := 6) (by decide +kernel) (by decide) (fun _ => ?_) (fun h => absurd (pw_m1_lt (by omega)) h)
      refine pw_blk (pc' := 17) [.iload 1, .aload 0, .getfield 401] (by decide +kernel) ?_
      show pw_V x m_X4_mostFrom (3 + (f + 1)) Z 17 [(0, .ref 20), (1, .int (nI k)), (2, .int (nI us)), (3, .int (nI kw)), (4, .int (-1))] [.int (mm 20 1), .int (nI k)] mm
      rw [show mm 20 1 = nI kn from hs.2.1.2.1]
      refine pw_in_lt (tgt := 32) (off := 15) (by omega) (by omega) (by decide +kernel) (by decide) (fun h17 => ?_) (fun h17 => ?_)
      · refine pw_blk (pc' := 37) [.aload 0, .getfield 402, .iload 1] (by decide +kernel) ?_
        show pw_V x m_X4_mostFrom (3 + (f + 1)) Z 37 [(0, .ref 20), (1, .int (nI k)), (2, .int (nI us)), (3, .int (nI kw)), (4, .int (-1))] [.int (nI k), .int (mm 20 2)] mm
        rw [show mm 20 2 = nI th from hs.2.1.2.2]
        refine pw_cN (idx := 63) (vs := [.int (nI th), .int (nI k)]) (rest := []) (host := RX7) k_X7_has (c_has (nI th) (nI k) mm) (by decide +kernel) rfl (by omega) (Nat.le_of_ble_eq_true rfl) (by decide +kernel) ?_
        rintro _ m1 ⟨rfl, e1⟩
        rw [e1]
        clear e1 m1
        show pw_V x m_X4_mostFrom (3 + (f + 1)) Z 40 [(0, .ref 20), (1, .int (nI k)), (2, .int (nI us)), (3, .int (nI kw)), (4, .int (-1))] [.int (pw_b (pw_hs (nI th) (nI k)))] mm
        rw [pw_hs_n (by omega) (by omega)]
        refine pw_ib_ne (tgt := 55) (off := 15) (by decide +kernel) (by decide) (fun h40 => ?_) (fun h40 => ?_)
        · refine pw_blk (pc' := 58) [.aload 0, .iload 1, .iload 2] (by decide +kernel) ?_
          show pw_V x m_X4_mostFrom (3 + (f + 1)) Z 58 [(0, .ref 20), (1, .int (nI k)), (2, .int (nI us)), (3, .int (nI kw)), (4, .int (-1))] [.int (nI us), .int (nI k), .ref 20] mm
          refine pw_cV (vs := [.int (nI k), .int (nI us)]) (rest := []) k_X4_freeSeats (c_freeSeats k us pl mm hs (by omega) hp) l_4_66 rfl rfl rfl rfl (by omega) (Nat.le_of_ble_eq_true rfl) (by decide +kernel) ?_
          rintro _ m1 ⟨rfl, e1⟩
          rw [e1]
          clear e1 m1
          show pw_V x m_X4_mostFrom (3 + (f + 1)) Z 61 [(0, .ref 20), (1, .int (nI k)), (2, .int (nI us)), (3, .int (nI kw)), (4, .int (-1))] [.int (nI (pw_frI n th (gd k) (en k) pl us k))] mm
          refine pw_blk (pc' := 63) [.istore 5] (by decide +kernel) ?_
          show pw_V x m_X4_mostFrom (3 + (f + 1)) Z 63 [(5, .int (nI (pw_frI n th (gd k) (en k) pl us k))), (0, .ref 20), (1, .int (nI k)), (2, .int (nI us)), (3, .int (nI kw)), (4, .int (-1))] [] mm
          have bf : (pw_frI n th (gd k) (en k) pl us k) < 2 ^ n := pw_frI_lt (hs.2.2 k (by omega)).1.2
          have bf8 := pw_p8 bn bf
          refine pw_blk (pc' := 70) [.iload 4, .istore 6, .iconst 0, .istore 7] (by decide +kernel) ?_
          show pw_V x m_X4_mostFrom (3 + (f + 1)) Z 70 [(7, .int (nI 0)), (6, .int (-1)), (5, .int (nI (pw_frI n th (gd k) (en k) pl us k))), (0, .ref 20), (1, .int (nI k)), (2, .int (nI us)), (3, .int (nI kw)), (4, .int (-1))] [] mm
          refine pw_lvp [3, 4, 5, 6, 7, 2, 1, 0] rfl ?_
          suffices loop : ∀ s : Nat, s ≤ n → ∀ m : pw_m, (∀ c, c ≠ 23 → m c = mm c) → (∀ j, j < k → m 23 j = mm 23 j) → (∀ a, pw_fo (fun s x => if (pw_frI n th (gd k) (en k) pl us k).testBit s = true then pw_mo n kn th gd en kb mc f (pw_ns pl k s) (us ||| 2 ^ s) (kw ||| (if kb.testBit k = true then 2 ^ s else 0)) x else x) s none = some a → a ≤ 8) → pw_V x m_X4_mostFrom (3 + (f + 1)) Z 70 [(0, .ref 20), (1, .int (nI k)), (2, .int (nI us)), (3, .int (nI kw)), (4, .int (-1)), (5, .int (nI (pw_frI n th (gd k) (en k) pl us k))), (6, .int (pw_o ((pw_fo (fun s x => if (pw_frI n th (gd k) (en k) pl us k).testBit s = true then pw_mo n kn th gd en kb mc f (pw_ns pl k s) (us ||| 2 ^ s) (kw ||| (if kb.testBit k = true then 2 ^ s else 0)) x else x) s none)))), (7, .int (nI s))] [] m from loop 0 (by omega) mm (fun _ _ => rfl) (fun _ _ => rfl) (fun a ha => by cases ha)
          refine pw_dn n (fun s hsn ih2 m hm hpm hfo => ?_)
          have hsm := hs.c hm
          refine pw_blk (pc' := 76) [.iload 7, .aload 0, .getfield 400] (by decide +kernel) ?_
          show pw_V x m_X4_mostFrom (3 + (f + 1)) Z 76 [(0, .ref 20), (1, .int (nI k)), (2, .int (nI us)), (3, .int (nI kw)), (4, .int (-1)), (5, .int (nI (pw_frI n th (gd k) (en k) pl us k))), (6, .int (pw_o ((pw_fo (fun s x => if (pw_frI n th (gd k) (en k) pl us k).testBit s = true then pw_mo n kn th gd en kb mc f (pw_ns pl k s) (us ||| 2 ^ s) (kw ||| (if kb.testBit k = true then 2 ^ s else 0)) x else x) s none)))), (7, .int (nI s))] [.int (m 20 0), .int (nI s)] m
          rw [show m 20 0 = nI n from hsm.2.1.1]
          refine pw_in_ge (tgt := 145) (off := 69) (by omega) (by omega) (by decide +kernel) (by decide) (fun h76 => ?_) (fun h76 => ?_)
          · refine pw_blk (pc' := 147) [.iload 6] (by decide +kernel) ?_
            show pw_V x m_X4_mostFrom (3 + (f + 1)) Z 147 [(0, .ref 20), (1, .int (nI k)), (2, .int (nI us)), (3, .int (nI kw)), (4, .int (-1)), (5, .int (nI (pw_frI n th (gd k) (en k) pl us k))), (6, .int (pw_o ((pw_fo (fun s x => if (pw_frI n th (gd k) (en k) pl us k).testBit s = true then pw_mo n kn th gd en kb mc f (pw_ns pl k s) (us ||| 2 ^ s) (kw ||| (if kb.testBit k = true then 2 ^ s else 0)) x else x) s none)))), (7, .int (nI s))] [.int (pw_o ((pw_fo (fun s x => if (pw_frI n th (gd k) (en k) pl us k).testBit s = true then pw_mo n kn th gd en kb mc f (pw_ns pl k s) (us ||| 2 ^ s) (kw ||| (if kb.testBit k = true then 2 ^ s else 0)) x else x) s none)))] m
            rw [← hZ]
            refine pw_ri (by decide +kernel) ?_
            have e : s = n := by omega
            subst e
            subst h6o
            exact ⟨by rw [pw_moS hkf (show pw_ge none mc = false from rfl) h40], hm, hpm⟩
          · refine pw_blk (pc' := 83) [.iload 5, .iload 7] (by decide +kernel) ?_
            show pw_V x m_X4_mostFrom (3 + (f + 1)) Z 83 [(0, .ref 20), (1, .int (nI k)), (2, .int (nI us)), (3, .int (nI kw)), (4, .int (-1)), (5, .int (nI (pw_frI n th (gd k) (en k) pl us k))), (6, .int (pw_o ((pw_fo (fun s x => if (pw_frI n th (gd k) (en k) pl us k).testBit s = true then pw_mo n kn th gd en kb mc f (pw_ns pl k s) (us ||| 2 ^ s) (kw ||| (if kb.testBit k = true then 2 ^ s else 0)) x else x) s none)))), (7, .int (nI s))] [.int (nI s), .int (nI (pw_frI n th (gd k) (en k) pl us k))] m
            refine pw_cN (idx := 63) (vs := [.int (nI (pw_frI n th (gd k) (en k) pl us k)), .int (nI s)]) (rest := []) (host := RX7) k_X7_has (c_has (nI (pw_frI n th (gd k) (en k) pl us k)) (nI s) m) (by decide +kernel) rfl (by omega) (Nat.le_of_ble_eq_true rfl) (by decide +kernel) ?_
            rintro _ m1 ⟨rfl, e1⟩
            rw [e1]
            clear e1 m1
            show pw_V x m_X4_mostFrom (3 + (f + 1)) Z 86 [(0, .ref 20), (1, .int (nI k)), (2, .int (nI us)), (3, .int (nI kw)), (4, .int (-1)), (5, .int (nI (pw_frI n th (gd k) (en k) pl us k))), (6, .int (pw_o ((pw_fo (fun s x => if (pw_frI n th (gd k) (en k) pl us k).testBit s = true then pw_mo n kn th gd en kb mc f (pw_ns pl k s) (us ||| 2 ^ s) (kw ||| (if kb.testBit k = true then 2 ^ s else 0)) x else x) s none)))), (7, .int (nI s))] [.int (pw_b (pw_hs (nI (pw_frI n th (gd k) (en k) pl us k)) (nI s)))] m
            rw [pw_hs_n (by omega) (by omega)]
            refine pw_ib_eq (tgt := 139) (off := 53) (by decide +kernel) (by decide) (fun h86 => ?_) (fun h86 => ?_)
            · refine pw_blk (pc' := 142) [.iinc 7 1] (by decide +kernel) ?_
              show pw_V x m_X4_mostFrom (3 + (f + 1)) Z 142 [(7, .int ((nI s) + (nI 1))), (0, .ref 20), (1, .int (nI k)), (2, .int (nI us)), (3, .int (nI kw)), (4, .int (-1)), (5, .int (nI (pw_frI n th (gd k) (en k) pl us k))), (6, .int (pw_o ((pw_fo (fun s x => if (pw_frI n th (gd k) (en k) pl us k).testBit s = true then pw_mo n kn th gd en kb mc f (pw_ns pl k s) (us ||| 2 ^ s) (kw ||| (if kb.testBit k = true then 2 ^ s else 0)) x else x) s none))))] [] m
              rw [show (nI s) + (nI 1) = nI (s + 1) from nI_add _ _]
              refine pw_goto (tgt := 70) (off := -72) (by decide +kernel) (by decide) ?_
              have e9 : pw_fo (fun s x => if (pw_frI n th (gd k) (en k) pl us k).testBit s = true then pw_mo n kn th gd en kb mc f (pw_ns pl k s) (us ||| 2 ^ s) (kw ||| (if kb.testBit k = true then 2 ^ s else 0)) x else x) s none = (pw_fo (fun s x => if (pw_frI n th (gd k) (en k) pl us k).testBit s = true then pw_mo n kn th gd en kb mc f (pw_ns pl k s) (us ||| 2 ^ s) (kw ||| (if kb.testBit k = true then 2 ^ s else 0)) x else x) (s + 1) none) := by simp [pw_fo, h86]
              rw [e9]
              refine pw_lvp [1, 2, 3, 4, 5, 6, 7, 0] rfl ?_
              exact ih2 (by omega) m hm hpm (by rw [← e9]; exact hfo)
            · refine pw_blk (pc' := 102) [.aload 0, .getfield 405, .iload 1, .iload 7, .iastore, .aload 0, .getfield 407, .iload 1] (by decide +kernel) ?_
              refine ⟨k, rfl, by omega, ?_⟩
              show pw_V x m_X4_mostFrom (3 + (f + 1)) Z 102 [(0, .ref 20), (1, .int (nI k)), (2, .int (nI us)), (3, .int (nI kw)), (4, .int (-1)), (5, .int (nI (pw_frI n th (gd k) (en k) pl us k))), (6, .int (pw_o ((pw_fo (fun s x => if (pw_frI n th (gd k) (en k) pl us k).testBit s = true then pw_mo n kn th gd en kb mc f (pw_ns pl k s) (us ||| 2 ^ s) (kw ||| (if kb.testBit k = true then 2 ^ s else 0)) x else x) s none)))), (7, .int (nI s))] [.int (nI k), .int (m 20 7)] (pw_up m 23 k (nI s))
              rw [show m 20 7 = nI kb from (by rw [hm 20 (by omega)]; exact hb7)]
              refine pw_cN (idx := 63) (vs := [.int (nI kb), .int (nI k)]) (rest := []) (host := RX7) k_X7_has (c_has (nI kb) (nI k) (pw_up m 23 k (nI s))) (by decide +kernel) rfl (by omega) (Nat.le_of_ble_eq_true rfl) (by decide +kernel) ?_
              rintro _ m1 ⟨rfl, e1⟩
              rw [e1]
              clear e1 m1
              show pw_V x m_X4_mostFrom (3 + (f + 1)) Z 105 [(0, .ref 20), (1, .int (nI k)), (2, .int (nI us)), (3, .int (nI kw)), (4, .int (-1)), (5, .int (nI (pw_frI n th (gd k) (en k) pl us k))), (6, .int (pw_o ((pw_fo (fun s x => if (pw_frI n th (gd k) (en k) pl us k).testBit s = true then pw_mo n kn th gd en kb mc f (pw_ns pl k s) (us ||| 2 ^ s) (kw ||| (if kb.testBit k = true then 2 ^ s else 0)) x else x) s none)))), (7, .int (nI s))] [.int (pw_b (pw_hs (nI kb) (nI k)))] (pw_up m 23 k (nI s))
              rw [pw_hs_n (by omega) (by omega)]
              refine pw_ib_eq (tgt := 115) (off := 10) (by decide +kernel) (by decide) (fun h105 => ?_) (fun h105 => ?_)
              · refine pw_blk (pc' := 134) [.iconst 0, .istore 8, .aload 0, .iload 1, .iconst 1, .iadd, .iload 2, .iconst 1, .iload 7, .ishl, .ior, .iload 3, .iload 8, .ior, .iload 6] (by decide +kernel) ?_
                show pw_V x m_X4_mostFrom (3 + (f + 1)) Z 134 [(8, .int (nI 0)), (0, .ref 20), (1, .int (nI k)), (2, .int (nI us)), (3, .int (nI kw)), (4, .int (-1)), (5, .int (nI (pw_frI n th (gd k) (en k) pl us k))), (6, .int (pw_o ((pw_fo (fun s x => if (pw_frI n th (gd k) (en k) pl us k).testBit s = true then pw_mo n kn th gd en kb mc f (pw_ns pl k s) (us ||| 2 ^ s) (kw ||| (if kb.testBit k = true then 2 ^ s else 0)) x else x) s none)))), (7, .int (nI s))] [.int (pw_o ((pw_fo (fun s x => if (pw_frI n th (gd k) (en k) pl us k).testBit s = true then pw_mo n kn th gd en kb mc f (pw_ns pl k s) (us ||| 2 ^ s) (kw ||| (if kb.testBit k = true then 2 ^ s else 0)) x else x) s none))), .int ((nI kw) ||| (nI 0)), .int ((nI us) ||| ((nI 1) <<< ((nI s) &&& 31))), .int ((nI k) + (nI 1)), .ref 20] (pw_up m 23 k (nI s))
                rw [show (nI kw) ||| (nI 0) = nI (kw ||| 0) from fa_or _ _]
                rw [show (nI 1) <<< ((nI s) &&& 31) = nI (2 ^ s) from pw_shl1 (by omega)]
                rw [show (nI us) ||| (nI (2 ^ s)) = nI (us ||| (2 ^ s)) from fa_or _ _]
                rw [show (nI k) + (nI 1) = nI (k + 1) from nI_add _ _]
                refine pw_cV (vs := [.int (nI (k + 1)), .int (nI (us ||| (2 ^ s))), .int (nI (kw ||| 0)), .int (pw_o ((pw_fo (fun s x => if (pw_frI n th (gd k) (en k) pl us k).testBit s = true then pw_mo n kn th gd en kb mc f (pw_ns pl k s) (us ||| 2 ^ s) (kw ||| (if kb.testBit k = true then 2 ^ s else 0)) x else x) s none)))]) (rest := []) k_X4_mostFrom (ih (k + 1) (by omega) (pw_ns pl k s) (us ||| 2 ^ s) (kw ||| 0) (pw_fo (fun s x => if (pw_frI n th (gd k) (en k) pl us k).testBit s = true then pw_mo n kn th gd en kb mc f (pw_ns pl k s) (us ||| 2 ^ s) (kw ||| (if kb.testBit k = true then 2 ^ s else 0)) x else x) s none) (pw_up m 23 k (nI s)) (hsm.c (fun c hc => pw_up_ne hc)) ((hp.c hpm).put (by omega)) (by rw [pw_up_ne (by omega), hm 20 (by omega)]; exact hb7) (by rw [pw_up_ne (by omega), hm 20 (by omega)]; exact hb8) ⟨pw_orn hb.1 (by omega), by rw [Nat.or_zero]; exact hb.2.1, hfo⟩) l_4_57 rfl rfl rfl rfl (by omega) (Nat.le_of_ble_eq_true rfl) (by decide +kernel) ?_
                rintro _ m1 ⟨rfl, e1, e2⟩
                show pw_V x m_X4_mostFrom (3 + (f + 1)) Z 137 [(8, .int (nI 0)), (0, .ref 20), (1, .int (nI k)), (2, .int (nI us)), (3, .int (nI kw)), (4, .int (-1)), (5, .int (nI (pw_frI n th (gd k) (en k) pl us k))), (6, .int (pw_o ((pw_fo (fun s x => if (pw_frI n th (gd k) (en k) pl us k).testBit s = true then pw_mo n kn th gd en kb mc f (pw_ns pl k s) (us ||| 2 ^ s) (kw ||| (if kb.testBit k = true then 2 ^ s else 0)) x else x) s none)))), (7, .int (nI s))] [.int (pw_o ((pw_mo n kn th gd en kb mc f (pw_ns pl k s) (us ||| (2 ^ s)) (kw ||| 0) (pw_fo (fun s x => if (pw_frI n th (gd k) (en k) pl us k).testBit s = true then pw_mo n kn th gd en kb mc f (pw_ns pl k s) (us ||| 2 ^ s) (kw ||| (if kb.testBit k = true then 2 ^ s else 0)) x else x) s none))))] m1
                refine pw_blk (pc' := 142) [.istore 6, .iinc 7 1] (by decide +kernel) ?_
                show pw_V x m_X4_mostFrom (3 + (f + 1)) Z 142 [(7, .int ((nI s) + (nI 1))), (6, .int (pw_o ((pw_mo n kn th gd en kb mc f (pw_ns pl k s) (us ||| (2 ^ s)) (kw ||| 0) (pw_fo (fun s x => if (pw_frI n th (gd k) (en k) pl us k).testBit s = true then pw_mo n kn th gd en kb mc f (pw_ns pl k s) (us ||| 2 ^ s) (kw ||| (if kb.testBit k = true then 2 ^ s else 0)) x else x) s none))))), (8, .int (nI 0)), (0, .ref 20), (1, .int (nI k)), (2, .int (nI us)), (3, .int (nI kw)), (4, .int (-1)), (5, .int (nI (pw_frI n th (gd k) (en k) pl us k)))] [] m1
                rw [show (nI s) + (nI 1) = nI (s + 1) from nI_add _ _]
                refine pw_goto (tgt := 70) (off := -72) (by decide +kernel) (by decide) ?_
                have e9 : (pw_mo n kn th gd en kb mc f (pw_ns pl k s) (us ||| (2 ^ s)) (kw ||| 0) (pw_fo (fun s x => if (pw_frI n th (gd k) (en k) pl us k).testBit s = true then pw_mo n kn th gd en kb mc f (pw_ns pl k s) (us ||| 2 ^ s) (kw ||| (if kb.testBit k = true then 2 ^ s else 0)) x else x) s none)) = (pw_fo (fun s x => if (pw_frI n th (gd k) (en k) pl us k).testBit s = true then pw_mo n kn th gd en kb mc f (pw_ns pl k s) (us ||| 2 ^ s) (kw ||| (if kb.testBit k = true then 2 ^ s else 0)) x else x) (s + 1) none) := by simp [pw_fo, h86, h105]
                rw [e9]
                refine pw_lvp [3, 4, 5, 6, 7, 8, 1, 0] rfl ?_
                exact ih2 (by omega) m1 (fun c hc => by rw [e1 c hc, pw_up_ne hc]; exact hm c hc) (fun j hj => by rw [e2 j (by omega), pw_up_eq]; unfold upd; rw [if_neg (by omega)]; exact hpm j hj) (by rw [← e9]; exact pw_mob _ _ _ _ _ hfo)
              · refine pw_blk (pc' := 112) [.iconst 1, .iload 7, .ishl] (by decide +kernel) ?_
                show pw_V x m_X4_mostFrom (3 + (f + 1)) Z 112 [(0, .ref 20), (1, .int (nI k)), (2, .int (nI us)), (3, .int (nI kw)), (4, .int (-1)), (5, .int (nI (pw_frI n th (gd k) (en k) pl us k))), (6, .int (pw_o ((pw_fo (fun s x => if (pw_frI n th (gd k) (en k) pl us k).testBit s = true then pw_mo n kn th gd en kb mc f (pw_ns pl k s) (us ||| 2 ^ s) (kw ||| (if kb.testBit k = true then 2 ^ s else 0)) x else x) s none)))), (7, .int (nI s))] [.int ((nI 1) <<< ((nI s) &&& 31))] (pw_up m 23 k (nI s))
                rw [show (nI 1) <<< ((nI s) &&& 31) = nI (2 ^ s) from pw_shl1 (by omega)]
                refine pw_goto (tgt := 116) (off := 4) (by decide +kernel) (by decide) ?_
                refine pw_blk (pc' := 134) [.istore 8, .aload 0, .iload 1, .iconst 1, .iadd, .iload 2, .iconst 1, .iload 7, .ishl, .ior, .iload 3, .iload 8, .ior, .iload 6] (by decide +kernel) ?_
                show pw_V x m_X4_mostFrom (3 + (f + 1)) Z 134 [(8, .int (nI (2 ^ s))), (0, .ref 20), (1, .int (nI k)), (2, .int (nI us)), (3, .int (nI kw)), (4, .int (-1)), (5, .int (nI (pw_frI n th (gd k) (en k) pl us k))), (6, .int (pw_o ((pw_fo (fun s x => if (pw_frI n th (gd k) (en k) pl us k).testBit s = true then pw_mo n kn th gd en kb mc f (pw_ns pl k s) (us ||| 2 ^ s) (kw ||| (if kb.testBit k = true then 2 ^ s else 0)) x else x) s none)))), (7, .int (nI s))] [.int (pw_o ((pw_fo (fun s x => if (pw_frI n th (gd k) (en k) pl us k).testBit s = true then pw_mo n kn th gd en kb mc f (pw_ns pl k s) (us ||| 2 ^ s) (kw ||| (if kb.testBit k = true then 2 ^ s else 0)) x else x) s none))), .int ((nI kw) ||| (nI (2 ^ s))), .int ((nI us) ||| ((nI 1) <<< ((nI s) &&& 31))), .int ((nI k) + (nI 1)), .ref 20] (pw_up m 23 k (nI s))
                rw [show (nI kw) ||| (nI (2 ^ s)) = nI (kw ||| (2 ^ s)) from fa_or _ _]
                rw [show (nI 1) <<< ((nI s) &&& 31) = nI (2 ^ s) from pw_shl1 (by omega)]
                rw [show (nI us) ||| (nI (2 ^ s)) = nI (us ||| (2 ^ s)) from fa_or _ _]
                rw [show (nI k) + (nI 1) = nI (k + 1) from nI_add _ _]
                refine pw_cV (vs := [.int (nI (k + 1)), .int (nI (us ||| (2 ^ s))), .int (nI (kw ||| (2 ^ s))), .int (pw_o ((pw_fo (fun s x => if (pw_frI n th (gd k) (en k) pl us k).testBit s = true then pw_mo n kn th gd en kb mc f (pw_ns pl k s) (us ||| 2 ^ s) (kw ||| (if kb.testBit k = true then 2 ^ s else 0)) x else x) s none)))]) (rest := []) k_X4_mostFrom (ih (k + 1) (by omega) (pw_ns pl k s) (us ||| 2 ^ s) (kw ||| (2 ^ s)) (pw_fo (fun s x => if (pw_frI n th (gd k) (en k) pl us k).testBit s = true then pw_mo n kn th gd en kb mc f (pw_ns pl k s) (us ||| 2 ^ s) (kw ||| (if kb.testBit k = true then 2 ^ s else 0)) x else x) s none) (pw_up m 23 k (nI s)) (hsm.c (fun c hc => pw_up_ne hc)) ((hp.c hpm).put (by omega)) (by rw [pw_up_ne (by omega), hm 20 (by omega)]; exact hb7) (by rw [pw_up_ne (by omega), hm 20 (by omega)]; exact hb8) ⟨pw_orn hb.1 (by omega), pw_orn hb.2.1 (by omega), hfo⟩) l_4_57 rfl rfl rfl rfl (by omega) (Nat.le_of_ble_eq_true rfl) (by decide +kernel) ?_
                rintro _ m1 ⟨rfl, e1, e2⟩
                show pw_V x m_X4_mostFrom (3 + (f + 1)) Z 137 [(8, .int (nI (2 ^ s))), (0, .ref 20), (1, .int (nI k)), (2, .int (nI us)), (3, .int (nI kw)), (4, .int (-1)), (5, .int (nI (pw_frI n th (gd k) (en k) pl us k))), (6, .int (pw_o ((pw_fo (fun s x => if (pw_frI n th (gd k) (en k) pl us k).testBit s = true then pw_mo n kn th gd en kb mc f (pw_ns pl k s) (us ||| 2 ^ s) (kw ||| (if kb.testBit k = true then 2 ^ s else 0)) x else x) s none)))), (7, .int (nI s))] [.int (pw_o ((pw_mo n kn th gd en kb mc f (pw_ns pl k s) (us ||| (2 ^ s)) (kw ||| (2 ^ s)) (pw_fo (fun s x => if (pw_frI n th (gd k) (en k) pl us k).testBit s = true then pw_mo n kn th gd en kb mc f (pw_ns pl k s) (us ||| 2 ^ s) (kw ||| (if kb.testBit k = true then 2 ^ s else 0)) x else x) s none))))] m1
                refine pw_blk (pc' := 142) [.istore 6, .iinc 7 1] (by decide +kernel) ?_
                show pw_V x m_X4_mostFrom (3 + (f + 1)) Z 142 [(7, .int ((nI s) + (nI 1))), (6, .int (pw_o ((pw_mo n kn th gd en kb mc f (pw_ns pl k s) (us ||| (2 ^ s)) (kw ||| (2 ^ s)) (pw_fo (fun s x => if (pw_frI n th (gd k) (en k) pl us k).testBit s = true then pw_mo n kn th gd en kb mc f (pw_ns pl k s) (us ||| 2 ^ s) (kw ||| (if kb.testBit k = true then 2 ^ s else 0)) x else x) s none))))), (8, .int (nI (2 ^ s))), (0, .ref 20), (1, .int (nI k)), (2, .int (nI us)), (3, .int (nI kw)), (4, .int (-1)), (5, .int (nI (pw_frI n th (gd k) (en k) pl us k)))] [] m1
                rw [show (nI s) + (nI 1) = nI (s + 1) from nI_add _ _]
                refine pw_goto (tgt := 70) (off := -72) (by decide +kernel) (by decide) ?_
                have e9 : (pw_mo n kn th gd en kb mc f (pw_ns pl k s) (us ||| (2 ^ s)) (kw ||| (2 ^ s)) (pw_fo (fun s x => if (pw_frI n th (gd k) (en k) pl us k).testBit s = true then pw_mo n kn th gd en kb mc f (pw_ns pl k s) (us ||| 2 ^ s) (kw ||| (if kb.testBit k = true then 2 ^ s else 0)) x else x) s none)) = (pw_fo (fun s x => if (pw_frI n th (gd k) (en k) pl us k).testBit s = true then pw_mo n kn th gd en kb mc f (pw_ns pl k s) (us ||| 2 ^ s) (kw ||| (if kb.testBit k = true then 2 ^ s else 0)) x else x) (s + 1) none) := by simp [pw_fo, h86, h105]
                rw [e9]
                refine pw_lvp [3, 4, 5, 6, 7, 8, 1, 0] rfl ?_
                exact ih2 (by omega) m1 (fun c hc => by rw [e1 c hc, pw_up_ne hc]; exact hm c hc) (fun j hj => by rw [e2 j (by omega), pw_up_eq]; unfold upd; rw [if_neg (by omega)]; exact hpm j hj) (by rw [← e9]; exact pw_mob _ _ _ _ _ hfo)
        · refine pw_blk (pc' := 51) [.aload 0, .iload 1, .iconst 1, .iadd, .iload 2, .iload 3, .iload 4] (by decide +kernel) ?_
          show pw_V x m_X4_mostFrom (3 + (f + 1)) Z 51 [(0, .ref 20), (1, .int (nI k)), (2, .int (nI us)), (3, .int (nI kw)), (4, .int (-1))] [.int (-1), .int (nI kw), .int (nI us), .int ((nI k) + (nI 1)), .ref 20] mm
          rw [show (nI k) + (nI 1) = nI (k + 1) from nI_add _ _]
          refine pw_cV (vs := [.int (nI (k + 1)), .int (nI us), .int (nI kw), .int (-1)]) (rest := []) k_X4_mostFrom (ih (k + 1) (by omega) pl us kw none mm hs (hp.skip h40) hb7 hb8 ⟨hb.1, hb.2.1, fun a ha => by cases ha⟩) l_4_57 rfl rfl rfl rfl (by omega) (Nat.le_of_ble_eq_true rfl) (by decide +kernel) ?_
          rintro _ m1 ⟨rfl, e1, e2⟩
          show pw_V x m_X4_mostFrom (3 + (f + 1)) Z 54 [(0, .ref 20), (1, .int (nI k)), (2, .int (nI us)), (3, .int (nI kw)), (4, .int (-1))] [.int (pw_o ((pw_mo n kn th gd en kb mc f pl us kw none)))] m1
          rw [← hZ]
          refine pw_ri (by decide +kernel) ?_
          subst h6o
          exact ⟨by rw [pw_moN hkf (show pw_ge none mc = false from rfl) h40], e1, fun j hj => e2 j (by omega)⟩
      · omega
    · show pw_V x m_X4_mostFrom (3 + (f + 1)) Z 6 [(0, .ref 20), (1, .int (nI k)), (2, .int (nI us)), (3, .int (nI kw)), (4, .int (nI s6))] [.int (nI mc), .int (nI s6)] mm
      have b6 := hb.2.2 _ h6o
      refine pw_in_lt (tgt := 12) (off := 6) (by omega) (by omega) (by decide +kernel) (by decide) (fun h6 => ?_) (fun h6 => ?_)
      · refine pw_blk (pc' := 17) [.iload 1, .aload 0, .getfield 401] (by decide +kernel) ?_
        show pw_V x m_X4_mostFrom (3 + (f + 1)) Z 17 [(0, .ref 20), (1, .int (nI k)), (2, .int (nI us)), (3, .int (nI kw)), (4, .int (nI s6))] [.int (mm 20 1), .int (nI k)] mm
        rw [show mm 20 1 = nI kn from hs.2.1.2.1]
        refine pw_in_lt (tgt := 32) (off := 15) (by omega) (by omega) (by decide +kernel) (by decide) (fun h17 => ?_) (fun h17 => ?_)
        · refine pw_blk (pc' := 37) [.aload 0, .getfield 402, .iload 1] (by decide +kernel) ?_
          show pw_V x m_X4_mostFrom (3 + (f + 1)) Z 37 [(0, .ref 20), (1, .int (nI k)), (2, .int (nI us)), (3, .int (nI kw)), (4, .int (nI s6))] [.int (nI k), .int (mm 20 2)] mm
          rw [show mm 20 2 = nI th from hs.2.1.2.2]
          refine pw_cN (idx := 63) (vs := [.int (nI th), .int (nI k)]) (rest := []) (host := RX7) k_X7_has (c_has (nI th) (nI k) mm) (by decide +kernel) rfl (by omega) (Nat.le_of_ble_eq_true rfl) (by decide +kernel) ?_
          rintro _ m1 ⟨rfl, e1⟩
          rw [e1]
          clear e1 m1
          show pw_V x m_X4_mostFrom (3 + (f + 1)) Z 40 [(0, .ref 20), (1, .int (nI k)), (2, .int (nI us)), (3, .int (nI kw)), (4, .int (nI s6))] [.int (pw_b (pw_hs (nI th) (nI k)))] mm
          rw [pw_hs_n (by omega) (by omega)]
          refine pw_ib_ne (tgt := 55) (off := 15) (by decide +kernel) (by decide) (fun h40 => ?_) (fun h40 => ?_)
          · refine pw_blk (pc' := 58) [.aload 0, .iload 1, .iload 2] (by decide +kernel) ?_
            show pw_V x m_X4_mostFrom (3 + (f + 1)) Z 58 [(0, .ref 20), (1, .int (nI k)), (2, .int (nI us)), (3, .int (nI kw)), (4, .int (nI s6))] [.int (nI us), .int (nI k), .ref 20] mm
            refine pw_cV (vs := [.int (nI k), .int (nI us)]) (rest := []) k_X4_freeSeats (c_freeSeats k us pl mm hs (by omega) hp) l_4_66 rfl rfl rfl rfl (by omega) (Nat.le_of_ble_eq_true rfl) (by decide +kernel) ?_
            rintro _ m1 ⟨rfl, e1⟩
            rw [e1]
            clear e1 m1
            show pw_V x m_X4_mostFrom (3 + (f + 1)) Z 61 [(0, .ref 20), (1, .int (nI k)), (2, .int (nI us)), (3, .int (nI kw)), (4, .int (nI s6))] [.int (nI (pw_frI n th (gd k) (en k) pl us k))] mm
            refine pw_blk (pc' := 63) [.istore 5] (by decide +kernel) ?_
            show pw_V x m_X4_mostFrom (3 + (f + 1)) Z 63 [(5, .int (nI (pw_frI n th (gd k) (en k) pl us k))), (0, .ref 20), (1, .int (nI k)), (2, .int (nI us)), (3, .int (nI kw)), (4, .int (nI s6))] [] mm
            have bf : (pw_frI n th (gd k) (en k) pl us k) < 2 ^ n := pw_frI_lt (hs.2.2 k (by omega)).1.2
            have bf8 := pw_p8 bn bf
            refine pw_blk (pc' := 70) [.iload 4, .istore 6, .iconst 0, .istore 7] (by decide +kernel) ?_
            show pw_V x m_X4_mostFrom (3 + (f + 1)) Z 70 [(7, .int (nI 0)), (6, .int (nI s6)), (5, .int (nI (pw_frI n th (gd k) (en k) pl us k))), (0, .ref 20), (1, .int (nI k)), (2, .int (nI us)), (3, .int (nI kw)), (4, .int (nI s6))] [] mm
            refine pw_lvp [3, 4, 5, 6, 7, 2, 1, 0] rfl ?_
            suffices loop : ∀ s : Nat, s ≤ n → ∀ m : pw_m, (∀ c, c ≠ 23 → m c = mm c) → (∀ j, j < k → m 23 j = mm 23 j) → (∀ a, pw_fo (fun s x => if (pw_frI n th (gd k) (en k) pl us k).testBit s = true then pw_mo n kn th gd en kb mc f (pw_ns pl k s) (us ||| 2 ^ s) (kw ||| (if kb.testBit k = true then 2 ^ s else 0)) x else x) s (some s6) = some a → a ≤ 8) → pw_V x m_X4_mostFrom (3 + (f + 1)) Z 70 [(0, .ref 20), (1, .int (nI k)), (2, .int (nI us)), (3, .int (nI kw)), (4, .int (nI s6)), (5, .int (nI (pw_frI n th (gd k) (en k) pl us k))), (6, .int (pw_o ((pw_fo (fun s x => if (pw_frI n th (gd k) (en k) pl us k).testBit s = true then pw_mo n kn th gd en kb mc f (pw_ns pl k s) (us ||| 2 ^ s) (kw ||| (if kb.testBit k = true then 2 ^ s else 0)) x else x) s (some s6))))), (7, .int (nI s))] [] m from loop 0 (by omega) mm (fun _ _ => rfl) (fun _ _ => rfl) (fun a ha => by cases ha; omega)
            refine pw_dn n (fun s hsn ih2 m hm hpm hfo => ?_)
            have hsm := hs.c hm
            refine pw_blk (pc' := 76) [.iload 7, .aload 0, .getfield 400] (by decide +kernel) ?_
            show pw_V x m_X4_mostFrom (3 + (f + 1)) Z 76 [(0, .ref 20), (1, .int (nI k)), (2, .int (nI us)), (3, .int (nI kw)), (4, .int (nI s6)), (5, .int (nI (pw_frI n th (gd k) (en k) pl us k))), (6, .int (pw_o ((pw_fo (fun s x => if (pw_frI n th (gd k) (en k) pl us k).testBit s = true then pw_mo n kn th gd en kb mc f (pw_ns pl k s) (us ||| 2 ^ s) (kw ||| (if kb.testBit k = true then 2 ^ s else 0)) x else x) s (some s6))))), (7, .int (nI s))] [.int (m 20 0), .int (nI s)] m
            rw [show m 20 0 = nI n from hsm.2.1.1]
            refine pw_in_ge (tgt := 145) (off := 69) (by omega) (by omega) (by decide +kernel) (by decide) (fun h76 => ?_) (fun h76 => ?_)
            · refine pw_blk (pc' := 147) [.iload 6] (by decide +kernel) ?_
              show pw_V x m_X4_mostFrom (3 + (f + 1)) Z 147 [(0, .ref 20), (1, .int (nI k)), (2, .int (nI us)), (3, .int (nI kw)), (4, .int (nI s6)), (5, .int (nI (pw_frI n th (gd k) (en k) pl us k))), (6, .int (pw_o ((pw_fo (fun s x => if (pw_frI n th (gd k) (en k) pl us k).testBit s = true then pw_mo n kn th gd en kb mc f (pw_ns pl k s) (us ||| 2 ^ s) (kw ||| (if kb.testBit k = true then 2 ^ s else 0)) x else x) s (some s6))))), (7, .int (nI s))] [.int (pw_o ((pw_fo (fun s x => if (pw_frI n th (gd k) (en k) pl us k).testBit s = true then pw_mo n kn th gd en kb mc f (pw_ns pl k s) (us ||| 2 ^ s) (kw ||| (if kb.testBit k = true then 2 ^ s else 0)) x else x) s (some s6))))] m
              rw [← hZ]
              refine pw_ri (by decide +kernel) ?_
              have e : s = n := by omega
              subst e
              subst h6o
              exact ⟨by rw [pw_moS hkf (show pw_ge (some s6) mc = false from by simp [pw_ge, h6]) h40], hm, hpm⟩
            · refine pw_blk (pc' := 83) [.iload 5, .iload 7] (by decide +kernel) ?_
              show pw_V x m_X4_mostFrom (3 + (f + 1)) Z 83 [(0, .ref 20), (1, .int (nI k)), (2, .int (nI us)), (3, .int (nI kw)), (4, .int (nI s6)), (5, .int (nI (pw_frI n th (gd k) (en k) pl us k))), (6, .int (pw_o ((pw_fo (fun s x => if (pw_frI n th (gd k) (en k) pl us k).testBit s = true then pw_mo n kn th gd en kb mc f (pw_ns pl k s) (us ||| 2 ^ s) (kw ||| (if kb.testBit k = true then 2 ^ s else 0)) x else x) s (some s6))))), (7, .int (nI s))] [.int (nI s), .int (nI (pw_frI n th (gd k) (en k) pl us k))] m
              refine pw_cN (idx := 63) (vs := [.int (nI (pw_frI n th (gd k) (en k) pl us k)), .int (nI s)]) (rest := []) (host := RX7) k_X7_has (c_has (nI (pw_frI n th (gd k) (en k) pl us k)) (nI s) m) (by decide +kernel) rfl (by omega) (Nat.le_of_ble_eq_true rfl) (by decide +kernel) ?_
              rintro _ m1 ⟨rfl, e1⟩
              rw [e1]
              clear e1 m1
              show pw_V x m_X4_mostFrom (3 + (f + 1)) Z 86 [(0, .ref 20), (1, .int (nI k)), (2, .int (nI us)), (3, .int (nI kw)), (4, .int (nI s6)), (5, .int (nI (pw_frI n th (gd k) (en k) pl us k))), (6, .int (pw_o ((pw_fo (fun s x => if (pw_frI n th (gd k) (en k) pl us k).testBit s = true then pw_mo n kn th gd en kb mc f (pw_ns pl k s) (us ||| 2 ^ s) (kw ||| (if kb.testBit k = true then 2 ^ s else 0)) x else x) s (some s6))))), (7, .int (nI s))] [.int (pw_b (pw_hs (nI (pw_frI n th (gd k) (en k) pl us k)) (nI s)))] m
              rw [pw_hs_n (by omega) (by omega)]
              refine pw_ib_eq (tgt := 139) (off := 53) (by decide +kernel) (by decide) (fun h86 => ?_) (fun h86 => ?_)
              · refine pw_blk (pc' := 142) [.iinc 7 1] (by decide +kernel) ?_
                show pw_V x m_X4_mostFrom (3 + (f + 1)) Z 142 [(7, .int ((nI s) + (nI 1))), (0, .ref 20), (1, .int (nI k)), (2, .int (nI us)), (3, .int (nI kw)), (4, .int (nI s6)), (5, .int (nI (pw_frI n th (gd k) (en k) pl us k))), (6, .int (pw_o ((pw_fo (fun s x => if (pw_frI n th (gd k) (en k) pl us k).testBit s = true then pw_mo n kn th gd en kb mc f (pw_ns pl k s) (us ||| 2 ^ s) (kw ||| (if kb.testBit k = true then 2 ^ s else 0)) x else x) s (some s6)))))] [] m
                rw [show (nI s) + (nI 1) = nI (s + 1) from nI_add _ _]
                refine pw_goto (tgt := 70) (off := -72) (by decide +kernel) (by decide) ?_
                have e9 : pw_fo (fun s x => if (pw_frI n th (gd k) (en k) pl us k).testBit s = true then pw_mo n kn th gd en kb mc f (pw_ns pl k s) (us ||| 2 ^ s) (kw ||| (if kb.testBit k = true then 2 ^ s else 0)) x else x) s (some s6) = (pw_fo (fun s x => if (pw_frI n th (gd k) (en k) pl us k).testBit s = true then pw_mo n kn th gd en kb mc f (pw_ns pl k s) (us ||| 2 ^ s) (kw ||| (if kb.testBit k = true then 2 ^ s else 0)) x else x) (s + 1) (some s6)) := by simp [pw_fo, h86]
                rw [e9]
                refine pw_lvp [1, 2, 3, 4, 5, 6, 7, 0] rfl ?_
                exact ih2 (by omega) m hm hpm (by rw [← e9]; exact hfo)
              · refine pw_blk (pc' := 102) [.aload 0, .getfield 405, .iload 1, .iload 7, .iastore, .aload 0, .getfield 407, .iload 1] (by decide +kernel) ?_
                refine ⟨k, rfl, by omega, ?_⟩
                show pw_V x m_X4_mostFrom (3 + (f + 1)) Z 102 [(0, .ref 20), (1, .int (nI k)), (2, .int (nI us)), (3, .int (nI kw)), (4, .int (nI s6)), (5, .int (nI (pw_frI n th (gd k) (en k) pl us k))), (6, .int (pw_o ((pw_fo (fun s x => if (pw_frI n th (gd k) (en k) pl us k).testBit s = true then pw_mo n kn th gd en kb mc f (pw_ns pl k s) (us ||| 2 ^ s) (kw ||| (if kb.testBit k = true then 2 ^ s else 0)) x else x) s (some s6))))), (7, .int (nI s))] [.int (nI k), .int (m 20 7)] (pw_up m 23 k (nI s))
                rw [show m 20 7 = nI kb from (by rw [hm 20 (by omega)]; exact hb7)]
                refine pw_cN (idx := 63) (vs := [.int (nI kb), .int (nI k)]) (rest := []) (host := RX7) k_X7_has (c_has (nI kb) (nI k) (pw_up m 23 k (nI s))) (by decide +kernel) rfl (by omega) (Nat.le_of_ble_eq_true rfl) (by decide +kernel) ?_
                rintro _ m1 ⟨rfl, e1⟩
                rw [e1]
                clear e1 m1
                show pw_V x m_X4_mostFrom (3 + (f + 1)) Z 105 [(0, .ref 20), (1, .int (nI k)), (2, .int (nI us)), (3, .int (nI kw)), (4, .int (nI s6)), (5, .int (nI (pw_frI n th (gd k) (en k) pl us k))), (6, .int (pw_o ((pw_fo (fun s x => if (pw_frI n th (gd k) (en k) pl us k).testBit s = true then pw_mo n kn th gd en kb mc f (pw_ns pl k s) (us ||| 2 ^ s) (kw ||| (if kb.testBit k = true then 2 ^ s else 0)) x else x) s (some s6))))), (7, .int (nI s))] [.int (pw_b (pw_hs (nI kb) (nI k)))] (pw_up m 23 k (nI s))
                rw [pw_hs_n (by omega) (by omega)]
                refine pw_ib_eq (tgt := 115) (off := 10) (by decide +kernel) (by decide) (fun h105 => ?_) (fun h105 => ?_)
                · refine pw_blk (pc' := 134) [.iconst 0, .istore 8, .aload 0, .iload 1, .iconst 1, .iadd, .iload 2, .iconst 1, .iload 7, .ishl, .ior, .iload 3, .iload 8, .ior, .iload 6] (by decide +kernel) ?_
                  show pw_V x m_X4_mostFrom (3 + (f + 1)) Z 134 [(8, .int (nI 0)), (0, .ref 20), (1, .int (nI k)), (2, .int (nI us)), (3, .int (nI kw)), (4, .int (nI s6)), (5, .int (nI (pw_frI n th (gd k) (en k) pl us k))), (6, .int (pw_o ((pw_fo (fun s x => if (pw_frI n th (gd k) (en k) pl us k).testBit s = true then pw_mo n kn th gd en kb mc f (pw_ns pl k s) (us ||| 2 ^ s) (kw ||| (if kb.testBit k = true then 2 ^ s else 0)) x else x) s (some s6))))), (7, .int (nI s))] [.int (pw_o ((pw_fo (fun s x => if (pw_frI n th (gd k) (en k) pl us k).testBit s = true then pw_mo n kn th gd en kb mc f (pw_ns pl k s) (us ||| 2 ^ s) (kw ||| (if kb.testBit k = true then 2 ^ s else 0)) x else x) s (some s6)))), .int ((nI kw) ||| (nI 0)), .int ((nI us) ||| ((nI 1) <<< ((nI s) &&& 31))), .int ((nI k) + (nI 1)), .ref 20] (pw_up m 23 k (nI s))
                  rw [show (nI kw) ||| (nI 0) = nI (kw ||| 0) from fa_or _ _]
                  rw [show (nI 1) <<< ((nI s) &&& 31) = nI (2 ^ s) from pw_shl1 (by omega)]
                  rw [show (nI us) ||| (nI (2 ^ s)) = nI (us ||| (2 ^ s)) from fa_or _ _]
                  rw [show (nI k) + (nI 1) = nI (k + 1) from nI_add _ _]
                  refine pw_cV (vs := [.int (nI (k + 1)), .int (nI (us ||| (2 ^ s))), .int (nI (kw ||| 0)), .int (pw_o ((pw_fo (fun s x => if (pw_frI n th (gd k) (en k) pl us k).testBit s = true then pw_mo n kn th gd en kb mc f (pw_ns pl k s) (us ||| 2 ^ s) (kw ||| (if kb.testBit k = true then 2 ^ s else 0)) x else x) s (some s6))))]) (rest := []) k_X4_mostFrom (ih (k + 1) (by omega) (pw_ns pl k s) (us ||| 2 ^ s) (kw ||| 0) (pw_fo (fun s x => if (pw_frI n th (gd k) (en k) pl us k).testBit s = true then pw_mo n kn th gd en kb mc f (pw_ns pl k s) (us ||| 2 ^ s) (kw ||| (if kb.testBit k = true then 2 ^ s else 0)) x else x) s (some s6)) (pw_up m 23 k (nI s)) (hsm.c (fun c hc => pw_up_ne hc)) ((hp.c hpm).put (by omega)) (by rw [pw_up_ne (by omega), hm 20 (by omega)]; exact hb7) (by rw [pw_up_ne (by omega), hm 20 (by omega)]; exact hb8) ⟨pw_orn hb.1 (by omega), by rw [Nat.or_zero]; exact hb.2.1, hfo⟩) l_4_57 rfl rfl rfl rfl (by omega) (Nat.le_of_ble_eq_true rfl) (by decide +kernel) ?_
                  rintro _ m1 ⟨rfl, e1, e2⟩
                  show pw_V x m_X4_mostFrom (3 + (f + 1)) Z 137 [(8, .int (nI 0)), (0, .ref 20), (1, .int (nI k)), (2, .int (nI us)), (3, .int (nI kw)), (4, .int (nI s6)), (5, .int (nI (pw_frI n th (gd k) (en k) pl us k))), (6, .int (pw_o ((pw_fo (fun s x => if (pw_frI n th (gd k) (en k) pl us k).testBit s = true then pw_mo n kn th gd en kb mc f (pw_ns pl k s) (us ||| 2 ^ s) (kw ||| (if kb.testBit k = true then 2 ^ s else 0)) x else x) s (some s6))))), (7, .int (nI s))] [.int (pw_o ((pw_mo n kn th gd en kb mc f (pw_ns pl k s) (us ||| (2 ^ s)) (kw ||| 0) (pw_fo (fun s x => if (pw_frI n th (gd k) (en k) pl us k).testBit s = true then pw_mo n kn th gd en kb mc f (pw_ns pl k s) (us ||| 2 ^ s) (kw ||| (if kb.testBit k = true then 2 ^ s else 0)) x else x) s (some s6)))))] m1
                  refine pw_blk (pc' := 142) [.istore 6, .iinc 7 1] (by decide +kernel) ?_
                  show pw_V x m_X4_mostFrom (3 + (f + 1)) Z 142 [(7, .int ((nI s) + (nI 1))), (6, .int (pw_o ((pw_mo n kn th gd en kb mc f (pw_ns pl k s) (us ||| (2 ^ s)) (kw ||| 0) (pw_fo (fun s x => if (pw_frI n th (gd k) (en k) pl us k).testBit s = true then pw_mo n kn th gd en kb mc f (pw_ns pl k s) (us ||| 2 ^ s) (kw ||| (if kb.testBit k = true then 2 ^ s else 0)) x else x) s (some s6)))))), (8, .int (nI 0)), (0, .ref 20), (1, .int (nI k)), (2, .int (nI us)), (3, .int (nI kw)), (4, .int (nI s6)), (5, .int (nI (pw_frI n th (gd k) (en k) pl us k)))] [] m1
                  rw [show (nI s) + (nI 1) = nI (s + 1) from nI_add _ _]
                  refine pw_goto (tgt := 70) (off := -72) (by decide +kernel) (by decide) ?_
                  have e9 : (pw_mo n kn th gd en kb mc f (pw_ns pl k s) (us ||| (2 ^ s)) (kw ||| 0) (pw_fo (fun s x => if (pw_frI n th (gd k) (en k) pl us k).testBit s = true then pw_mo n kn th gd en kb mc f (pw_ns pl k s) (us ||| 2 ^ s) (kw ||| (if kb.testBit k = true then 2 ^ s else 0)) x else x) s (some s6))) = (pw_fo (fun s x => if (pw_frI n th (gd k) (en k) pl us k).testBit s = true then pw_mo n kn th gd en kb mc f (pw_ns pl k s) (us ||| 2 ^ s) (kw ||| (if kb.testBit k = true then 2 ^ s else 0)) x else x) (s + 1) (some s6)) := by simp [pw_fo, h86, h105]
                  rw [e9]
                  refine pw_lvp [3, 4, 5, 6, 7, 8, 1, 0] rfl ?_
                  exact ih2 (by omega) m1 (fun c hc => by rw [e1 c hc, pw_up_ne hc]; exact hm c hc) (fun j hj => by rw [e2 j (by omega), pw_up_eq]; unfold upd; rw [if_neg (by omega)]; exact hpm j hj) (by rw [← e9]; exact pw_mob _ _ _ _ _ hfo)
                · refine pw_blk (pc' := 112) [.iconst 1, .iload 7, .ishl] (by decide +kernel) ?_
                  show pw_V x m_X4_mostFrom (3 + (f + 1)) Z 112 [(0, .ref 20), (1, .int (nI k)), (2, .int (nI us)), (3, .int (nI kw)), (4, .int (nI s6)), (5, .int (nI (pw_frI n th (gd k) (en k) pl us k))), (6, .int (pw_o ((pw_fo (fun s x => if (pw_frI n th (gd k) (en k) pl us k).testBit s = true then pw_mo n kn th gd en kb mc f (pw_ns pl k s) (us ||| 2 ^ s) (kw ||| (if kb.testBit k = true then 2 ^ s else 0)) x else x) s (some s6))))), (7, .int (nI s))] [.int ((nI 1) <<< ((nI s) &&& 31))] (pw_up m 23 k (nI s))
                  rw [show (nI 1) <<< ((nI s) &&& 31) = nI (2 ^ s) from pw_shl1 (by omega)]
                  refine pw_goto (tgt := 116) (off := 4) (by decide +kernel) (by decide) ?_
                  refine pw_blk (pc' := 134) [.istore 8, .aload 0, .iload 1, .iconst 1, .iadd, .iload 2, .iconst 1, .iload 7, .ishl, .ior, .iload 3, .iload 8, .ior, .iload 6] (by decide +kernel) ?_
                  show pw_V x m_X4_mostFrom (3 + (f + 1)) Z 134 [(8, .int (nI (2 ^ s))), (0, .ref 20), (1, .int (nI k)), (2, .int (nI us)), (3, .int (nI kw)), (4, .int (nI s6)), (5, .int (nI (pw_frI n th (gd k) (en k) pl us k))), (6, .int (pw_o ((pw_fo (fun s x => if (pw_frI n th (gd k) (en k) pl us k).testBit s = true then pw_mo n kn th gd en kb mc f (pw_ns pl k s) (us ||| 2 ^ s) (kw ||| (if kb.testBit k = true then 2 ^ s else 0)) x else x) s (some s6))))), (7, .int (nI s))] [.int (pw_o ((pw_fo (fun s x => if (pw_frI n th (gd k) (en k) pl us k).testBit s = true then pw_mo n kn th gd en kb mc f (pw_ns pl k s) (us ||| 2 ^ s) (kw ||| (if kb.testBit k = true then 2 ^ s else 0)) x else x) s (some s6)))), .int ((nI kw) ||| (nI (2 ^ s))), .int ((nI us) ||| ((nI 1) <<< ((nI s) &&& 31))), .int ((nI k) + (nI 1)), .ref 20] (pw_up m 23 k (nI s))
                  rw [show (nI kw) ||| (nI (2 ^ s)) = nI (kw ||| (2 ^ s)) from fa_or _ _]
                  rw [show (nI 1) <<< ((nI s) &&& 31) = nI (2 ^ s) from pw_shl1 (by omega)]
                  rw [show (nI us) ||| (nI (2 ^ s)) = nI (us ||| (2 ^ s)) from fa_or _ _]
                  rw [show (nI k) + (nI 1) = nI (k + 1) from nI_add _ _]
                  refine pw_cV (vs := [.int (nI (k + 1)), .int (nI (us ||| (2 ^ s))), .int (nI (kw ||| (2 ^ s))), .int (pw_o ((pw_fo (fun s x => if (pw_frI n th (gd k) (en k) pl us k).testBit s = true then pw_mo n kn th gd en kb mc f (pw_ns pl k s) (us ||| 2 ^ s) (kw ||| (if kb.testBit k = true then 2 ^ s else 0)) x else x) s (some s6))))]) (rest := []) k_X4_mostFrom (ih (k + 1) (by omega) (pw_ns pl k s) (us ||| 2 ^ s) (kw ||| (2 ^ s)) (pw_fo (fun s x => if (pw_frI n th (gd k) (en k) pl us k).testBit s = true then pw_mo n kn th gd en kb mc f (pw_ns pl k s) (us ||| 2 ^ s) (kw ||| (if kb.testBit k = true then 2 ^ s else 0)) x else x) s (some s6)) (pw_up m 23 k (nI s)) (hsm.c (fun c hc => pw_up_ne hc)) ((hp.c hpm).put (by omega)) (by rw [pw_up_ne (by omega), hm 20 (by omega)]; exact hb7) (by rw [pw_up_ne (by omega), hm 20 (by omega)]; exact hb8) ⟨pw_orn hb.1 (by omega), pw_orn hb.2.1 (by omega), hfo⟩) l_4_57 rfl rfl rfl rfl (by omega) (Nat.le_of_ble_eq_true rfl) (by decide +kernel) ?_
                  rintro _ m1 ⟨rfl, e1, e2⟩
                  show pw_V x m_X4_mostFrom (3 + (f + 1)) Z 137 [(8, .int (nI (2 ^ s))), (0, .ref 20), (1, .int (nI k)), (2, .int (nI us)), (3, .int (nI kw)), (4, .int (nI s6)), (5, .int (nI (pw_frI n th (gd k) (en k) pl us k))), (6, .int (pw_o ((pw_fo (fun s x => if (pw_frI n th (gd k) (en k) pl us k).testBit s = true then pw_mo n kn th gd en kb mc f (pw_ns pl k s) (us ||| 2 ^ s) (kw ||| (if kb.testBit k = true then 2 ^ s else 0)) x else x) s (some s6))))), (7, .int (nI s))] [.int (pw_o ((pw_mo n kn th gd en kb mc f (pw_ns pl k s) (us ||| (2 ^ s)) (kw ||| (2 ^ s)) (pw_fo (fun s x => if (pw_frI n th (gd k) (en k) pl us k).testBit s = true then pw_mo n kn th gd en kb mc f (pw_ns pl k s) (us ||| 2 ^ s) (kw ||| (if kb.testBit k = true then 2 ^ s else 0)) x else x) s (some s6)))))] m1
                  refine pw_blk (pc' := 142) [.istore 6, .iinc 7 1] (by decide +kernel) ?_
                  show pw_V x m_X4_mostFrom (3 + (f + 1)) Z 142 [(7, .int ((nI s) + (nI 1))), (6, .int (pw_o ((pw_mo n kn th gd en kb mc f (pw_ns pl k s) (us ||| (2 ^ s)) (kw ||| (2 ^ s)) (pw_fo (fun s x => if (pw_frI n th (gd k) (en k) pl us k).testBit s = true then pw_mo n kn th gd en kb mc f (pw_ns pl k s) (us ||| 2 ^ s) (kw ||| (if kb.testBit k = true then 2 ^ s else 0)) x else x) s (some s6)))))), (8, .int (nI (2 ^ s))), (0, .ref 20), (1, .int (nI k)), (2, .int (nI us)), (3, .int (nI kw)), (4, .int (nI s6)), (5, .int (nI (pw_frI n th (gd k) (en k) pl us k)))] [] m1
                  rw [show (nI s) + (nI 1) = nI (s + 1) from nI_add _ _]
                  refine pw_goto (tgt := 70) (off := -72) (by decide +kernel) (by decide) ?_
                  have e9 : (pw_mo n kn th gd en kb mc f (pw_ns pl k s) (us ||| (2 ^ s)) (kw ||| (2 ^ s)) (pw_fo (fun s x => if (pw_frI n th (gd k) (en k) pl us k).testBit s = true then pw_mo n kn th gd en kb mc f (pw_ns pl k s) (us ||| 2 ^ s) (kw ||| (if kb.testBit k = true then 2 ^ s else 0)) x else x) s (some s6))) = (pw_fo (fun s x => if (pw_frI n th (gd k) (en k) pl us k).testBit s = true then pw_mo n kn th gd en kb mc f (pw_ns pl k s) (us ||| 2 ^ s) (kw ||| (if kb.testBit k = true then 2 ^ s else 0)) x else x) (s + 1) (some s6)) := by simp [pw_fo, h86, h105]
                  rw [e9]
                  refine pw_lvp [3, 4, 5, 6, 7, 8, 1, 0] rfl ?_
                  exact ih2 (by omega) m1 (fun c hc => by rw [e1 c hc, pw_up_ne hc]; exact hm c hc) (fun j hj => by rw [e2 j (by omega), pw_up_eq]; unfold upd; rw [if_neg (by omega)]; exact hpm j hj) (by rw [← e9]; exact pw_mob _ _ _ _ _ hfo)
          · refine pw_blk (pc' := 51) [.aload 0, .iload 1, .iconst 1, .iadd, .iload 2, .iload 3, .iload 4] (by decide +kernel) ?_
            show pw_V x m_X4_mostFrom (3 + (f + 1)) Z 51 [(0, .ref 20), (1, .int (nI k)), (2, .int (nI us)), (3, .int (nI kw)), (4, .int (nI s6))] [.int (nI s6), .int (nI kw), .int (nI us), .int ((nI k) + (nI 1)), .ref 20] mm
            rw [show (nI k) + (nI 1) = nI (k + 1) from nI_add _ _]
            refine pw_cV (vs := [.int (nI (k + 1)), .int (nI us), .int (nI kw), .int (nI s6)]) (rest := []) k_X4_mostFrom (ih (k + 1) (by omega) pl us kw (some s6) mm hs (hp.skip h40) hb7 hb8 ⟨hb.1, hb.2.1, fun a ha => by cases ha; omega⟩) l_4_57 rfl rfl rfl rfl (by omega) (Nat.le_of_ble_eq_true rfl) (by decide +kernel) ?_
            rintro _ m1 ⟨rfl, e1, e2⟩
            show pw_V x m_X4_mostFrom (3 + (f + 1)) Z 54 [(0, .ref 20), (1, .int (nI k)), (2, .int (nI us)), (3, .int (nI kw)), (4, .int (nI s6))] [.int (pw_o ((pw_mo n kn th gd en kb mc f pl us kw (some s6))))] m1
            rw [← hZ]
            refine pw_ri (by decide +kernel) ?_
            subst h6o
            exact ⟨by rw [pw_moN hkf (show pw_ge (some s6) mc = false from by simp [pw_ge, h6]) h40], e1, fun j hj => e2 j (by omega)⟩
        · omega
      · refine pw_blk (pc' := 11) [.iload 4] (by decide +kernel) ?_
        show pw_V x m_X4_mostFrom (3 + (f + 1)) Z 11 [(0, .ref 20), (1, .int (nI k)), (2, .int (nI us)), (3, .int (nI kw)), (4, .int (nI s6))] [.int (nI s6)] mm
        rw [← hZ]
        refine pw_ri (by decide +kernel) ?_
        subst h6o
        exact ⟨by rw [pw_moL (by simp [pw_ge, h6])]; rfl, fun _ _ => rfl, fun _ _ => rfl⟩
