/-- the first success below n; a fold below n -/
def pw_fs {α : Type} (g : Nat → Option α) : Nat → Option α
  | 0 => none
  | s + 1 => match pw_fs g s with
    | some a => some a
    | none => g s
def pw_fo {β : Type} (g : Nat → β → β) : Nat → β → β
  | 0, x => x
  | s + 1, x => g s (pw_fo g s x)
theorem pw_fs_up {α : Type} {g : Nat → Option α} {s n : Nat} {a : α} (h : pw_fs g s = some a) (hn : s ≤ n) : pw_fs g n = some a := by
  induction n with
  | zero => have : s = 0 := by omega
            subst this; exact h
  | succ n ih =>
    rcases Nat.lt_or_ge n s with q | q
    · have : s = n + 1 := by omega
      subst this; exact h
    · simp [pw_fs, ih q]
def pw_fT (n kn th : Nat) (gd en : Nat → Nat) : Nat → (Nat → Nat) → Nat → Option (Nat → Nat)
  | 0, pl, _ => some pl
  | f + 1, pl, us => if th.testBit (kn - (f + 1)) = true then pw_fs (fun s => if (pw_frI n th (gd (kn - (f + 1))) (en (kn - (f + 1))) pl us (kn - (f + 1))).testBit s = true then pw_fT n kn th gd en f (pw_ns pl (kn - (f + 1)) s) (us ||| 2 ^ s) else none) n else pw_fT n kn th gd en f pl us
theorem pw_fTS {n kn th f k : Nat} {gd en pl : Nat → Nat} {us : Nat} (hk : k + (f + 1) = kn) (ht : th.testBit k = true) : pw_fT n kn th gd en (f + 1) pl us = pw_fs (fun s => if (pw_frI n th (gd k) (en k) pl us k).testBit s = true then pw_fT n kn th gd en f (pw_ns pl k s) (us ||| 2 ^ s) else none) n := by
  have e : kn - (f + 1) = k := by omega
  simp only [pw_fT, e, if_pos ht]
theorem pw_fTN {n kn th f k : Nat} {gd en pl : Nat → Nat} {us : Nat} (hk : k + (f + 1) = kn) (ht : th.testBit k = false) : pw_fT n kn th gd en (f + 1) pl us = pw_fT n kn th gd en f pl us := by
  have e : kn - (f + 1) = k := by omega
  simp only [pw_fT, e, ht]
  rfl
def pw_fw (n kn th : Nat) (gd en : Nat → Nat) (row : Nat → Int32) : Nat → (Nat → Nat) → Nat → Nat → Nat → Nat
  | 0, _, _, aw, fd => if fd ≤ aw then fd else aw
  | f + 1, pl, us, aw, fd => if fd ≤ aw then fd else if th.testBit (kn - (f + 1)) = true then pw_fo (fun s x => if (pw_frI n th (gd (kn - (f + 1))) (en (kn - (f + 1))) pl us (kn - (f + 1))).testBit s = true then pw_fw n kn th gd en row f (pw_ns pl (kn - (f + 1)) s) (us ||| 2 ^ s) (aw + if row (kn - (f + 1)) = nI s then 0 else 1) x else x) n fd else pw_fw n kn th gd en row f pl us aw fd
theorem pw_fwS {n kn th f k : Nat} {gd en pl : Nat → Nat} {row : Nat → Int32} {us aw fd : Nat} (hk : k + (f + 1) = kn) (ha : aw < fd) (ht : th.testBit k = true) : pw_fw n kn th gd en row (f + 1) pl us aw fd = pw_fo (fun s x => if (pw_frI n th (gd k) (en k) pl us k).testBit s = true then pw_fw n kn th gd en row f (pw_ns pl k s) (us ||| 2 ^ s) (aw + if row k = nI s then 0 else 1) x else x) n fd := by
  have e : kn - (f + 1) = k := by omega
  simp only [pw_fw, e, if_pos ht, if_neg (Nat.not_le.mpr ha)]
theorem pw_fwN {n kn th f k : Nat} {gd en pl : Nat → Nat} {row : Nat → Int32} {us aw fd : Nat} (hk : k + (f + 1) = kn) (ha : aw < fd) (ht : th.testBit k = false) : pw_fw n kn th gd en row (f + 1) pl us aw fd = pw_fw n kn th gd en row f pl us aw fd := by
  have e : kn - (f + 1) = k := by omega
  simp only [pw_fw, e, ht, if_neg (Nat.not_le.mpr ha)]
  rfl
theorem pw_fwL {n kn th f : Nat} {gd en pl : Nat → Nat} {row : Nat → Int32} {us aw fd : Nat} (ha : fd ≤ aw) : pw_fw n kn th gd en row f pl us aw fd = fd := by
  cases f <;> simp [pw_fw, ha]
theorem pw_fwb {n kn th : Nat} {gd en : Nat → Nat} {row : Nat → Int32} : ∀ (f : Nat) (pl : Nat → Nat) (us aw fd : Nat), pw_fw n kn th gd en row f pl us aw fd ≤ fd := by
  intro f
  induction f with
  | zero => intro pl us aw fd; unfold pw_fw; split <;> omega
  | succ f ih =>
    intro pl us aw fd
    unfold pw_fw
    split
    · exact Nat.le_refl _
    · split
      · have key : ∀ s, pw_fo (fun s x => if (pw_frI n th (gd (kn - (f + 1))) (en (kn - (f + 1))) pl us (kn - (f + 1))).testBit s = true then pw_fw n kn th gd en row f (pw_ns pl (kn - (f + 1)) s) (us ||| 2 ^ s) (aw + if row (kn - (f + 1)) = nI s then 0 else 1) x else x) s fd ≤ fd := by
          intro s
          induction s with
          | zero => exact Nat.le_refl _
          | succ s is =>
            simp only [pw_fo]
            split
            · exact Nat.le_trans (ih _ _ _ _) is
            · exact is
        exact key n
      · exact ih _ _ _ _

set_option maxHeartbeats 8000000 in
set_option maxRecDepth 100000 in
theorem c_firstFrom {n kn th : Nat} {gd en : Nat → Nat} : ∀ (f k : Nat), k + f = kn → ∀ (pl : Nat → Nat) (us : Nat) (mm : pw_m), pw_SC mm n kn th gd en → pw_PL mm n th pl k → pw_Ct (3 + f) yX4_firstFrom m_X4_firstFrom [.ref 20, .int (nI k), .int (nI us)] mm (fun r m' => r = some (.int (pw_b (pw_fT n kn th gd en f pl us).isSome)) ∧ (∀ c, c ≠ 23 → m' c = mm c) ∧ (∀ j, j < k → m' 23 j = mm 23 j) ∧ ∀ a, (pw_fT n kn th gd en f pl us) = some a → ∀ j, j < kn → th.testBit j = true → m' 23 j = nI (a j) ∧ a j < n) := by
  intro f
  induction f with
  | zero =>
    intro k hkf pl us mm hs hp
    obtain ⟨bn, bk, bt⟩ := hs.1
    refine pw_ct (by decide +kernel) rfl (Nat.le_of_ble_eq_true rfl) (fun x => ?_)
    generalize hZ : pw_Z x _ = Z
    show pw_V x m_X4_firstFrom (3 + 0) Z 0 [(0, .ref 20), (1, .int (nI k)), (2, .int (nI us))] [] mm
    refine pw_blk (pc' := 5) [.iload 1, .aload 0, .getfield 401] (by decide +kernel) ?_
    show pw_V x m_X4_firstFrom (3 + 0) Z 5 [(0, .ref 20), (1, .int (nI k)), (2, .int (nI us))] [.int (mm 20 1), .int (nI k)] mm
    rw [show mm 20 1 = nI kn from hs.2.1.2.1]
    refine pw_in_lt (tgt := 10) (off := 5) (by omega) (by omega) (by decide +kernel) (by decide) (fun h5 => ?_) (fun h5 => ?_)
    · omega
    · refine pw_blk (pc' := 9) [.iconst 1] (by decide +kernel) ?_
      show pw_V x m_X4_firstFrom (3 + 0) Z 9 [(0, .ref 20), (1, .int (nI k)), (2, .int (nI us))] [.int (nI 1)] mm
      rw [← hZ]
      refine pw_rz (by decide +kernel) (Or.inr rfl) ?_
      refine ⟨rfl, fun _ _ => rfl, fun _ _ => rfl, fun a ha j hj ht => ?_⟩
      cases ha
      exact hp j (by omega) ht
  | succ f ih =>
    intro k hkf pl us mm hs hp
    obtain ⟨bn, bk, bt⟩ := hs.1
    refine pw_ct (by decide +kernel) rfl (Nat.le_of_ble_eq_true rfl) (fun x => ?_)
    generalize hZ : pw_Z x _ = Z
    show pw_V x m_X4_firstFrom (3 + (f + 1)) Z 0 [(0, .ref 20), (1, .int (nI k)), (2, .int (nI us))] [] mm
    refine pw_blk (pc' := 5) [.iload 1, .aload 0, .getfield 401] (by decide +kernel) ?_
    show pw_V x m_X4_firstFrom (3 + (f + 1)) Z 5 [(0, .ref 20), (1, .int (nI k)), (2, .int (nI us))] [.int (mm 20 1), .int (nI k)] mm
    rw [show mm 20 1 = nI kn from hs.2.1.2.1]
    refine pw_in_lt (tgt := 10) (off := 5) (by omega) (by omega) (by decide +kernel) (by decide) (fun h5 => ?_) (fun h5 => ?_)
    · refine pw_blk (pc' := 15) [.aload 0, .getfield 402, .iload 1] (by decide +kernel) ?_
      show pw_V x m_X4_firstFrom (3 + (f + 1)) Z 15 [(0, .ref 20), (1, .int (nI k)), (2, .int (nI us))] [.int (nI k), .int (mm 20 2)] mm
      rw [show mm 20 2 = nI th from hs.2.1.2.2]
      refine pw_cN (idx := 63) (vs := [.int (nI th), .int (nI k)]) (rest := []) (host := RX7) k_X7_has (c_has (nI th) (nI k) mm) (by decide +kernel) rfl (by omega) (Nat.le_of_ble_eq_true rfl) (by decide +kernel) ?_
      rintro _ m1 ⟨rfl, e1⟩
      rw [e1]
      clear e1 m1
      show pw_V x m_X4_firstFrom (3 + (f + 1)) Z 18 [(0, .ref 20), (1, .int (nI k)), (2, .int (nI us))] [.int (pw_b (pw_hs (nI th) (nI k)))] mm
      rw [pw_hs_n (by omega) (by omega)]
      refine pw_ib_ne (tgt := 30) (off := 12) (by decide +kernel) (by decide) (fun h18 => ?_) (fun h18 => ?_)
      · refine pw_blk (pc' := 33) [.aload 0, .iload 1, .iload 2] (by decide +kernel) ?_
        show pw_V x m_X4_firstFrom (3 + (f + 1)) Z 33 [(0, .ref 20), (1, .int (nI k)), (2, .int (nI us))] [.int (nI us), .int (nI k), .ref 20] mm
        refine pw_cV (vs := [.int (nI k), .int (nI us)]) (rest := []) k_X4_freeSeats (c_freeSeats k us pl mm hs (by omega) hp) l_4_66 rfl rfl rfl rfl (by omega) (Nat.le_of_ble_eq_true rfl) (by decide +kernel) ?_
        rintro _ m1 ⟨rfl, e1⟩
        rw [e1]
        clear e1 m1
        show pw_V x m_X4_firstFrom (3 + (f + 1)) Z 36 [(0, .ref 20), (1, .int (nI k)), (2, .int (nI us))] [.int (nI (pw_frI n th (gd k) (en k) pl us k))] mm
        refine pw_blk (pc' := 37) [.istore 3] (by decide +kernel) ?_
        show pw_V x m_X4_firstFrom (3 + (f + 1)) Z 37 [(3, .int (nI (pw_frI n th (gd k) (en k) pl us k))), (0, .ref 20), (1, .int (nI k)), (2, .int (nI us))] [] mm
        have bf : (pw_frI n th (gd k) (en k) pl us k) < 2 ^ n := pw_frI_lt (hs.2.2 k (by omega)).1.2
        have bf8 := pw_p8 bn bf
        refine pw_blk (pc' := 40) [.iconst 0, .istore 4] (by decide +kernel) ?_
        show pw_V x m_X4_firstFrom (3 + (f + 1)) Z 40 [(4, .int (nI 0)), (3, .int (nI (pw_frI n th (gd k) (en k) pl us k))), (0, .ref 20), (1, .int (nI k)), (2, .int (nI us))] [] mm
        refine pw_lvp [2, 3, 4, 1, 0] rfl ?_
        suffices loop : ∀ s : Nat, s ≤ n → ∀ m : pw_m, (∀ c, c ≠ 23 → m c = mm c) → (∀ j, j < k → m 23 j = mm 23 j) → pw_fs (fun s => if (pw_frI n th (gd k) (en k) pl us k).testBit s = true then pw_fT n kn th gd en f (pw_ns pl k s) (us ||| 2 ^ s) else none) s = none → pw_V x m_X4_firstFrom (3 + (f + 1)) Z 40 [(0, .ref 20), (1, .int (nI k)), (2, .int (nI us)), (3, .int (nI (pw_frI n th (gd k) (en k) pl us k))), (4, .int (nI s))] [] m from loop 0 (by omega) mm (fun _ _ => rfl) (fun _ _ => rfl) rfl
        refine pw_dn n (fun s hsn ih2 m hm hpm hno => ?_)
        have hsm := hs.c hm
        refine pw_blk (pc' := 46) [.iload 4, .aload 0, .getfield 400] (by decide +kernel) ?_
        show pw_V x m_X4_firstFrom (3 + (f + 1)) Z 46 [(0, .ref 20), (1, .int (nI k)), (2, .int (nI us)), (3, .int (nI (pw_frI n th (gd k) (en k) pl us k))), (4, .int (nI s))] [.int (m 20 0), .int (nI s)] m
        rw [show m 20 0 = nI n from hsm.2.1.1]
        refine pw_in_ge (tgt := 90) (off := 44) (by omega) (by omega) (by decide +kernel) (by decide) (fun h46 => ?_) (fun h46 => ?_)
        · refine pw_blk (pc' := 91) [.iconst 0] (by decide +kernel) ?_
          show pw_V x m_X4_firstFrom (3 + (f + 1)) Z 91 [(0, .ref 20), (1, .int (nI k)), (2, .int (nI us)), (3, .int (nI (pw_frI n th (gd k) (en k) pl us k))), (4, .int (nI s))] [.int (nI 0)] m
          rw [← hZ]
          refine pw_rz (by decide +kernel) (Or.inl rfl) ?_
          have e : s = n := by omega
          subst e
          have e9 := (pw_fTS (gd := gd) (en := en) (pl := pl) (us := us) hkf h18).trans hno
          rw [e9]
          exact ⟨rfl, hm, hpm, fun a ha => by cases ha⟩
        · refine pw_blk (pc' := 52) [.iload 3, .iload 4] (by decide +kernel) ?_
          show pw_V x m_X4_firstFrom (3 + (f + 1)) Z 52 [(0, .ref 20), (1, .int (nI k)), (2, .int (nI us)), (3, .int (nI (pw_frI n th (gd k) (en k) pl us k))), (4, .int (nI s))] [.int (nI s), .int (nI (pw_frI n th (gd k) (en k) pl us k))] m
          refine pw_cN (idx := 63) (vs := [.int (nI (pw_frI n th (gd k) (en k) pl us k)), .int (nI s)]) (rest := []) (host := RX7) k_X7_has (c_has (nI (pw_frI n th (gd k) (en k) pl us k)) (nI s) m) (by decide +kernel) rfl (by omega) (Nat.le_of_ble_eq_true rfl) (by decide +kernel) ?_
          rintro _ m1 ⟨rfl, e1⟩
          rw [e1]
          clear e1 m1
          show pw_V x m_X4_firstFrom (3 + (f + 1)) Z 55 [(0, .ref 20), (1, .int (nI k)), (2, .int (nI us)), (3, .int (nI (pw_frI n th (gd k) (en k) pl us k))), (4, .int (nI s))] [.int (pw_b (pw_hs (nI (pw_frI n th (gd k) (en k) pl us k)) (nI s)))] m
          rw [pw_hs_n (by omega) (by omega)]
          refine pw_ib_eq (tgt := 84) (off := 29) (by decide +kernel) (by decide) (fun h55 => ?_) (fun h55 => ?_)
          · refine pw_blk (pc' := 87) [.iinc 4 1] (by decide +kernel) ?_
            show pw_V x m_X4_firstFrom (3 + (f + 1)) Z 87 [(4, .int ((nI s) + (nI 1))), (0, .ref 20), (1, .int (nI k)), (2, .int (nI us)), (3, .int (nI (pw_frI n th (gd k) (en k) pl us k)))] [] m
            rw [show (nI s) + (nI 1) = nI (s + 1) from nI_add _ _]
            refine pw_goto (tgt := 40) (off := -47) (by decide +kernel) (by decide) ?_
            refine pw_lvp [1, 2, 3, 4, 0] rfl ?_
            exact ih2 (by omega) m hm hpm (by simp [pw_fs, hno, h55])
          · refine pw_blk (pc' := 76) [.aload 0, .getfield 405, .iload 1, .iload 4, .iastore, .aload 0, .iload 1, .iconst 1, .iadd, .iload 2, .iconst 1, .iload 4, .ishl, .ior] (by decide +kernel) ?_
            refine ⟨k, rfl, by omega, ?_⟩
            show pw_V x m_X4_firstFrom (3 + (f + 1)) Z 76 [(0, .ref 20), (1, .int (nI k)), (2, .int (nI us)), (3, .int (nI (pw_frI n th (gd k) (en k) pl us k))), (4, .int (nI s))] [.int ((nI us) ||| ((nI 1) <<< ((nI s) &&& 31))), .int ((nI k) + (nI 1)), .ref 20] (pw_up m 23 k (nI s))
            rw [show (nI 1) <<< ((nI s) &&& 31) = nI (2 ^ s) from pw_shl1 (by omega)]
            rw [show (nI us) ||| (nI (2 ^ s)) = nI (us ||| (2 ^ s)) from fa_or _ _]
            rw [show (nI k) + (nI 1) = nI (k + 1) from nI_add _ _]
            refine pw_cV (vs := [.int (nI (k + 1)), .int (nI (us ||| (2 ^ s)))]) (rest := []) k_X4_firstFrom (ih (k + 1) (by omega) (pw_ns pl k s) (us ||| 2 ^ s) (pw_up m 23 k (nI s)) (hsm.c (fun c hc => pw_up_ne hc)) ((hp.c hpm).put (by omega))) l_4_28 rfl rfl rfl rfl (by omega) (Nat.le_of_ble_eq_true rfl) (by decide +kernel) ?_
            rintro _ m1 ⟨rfl, e1, e2, e3⟩
            show pw_V x m_X4_firstFrom (3 + (f + 1)) Z 79 [(0, .ref 20), (1, .int (nI k)), (2, .int (nI us)), (3, .int (nI (pw_frI n th (gd k) (en k) pl us k))), (4, .int (nI s))] [.int (pw_b ((pw_fT n kn th gd en f (pw_ns pl k s) (us ||| (2 ^ s))).isSome))] m1
            refine pw_ib_eq (tgt := 84) (off := 5) (by decide +kernel) (by decide) (fun h79 => ?_) (fun h79 => ?_)
            · refine pw_blk (pc' := 87) [.iinc 4 1] (by decide +kernel) ?_
              show pw_V x m_X4_firstFrom (3 + (f + 1)) Z 87 [(4, .int ((nI s) + (nI 1))), (0, .ref 20), (1, .int (nI k)), (2, .int (nI us)), (3, .int (nI (pw_frI n th (gd k) (en k) pl us k)))] [] m1
              rw [show (nI s) + (nI 1) = nI (s + 1) from nI_add _ _]
              refine pw_goto (tgt := 40) (off := -47) (by decide +kernel) (by decide) ?_
              refine pw_lvp [1, 2, 3, 4, 0] rfl ?_
              exact ih2 (by omega) m1 (fun c hc => by rw [e1 c hc, pw_up_ne hc]; exact hm c hc) (fun j hj => by rw [e2 j (by omega), pw_up_eq]; unfold upd; rw [if_neg (by omega)]; exact hpm j hj) (by simp only [pw_fs, hno, if_pos h55]; simpa using h79)
            · refine pw_blk (pc' := 83) [.iconst 1] (by decide +kernel) ?_
              show pw_V x m_X4_firstFrom (3 + (f + 1)) Z 83 [(0, .ref 20), (1, .int (nI k)), (2, .int (nI us)), (3, .int (nI (pw_frI n th (gd k) (en k) pl us k))), (4, .int (nI s))] [.int (nI 1)] m1
              rw [← hZ]
              refine pw_rz (by decide +kernel) (Or.inr rfl) ?_
              obtain ⟨a, ha⟩ := Option.isSome_iff_exists.mp h79
              have e9 : pw_fT n kn th gd en (f + 1) pl us = some a := by
                rw [pw_fTS hkf h18]
                exact pw_fs_up (s := s + 1) (by simp only [pw_fs, hno, if_pos h55]; exact ha) (by omega)
              rw [e9]
              exact ⟨rfl, fun c hc => by rw [e1 c hc, pw_up_ne hc]; exact hm c hc, fun j hj => by rw [e2 j (by omega), pw_up_eq]; unfold upd; rw [if_neg (by omega)]; exact hpm j hj, fun a' ha' => by cases ha'; exact e3 a ha⟩
      · refine pw_blk (pc' := 26) [.aload 0, .iload 1, .iconst 1, .iadd, .iload 2] (by decide +kernel) ?_
        show pw_V x m_X4_firstFrom (3 + (f + 1)) Z 26 [(0, .ref 20), (1, .int (nI k)), (2, .int (nI us))] [.int (nI us), .int ((nI k) + (nI 1)), .ref 20] mm
        rw [show (nI k) + (nI 1) = nI (k + 1) from nI_add _ _]
        refine pw_cV (vs := [.int (nI (k + 1)), .int (nI us)]) (rest := []) k_X4_firstFrom (ih (k + 1) (by omega) pl us mm hs (hp.skip h18)) l_4_28 rfl rfl rfl rfl (by omega) (Nat.le_of_ble_eq_true rfl) (by decide +kernel) ?_
        rintro _ m1 ⟨rfl, e1, e2, e3⟩
        show pw_V x m_X4_firstFrom (3 + (f + 1)) Z 29 [(0, .ref 20), (1, .int (nI k)), (2, .int (nI us))] [.int (pw_b ((pw_fT n kn th gd en f pl us).isSome))] m1
        rw [← hZ]
        refine pw_rz (by decide +kernel) (pw_b01 _) ?_
        rw [pw_fTN hkf h18]
        exact ⟨rfl, e1, fun j hj => e2 j (by omega), e3⟩
    · omega

set_option maxHeartbeats 8000000 in
set_option maxRecDepth 100000 in
theorem c_fewestFrom {n kn th : Nat} {gd en : Nat → Nat} : ∀ (f k : Nat), k + f = kn → ∀ (pl : Nat → Nat) (us aw fd : Nat) (mm : pw_m), pw_SC mm n kn th gd en → pw_PL mm n th pl k → aw + f < 100 ∧ fd < 100 → pw_Ct (3 + f) yX4_fewestFrom m_X4_fewestFrom [.ref 20, .int (nI k), .int (nI us), .int (nI aw), .int (nI fd)] mm (fun r m' => r = some (.int (nI (pw_fw n kn th gd en (mm 24) f pl us aw fd))) ∧ (∀ c, c ≠ 23 → m' c = mm c) ∧ ∀ j, j < k → m' 23 j = mm 23 j) := by
  intro f
  induction f with
  | zero =>
    intro k hkf pl us aw fd mm hs hp hb
    obtain ⟨bn, bk, bt⟩ := hs.1
    refine pw_ct (by decide +kernel) rfl (Nat.le_of_ble_eq_true rfl) (fun x => ?_)
    generalize hZ : pw_Z x _ = Z
    show pw_V x m_X4_fewestFrom (3 + 0) Z 0 [(0, .ref 20), (1, .int (nI k)), (2, .int (nI us)), (3, .int (nI aw)), (4, .int (nI fd))] [] mm
    refine pw_blk (pc' := 3) [.iload 3, .iload 4] (by decide +kernel) ?_
    show pw_V x m_X4_fewestFrom (3 + 0) Z 3 [(0, .ref 20), (1, .int (nI k)), (2, .int (nI us)), (3, .int (nI aw)), (4, .int (nI fd))] [.int (nI fd), .int (nI aw)] mm
    refine pw_in_lt (tgt := 9) (off := 6) (by omega) (by omega) (by decide +kernel) (by decide) (fun h3 => ?_) (fun h3 => ?_)
    · refine pw_blk (pc' := 14) [.iload 1, .aload 0, .getfield 401] (by decide +kernel) ?_
      show pw_V x m_X4_fewestFrom (3 + 0) Z 14 [(0, .ref 20), (1, .int (nI k)), (2, .int (nI us)), (3, .int (nI aw)), (4, .int (nI fd))] [.int (mm 20 1), .int (nI k)] mm
      rw [show mm 20 1 = nI kn from hs.2.1.2.1]
      refine pw_in_lt (tgt := 19) (off := 5) (by omega) (by omega) (by decide +kernel) (by decide) (fun h14 => ?_) (fun h14 => ?_)
      · omega
      · refine pw_blk (pc' := 18) [.iload 3] (by decide +kernel) ?_
        show pw_V x m_X4_fewestFrom (3 + 0) Z 18 [(0, .ref 20), (1, .int (nI k)), (2, .int (nI us)), (3, .int (nI aw)), (4, .int (nI fd))] [.int (nI aw)] mm
        rw [← hZ]
        refine pw_ri (by decide +kernel) ?_
        exact ⟨by simp [pw_fw, Nat.not_le.mpr h3], fun _ _ => rfl, fun _ _ => rfl⟩
    · refine pw_blk (pc' := 8) [.iload 4] (by decide +kernel) ?_
      show pw_V x m_X4_fewestFrom (3 + 0) Z 8 [(0, .ref 20), (1, .int (nI k)), (2, .int (nI us)), (3, .int (nI aw)), (4, .int (nI fd))] [.int (nI fd)] mm
      rw [← hZ]
      refine pw_ri (by decide +kernel) ?_
      exact ⟨by rw [pw_fwL h3], fun _ _ => rfl, fun _ _ => rfl⟩
  | succ f ih =>
    intro k hkf pl us aw fd mm hs hp hb
    obtain ⟨bn, bk, bt⟩ := hs.1
    refine pw_ct (by decide +kernel) rfl (Nat.le_of_ble_eq_true rfl) (fun x => ?_)
    generalize hZ : pw_Z x _ = Z
    show pw_V x m_X4_fewestFrom (3 + (f + 1)) Z 0 [(0, .ref 20), (1, .int (nI k)), (2, .int (nI us)), (3, .int (nI aw)), (4, .int (nI fd))] [] mm
    refine pw_blk (pc' := 3) [.iload 3, .iload 4] (by decide +kernel) ?_
    show pw_V x m_X4_fewestFrom (3 + (f + 1)) Z 3 [(0, .ref 20), (1, .int (nI k)), (2, .int (nI us)), (3, .int (nI aw)), (4, .int (nI fd))] [.int (nI fd), .int (nI aw)] mm
    refine pw_in_lt (tgt := 9) (off := 6) (by omega) (by omega) (by decide +kernel) (by decide) (fun h3 => ?_) (fun h3 => ?_)
    · refine pw_blk (pc' := 14) [.iload 1, .aload 0, .getfield 401] (by decide +kernel) ?_
      show pw_V x m_X4_fewestFrom (3 + (f + 1)) Z 14 [(0, .ref 20), (1, .int (nI k)), (2, .int (nI us)), (3, .int (nI aw)), (4, .int (nI fd))] [.int (mm 20 1), .int (nI k)] mm
      rw [show mm 20 1 = nI kn from hs.2.1.2.1]
      refine pw_in_lt (tgt := 19) (off := 5) (by omega) (by omega) (by decide +kernel) (by decide) (fun h14 => ?_) (fun h14 => ?_)
      · refine pw_blk (pc' := 24) [.aload 0, .getfield 402, .iload 1] (by decide +kernel) ?_
        show pw_V x m_X4_fewestFrom (3 + (f + 1)) Z 24 [(0, .ref 20), (1, .int (nI k)), (2, .int (nI us)), (3, .int (nI aw)), (4, .int (nI fd))] [.int (nI k), .int (mm 20 2)] mm
        rw [show mm 20 2 = nI th from hs.2.1.2.2]
        refine pw_cN (idx := 63) (vs := [.int (nI th), .int (nI k)]) (rest := []) (host := RX7) k_X7_has (c_has (nI th) (nI k) mm) (by decide +kernel) rfl (by omega) (Nat.le_of_ble_eq_true rfl) (by decide +kernel) ?_
        rintro _ m1 ⟨rfl, e1⟩
        rw [e1]
        clear e1 m1
        show pw_V x m_X4_fewestFrom (3 + (f + 1)) Z 27 [(0, .ref 20), (1, .int (nI k)), (2, .int (nI us)), (3, .int (nI aw)), (4, .int (nI fd))] [.int (pw_b (pw_hs (nI th) (nI k)))] mm
        rw [pw_hs_n (by omega) (by omega)]
        refine pw_ib_ne (tgt := 42) (off := 15) (by decide +kernel) (by decide) (fun h27 => ?_) (fun h27 => ?_)
        · refine pw_blk (pc' := 45) [.aload 0, .iload 1, .iload 2] (by decide +kernel) ?_
          show pw_V x m_X4_fewestFrom (3 + (f + 1)) Z 45 [(0, .ref 20), (1, .int (nI k)), (2, .int (nI us)), (3, .int (nI aw)), (4, .int (nI fd))] [.int (nI us), .int (nI k), .ref 20] mm
          refine pw_cV (vs := [.int (nI k), .int (nI us)]) (rest := []) k_X4_freeSeats (c_freeSeats k us pl mm hs (by omega) hp) l_4_66 rfl rfl rfl rfl (by omega) (Nat.le_of_ble_eq_true rfl) (by decide +kernel) ?_
          rintro _ m1 ⟨rfl, e1⟩
          rw [e1]
          clear e1 m1
          show pw_V x m_X4_fewestFrom (3 + (f + 1)) Z 48 [(0, .ref 20), (1, .int (nI k)), (2, .int (nI us)), (3, .int (nI aw)), (4, .int (nI fd))] [.int (nI (pw_frI n th (gd k) (en k) pl us k))] mm
          refine pw_blk (pc' := 50) [.istore 5] (by decide +kernel) ?_
          show pw_V x m_X4_fewestFrom (3 + (f + 1)) Z 50 [(5, .int (nI (pw_frI n th (gd k) (en k) pl us k))), (0, .ref 20), (1, .int (nI k)), (2, .int (nI us)), (3, .int (nI aw)), (4, .int (nI fd))] [] mm
          have bf : (pw_frI n th (gd k) (en k) pl us k) < 2 ^ n := pw_frI_lt (hs.2.2 k (by omega)).1.2
          have bf8 := pw_p8 bn bf
          refine pw_blk (pc' := 57) [.iload 4, .istore 6, .iconst 0, .istore 7] (by decide +kernel) ?_
          show pw_V x m_X4_fewestFrom (3 + (f + 1)) Z 57 [(7, .int (nI 0)), (6, .int (nI fd)), (5, .int (nI (pw_frI n th (gd k) (en k) pl us k))), (0, .ref 20), (1, .int (nI k)), (2, .int (nI us)), (3, .int (nI aw)), (4, .int (nI fd))] [] mm
          refine pw_lvp [3, 4, 5, 6, 7, 2, 1, 0] rfl ?_
          suffices loop : ∀ s : Nat, s ≤ n → ∀ m : pw_m, (∀ c, c ≠ 23 → m c = mm c) → (∀ j, j < k → m 23 j = mm 23 j) → pw_fo (fun s x => if (pw_frI n th (gd k) (en k) pl us k).testBit s = true then pw_fw n kn th gd en (mm 24) f (pw_ns pl k s) (us ||| 2 ^ s) (aw + if mm 24 k = nI s then 0 else 1) x else x) s fd ≤ fd → pw_V x m_X4_fewestFrom (3 + (f + 1)) Z 57 [(0, .ref 20), (1, .int (nI k)), (2, .int (nI us)), (3, .int (nI aw)), (4, .int (nI fd)), (5, .int (nI (pw_frI n th (gd k) (en k) pl us k))), (6, .int (nI (pw_fo (fun s x => if (pw_frI n th (gd k) (en k) pl us k).testBit s = true then pw_fw n kn th gd en (mm 24) f (pw_ns pl k s) (us ||| 2 ^ s) (aw + if mm 24 k = nI s then 0 else 1) x else x) s fd))), (7, .int (nI s))] [] m from loop 0 (by omega) mm (fun _ _ => rfl) (fun _ _ => rfl) (Nat.le_refl _)
          refine pw_dn n (fun s hsn ih2 m hm hpm hfo => ?_)
          have hsm := hs.c hm
          refine pw_blk (pc' := 63) [.iload 7, .aload 0, .getfield 400] (by decide +kernel) ?_
          show pw_V x m_X4_fewestFrom (3 + (f + 1)) Z 63 [(0, .ref 20), (1, .int (nI k)), (2, .int (nI us)), (3, .int (nI aw)), (4, .int (nI fd)), (5, .int (nI (pw_frI n th (gd k) (en k) pl us k))), (6, .int (nI (pw_fo (fun s x => if (pw_frI n th (gd k) (en k) pl us k).testBit s = true then pw_fw n kn th gd en (mm 24) f (pw_ns pl k s) (us ||| 2 ^ s) (aw + if mm 24 k = nI s then 0 else 1) x else x) s fd))), (7, .int (nI s))] [.int (m 20 0), .int (nI s)] m
          rw [show m 20 0 = nI n from hsm.2.1.1]
          refine pw_in_ge (tgt := 129) (off := 66) (by omega) (by omega) (by decide +kernel) (by decide) (fun h63 => ?_) (fun h63 => ?_)
          · refine pw_blk (pc' := 131) [.iload 6] (by decide +kernel) ?_
            show pw_V x m_X4_fewestFrom (3 + (f + 1)) Z 131 [(0, .ref 20), (1, .int (nI k)), (2, .int (nI us)), (3, .int (nI aw)), (4, .int (nI fd)), (5, .int (nI (pw_frI n th (gd k) (en k) pl us k))), (6, .int (nI (pw_fo (fun s x => if (pw_frI n th (gd k) (en k) pl us k).testBit s = true then pw_fw n kn th gd en (mm 24) f (pw_ns pl k s) (us ||| 2 ^ s) (aw + if mm 24 k = nI s then 0 else 1) x else x) s fd))), (7, .int (nI s))] [.int (nI (pw_fo (fun s x => if (pw_frI n th (gd k) (en k) pl us k).testBit s = true then pw_fw n kn th gd en (mm 24) f (pw_ns pl k s) (us ||| 2 ^ s) (aw + if mm 24 k = nI s then 0 else 1) x else x) s fd))] m
            rw [← hZ]
            refine pw_ri (by decide +kernel) ?_
            have e : s = n := by omega
            subst e
            exact ⟨by rw [pw_fwS hkf h3 h27], hm, hpm⟩
          · refine pw_blk (pc' := 70) [.iload 5, .iload 7] (by decide +kernel) ?_
            show pw_V x m_X4_fewestFrom (3 + (f + 1)) Z 70 [(0, .ref 20), (1, .int (nI k)), (2, .int (nI us)), (3, .int (nI aw)), (4, .int (nI fd)), (5, .int (nI (pw_frI n th (gd k) (en k) pl us k))), (6, .int (nI (pw_fo (fun s x => if (pw_frI n th (gd k) (en k) pl us k).testBit s = true then pw_fw n kn th gd en (mm 24) f (pw_ns pl k s) (us ||| 2 ^ s) (aw + if mm 24 k = nI s then 0 else 1) x else x) s fd))), (7, .int (nI s))] [.int (nI s), .int (nI (pw_frI n th (gd k) (en k) pl us k))] m
            refine pw_cN (idx := 63) (vs := [.int (nI (pw_frI n th (gd k) (en k) pl us k)), .int (nI s)]) (rest := []) (host := RX7) k_X7_has (c_has (nI (pw_frI n th (gd k) (en k) pl us k)) (nI s) m) (by decide +kernel) rfl (by omega) (Nat.le_of_ble_eq_true rfl) (by decide +kernel) ?_
            rintro _ m1 ⟨rfl, e1⟩
            rw [e1]
            clear e1 m1
            show pw_V x m_X4_fewestFrom (3 + (f + 1)) Z 73 [(0, .ref 20), (1, .int (nI k)), (2, .int (nI us)), (3, .int (nI aw)), (4, .int (nI fd)), (5, .int (nI (pw_frI n th (gd k) (en k) pl us k))), (6, .int (nI (pw_fo (fun s x => if (pw_frI n th (gd k) (en k) pl us k).testBit s = true then pw_fw n kn th gd en (mm 24) f (pw_ns pl k s) (us ||| 2 ^ s) (aw + if mm 24 k = nI s then 0 else 1) x else x) s fd))), (7, .int (nI s))] [.int (pw_b (pw_hs (nI (pw_frI n th (gd k) (en k) pl us k)) (nI s)))] m
            rw [pw_hs_n (by omega) (by omega)]
            refine pw_ib_eq (tgt := 123) (off := 50) (by decide +kernel) (by decide) (fun h73 => ?_) (fun h73 => ?_)
            · refine pw_blk (pc' := 126) [.iinc 7 1] (by decide +kernel) ?_
              show pw_V x m_X4_fewestFrom (3 + (f + 1)) Z 126 [(7, .int ((nI s) + (nI 1))), (0, .ref 20), (1, .int (nI k)), (2, .int (nI us)), (3, .int (nI aw)), (4, .int (nI fd)), (5, .int (nI (pw_frI n th (gd k) (en k) pl us k))), (6, .int (nI (pw_fo (fun s x => if (pw_frI n th (gd k) (en k) pl us k).testBit s = true then pw_fw n kn th gd en (mm 24) f (pw_ns pl k s) (us ||| 2 ^ s) (aw + if mm 24 k = nI s then 0 else 1) x else x) s fd)))] [] m
              rw [show (nI s) + (nI 1) = nI (s + 1) from nI_add _ _]
              refine pw_goto (tgt := 57) (off := -69) (by decide +kernel) (by decide) ?_
              rw [show pw_fo (fun s x => if (pw_frI n th (gd k) (en k) pl us k).testBit s = true then pw_fw n kn th gd en (mm 24) f (pw_ns pl k s) (us ||| 2 ^ s) (aw + if mm 24 k = nI s then 0 else 1) x else x) s fd = (pw_fo (fun s x => if (pw_frI n th (gd k) (en k) pl us k).testBit s = true then pw_fw n kn th gd en (mm 24) f (pw_ns pl k s) (us ||| 2 ^ s) (aw + if mm 24 k = nI s then 0 else 1) x else x) (s + 1) fd) from by simp [pw_fo, h73]]
              refine pw_lvp [1, 2, 3, 4, 5, 6, 7, 0] rfl ?_
              exact ih2 (by omega) m hm hpm (by simp only [pw_fo, h73]; exact hfo)
            · refine pw_blk (pc' := 92) [.aload 0, .getfield 405, .iload 1, .iload 7, .iastore, .aload 0, .getfield 406, .iload 1, .iaload, .iload 7] (by decide +kernel) ?_
              refine ⟨k, rfl, by omega, ?_⟩
              refine ⟨k, rfl, by omega, ?_⟩
              show pw_V x m_X4_fewestFrom (3 + (f + 1)) Z 92 [(0, .ref 20), (1, .int (nI k)), (2, .int (nI us)), (3, .int (nI aw)), (4, .int (nI fd)), (5, .int (nI (pw_frI n th (gd k) (en k) pl us k))), (6, .int (nI (pw_fo (fun s x => if (pw_frI n th (gd k) (en k) pl us k).testBit s = true then pw_fw n kn th gd en (mm 24) f (pw_ns pl k s) (us ||| 2 ^ s) (aw + if mm 24 k = nI s then 0 else 1) x else x) s fd))), (7, .int (nI s))] [.int (nI s), .int (m 24 k)] (pw_up m 23 k (nI s))
              rw [show m 24 k = mm 24 k from by rw [hm 24 (by omega)]]
              refine pw_ic_ne (tgt := 99) (off := 7) (by decide +kernel) (by decide) (fun h92 => ?_) (fun h92 => ?_)
              · refine pw_blk (pc' := 118) [.iconst 1, .istore 8, .aload 0, .iload 1, .iconst 1, .iadd, .iload 2, .iconst 1, .iload 7, .ishl, .ior, .iload 3, .iload 8, .iadd, .iload 6] (by decide +kernel) ?_
                show pw_V x m_X4_fewestFrom (3 + (f + 1)) Z 118 [(8, .int (nI 1)), (0, .ref 20), (1, .int (nI k)), (2, .int (nI us)), (3, .int (nI aw)), (4, .int (nI fd)), (5, .int (nI (pw_frI n th (gd k) (en k) pl us k))), (6, .int (nI (pw_fo (fun s x => if (pw_frI n th (gd k) (en k) pl us k).testBit s = true then pw_fw n kn th gd en (mm 24) f (pw_ns pl k s) (us ||| 2 ^ s) (aw + if mm 24 k = nI s then 0 else 1) x else x) s fd))), (7, .int (nI s))] [.int (nI (pw_fo (fun s x => if (pw_frI n th (gd k) (en k) pl us k).testBit s = true then pw_fw n kn th gd en (mm 24) f (pw_ns pl k s) (us ||| 2 ^ s) (aw + if mm 24 k = nI s then 0 else 1) x else x) s fd)), .int ((nI aw) + (nI 1)), .int ((nI us) ||| ((nI 1) <<< ((nI s) &&& 31))), .int ((nI k) + (nI 1)), .ref 20] (pw_up m 23 k (nI s))
                rw [show (nI aw) + (nI 1) = nI (aw + 1) from nI_add _ _]
                rw [show (nI 1) <<< ((nI s) &&& 31) = nI (2 ^ s) from pw_shl1 (by omega)]
                rw [show (nI us) ||| (nI (2 ^ s)) = nI (us ||| (2 ^ s)) from fa_or _ _]
                rw [show (nI k) + (nI 1) = nI (k + 1) from nI_add _ _]
                refine pw_cV (vs := [.int (nI (k + 1)), .int (nI (us ||| (2 ^ s))), .int (nI (aw + 1)), .int (nI (pw_fo (fun s x => if (pw_frI n th (gd k) (en k) pl us k).testBit s = true then pw_fw n kn th gd en (mm 24) f (pw_ns pl k s) (us ||| 2 ^ s) (aw + if mm 24 k = nI s then 0 else 1) x else x) s fd))]) (rest := []) k_X4_fewestFrom (ih (k + 1) (by omega) (pw_ns pl k s) (us ||| 2 ^ s) (aw + 1) (pw_fo (fun s x => if (pw_frI n th (gd k) (en k) pl us k).testBit s = true then pw_fw n kn th gd en (mm 24) f (pw_ns pl k s) (us ||| 2 ^ s) (aw + if mm 24 k = nI s then 0 else 1) x else x) s fd) (pw_up m 23 k (nI s)) (hsm.c (fun c hc => pw_up_ne hc)) ((hp.c hpm).put (by omega)) (by omega)) l_4_32 rfl rfl rfl rfl (by omega) (Nat.le_of_ble_eq_true rfl) (by decide +kernel) ?_
                rintro _ m1 ⟨rfl, e1, e2⟩
                show pw_V x m_X4_fewestFrom (3 + (f + 1)) Z 121 [(8, .int (nI 1)), (0, .ref 20), (1, .int (nI k)), (2, .int (nI us)), (3, .int (nI aw)), (4, .int (nI fd)), (5, .int (nI (pw_frI n th (gd k) (en k) pl us k))), (6, .int (nI (pw_fo (fun s x => if (pw_frI n th (gd k) (en k) pl us k).testBit s = true then pw_fw n kn th gd en (mm 24) f (pw_ns pl k s) (us ||| 2 ^ s) (aw + if mm 24 k = nI s then 0 else 1) x else x) s fd))), (7, .int (nI s))] [.int (nI (pw_fw n kn th gd en (pw_up m 23 k (nI s) 24) f (pw_ns pl k s) (us ||| (2 ^ s)) (aw + 1) (pw_fo (fun s x => if (pw_frI n th (gd k) (en k) pl us k).testBit s = true then pw_fw n kn th gd en (mm 24) f (pw_ns pl k s) (us ||| 2 ^ s) (aw + if mm 24 k = nI s then 0 else 1) x else x) s fd)))] m1
                refine pw_blk (pc' := 126) [.istore 6, .iinc 7 1] (by decide +kernel) ?_
                show pw_V x m_X4_fewestFrom (3 + (f + 1)) Z 126 [(7, .int ((nI s) + (nI 1))), (6, .int (nI (pw_fw n kn th gd en (pw_up m 23 k (nI s) 24) f (pw_ns pl k s) (us ||| (2 ^ s)) (aw + 1) (pw_fo (fun s x => if (pw_frI n th (gd k) (en k) pl us k).testBit s = true then pw_fw n kn th gd en (mm 24) f (pw_ns pl k s) (us ||| 2 ^ s) (aw + if mm 24 k = nI s then 0 else 1) x else x) s fd)))), (8, .int (nI 1)), (0, .ref 20), (1, .int (nI k)), (2, .int (nI us)), (3, .int (nI aw)), (4, .int (nI fd)), (5, .int (nI (pw_frI n th (gd k) (en k) pl us k)))] [] m1
                rw [show (nI s) + (nI 1) = nI (s + 1) from nI_add _ _]
                refine pw_goto (tgt := 57) (off := -69) (by decide +kernel) (by decide) ?_
                have e9 : (pw_fw n kn th gd en (pw_up m 23 k (nI s) 24) f (pw_ns pl k s) (us ||| (2 ^ s)) (aw + 1) (pw_fo (fun s x => if (pw_frI n th (gd k) (en k) pl us k).testBit s = true then pw_fw n kn th gd en (mm 24) f (pw_ns pl k s) (us ||| 2 ^ s) (aw + if mm 24 k = nI s then 0 else 1) x else x) s fd)) = (pw_fo (fun s x => if (pw_frI n th (gd k) (en k) pl us k).testBit s = true then pw_fw n kn th gd en (mm 24) f (pw_ns pl k s) (us ||| 2 ^ s) (aw + if mm 24 k = nI s then 0 else 1) x else x) (s + 1) fd) := by rw [pw_up_ne (by omega), hm 24 (by omega)]; simp [pw_fo, h73, h92]
                rw [e9]
                refine pw_lvp [3, 4, 5, 6, 7, 8, 1, 0] rfl ?_
                exact ih2 (by omega) m1 (fun c hc => by rw [e1 c hc, pw_up_ne hc]; exact hm c hc) (fun j hj => by rw [e2 j (by omega), pw_up_eq]; unfold upd; rw [if_neg (by omega)]; exact hpm j hj) (by rw [← e9]; exact Nat.le_trans (pw_fwb _ _ _ _ _) hfo)
              · refine pw_blk (pc' := 96) [.iconst 0] (by decide +kernel) ?_
                show pw_V x m_X4_fewestFrom (3 + (f + 1)) Z 96 [(0, .ref 20), (1, .int (nI k)), (2, .int (nI us)), (3, .int (nI aw)), (4, .int (nI fd)), (5, .int (nI (pw_frI n th (gd k) (en k) pl us k))), (6, .int (nI (pw_fo (fun s x => if (pw_frI n th (gd k) (en k) pl us k).testBit s = true then pw_fw n kn th gd en (mm 24) f (pw_ns pl k s) (us ||| 2 ^ s) (aw + if mm 24 k = nI s then 0 else 1) x else x) s fd))), (7, .int (nI s))] [.int (nI 0)] (pw_up m 23 k (nI s))
                refine pw_goto (tgt := 100) (off := 4) (by decide +kernel) (by decide) ?_
                refine pw_blk (pc' := 118) [.istore 8, .aload 0, .iload 1, .iconst 1, .iadd, .iload 2, .iconst 1, .iload 7, .ishl, .ior, .iload 3, .iload 8, .iadd, .iload 6] (by decide +kernel) ?_
                show pw_V x m_X4_fewestFrom (3 + (f + 1)) Z 118 [(8, .int (nI 0)), (0, .ref 20), (1, .int (nI k)), (2, .int (nI us)), (3, .int (nI aw)), (4, .int (nI fd)), (5, .int (nI (pw_frI n th (gd k) (en k) pl us k))), (6, .int (nI (pw_fo (fun s x => if (pw_frI n th (gd k) (en k) pl us k).testBit s = true then pw_fw n kn th gd en (mm 24) f (pw_ns pl k s) (us ||| 2 ^ s) (aw + if mm 24 k = nI s then 0 else 1) x else x) s fd))), (7, .int (nI s))] [.int (nI (pw_fo (fun s x => if (pw_frI n th (gd k) (en k) pl us k).testBit s = true then pw_fw n kn th gd en (mm 24) f (pw_ns pl k s) (us ||| 2 ^ s) (aw + if mm 24 k = nI s then 0 else 1) x else x) s fd)), .int ((nI aw) + (nI 0)), .int ((nI us) ||| ((nI 1) <<< ((nI s) &&& 31))), .int ((nI k) + (nI 1)), .ref 20] (pw_up m 23 k (nI s))
                rw [show (nI aw) + (nI 0) = nI (aw + 0) from nI_add _ _]
                rw [show (nI 1) <<< ((nI s) &&& 31) = nI (2 ^ s) from pw_shl1 (by omega)]
                rw [show (nI us) ||| (nI (2 ^ s)) = nI (us ||| (2 ^ s)) from fa_or _ _]
                rw [show (nI k) + (nI 1) = nI (k + 1) from nI_add _ _]
                refine pw_cV (vs := [.int (nI (k + 1)), .int (nI (us ||| (2 ^ s))), .int (nI (aw + 0)), .int (nI (pw_fo (fun s x => if (pw_frI n th (gd k) (en k) pl us k).testBit s = true then pw_fw n kn th gd en (mm 24) f (pw_ns pl k s) (us ||| 2 ^ s) (aw + if mm 24 k = nI s then 0 else 1) x else x) s fd))]) (rest := []) k_X4_fewestFrom (ih (k + 1) (by omega) (pw_ns pl k s) (us ||| 2 ^ s) (aw + 0) (pw_fo (fun s x => if (pw_frI n th (gd k) (en k) pl us k).testBit s = true then pw_fw n kn th gd en (mm 24) f (pw_ns pl k s) (us ||| 2 ^ s) (aw + if mm 24 k = nI s then 0 else 1) x else x) s fd) (pw_up m 23 k (nI s)) (hsm.c (fun c hc => pw_up_ne hc)) ((hp.c hpm).put (by omega)) (by omega)) l_4_32 rfl rfl rfl rfl (by omega) (Nat.le_of_ble_eq_true rfl) (by decide +kernel) ?_
                rintro _ m1 ⟨rfl, e1, e2⟩
                show pw_V x m_X4_fewestFrom (3 + (f + 1)) Z 121 [(8, .int (nI 0)), (0, .ref 20), (1, .int (nI k)), (2, .int (nI us)), (3, .int (nI aw)), (4, .int (nI fd)), (5, .int (nI (pw_frI n th (gd k) (en k) pl us k))), (6, .int (nI (pw_fo (fun s x => if (pw_frI n th (gd k) (en k) pl us k).testBit s = true then pw_fw n kn th gd en (mm 24) f (pw_ns pl k s) (us ||| 2 ^ s) (aw + if mm 24 k = nI s then 0 else 1) x else x) s fd))), (7, .int (nI s))] [.int (nI (pw_fw n kn th gd en (pw_up m 23 k (nI s) 24) f (pw_ns pl k s) (us ||| (2 ^ s)) (aw + 0) (pw_fo (fun s x => if (pw_frI n th (gd k) (en k) pl us k).testBit s = true then pw_fw n kn th gd en (mm 24) f (pw_ns pl k s) (us ||| 2 ^ s) (aw + if mm 24 k = nI s then 0 else 1) x else x) s fd)))] m1
                refine pw_blk (pc' := 126) [.istore 6, .iinc 7 1] (by decide +kernel) ?_
                show pw_V x m_X4_fewestFrom (3 + (f + 1)) Z 126 [(7, .int ((nI s) + (nI 1))), (6, .int (nI (pw_fw n kn th gd en (pw_up m 23 k (nI s) 24) f (pw_ns pl k s) (us ||| (2 ^ s)) (aw + 0) (pw_fo (fun s x => if (pw_frI n th (gd k) (en k) pl us k).testBit s = true then pw_fw n kn th gd en (mm 24) f (pw_ns pl k s) (us ||| 2 ^ s) (aw + if mm 24 k = nI s then 0 else 1) x else x) s fd)))), (8, .int (nI 0)), (0, .ref 20), (1, .int (nI k)), (2, .int (nI us)), (3, .int (nI aw)), (4, .int (nI fd)), (5, .int (nI (pw_frI n th (gd k) (en k) pl us k)))] [] m1
                rw [show (nI s) + (nI 1) = nI (s + 1) from nI_add _ _]
                refine pw_goto (tgt := 57) (off := -69) (by decide +kernel) (by decide) ?_
                have e9 : (pw_fw n kn th gd en (pw_up m 23 k (nI s) 24) f (pw_ns pl k s) (us ||| (2 ^ s)) (aw + 0) (pw_fo (fun s x => if (pw_frI n th (gd k) (en k) pl us k).testBit s = true then pw_fw n kn th gd en (mm 24) f (pw_ns pl k s) (us ||| 2 ^ s) (aw + if mm 24 k = nI s then 0 else 1) x else x) s fd)) = (pw_fo (fun s x => if (pw_frI n th (gd k) (en k) pl us k).testBit s = true then pw_fw n kn th gd en (mm 24) f (pw_ns pl k s) (us ||| 2 ^ s) (aw + if mm 24 k = nI s then 0 else 1) x else x) (s + 1) fd) := by rw [pw_up_ne (by omega), hm 24 (by omega)]; simp [pw_fo, h73, h92]
                rw [e9]
                refine pw_lvp [3, 4, 5, 6, 7, 8, 1, 0] rfl ?_
                exact ih2 (by omega) m1 (fun c hc => by rw [e1 c hc, pw_up_ne hc]; exact hm c hc) (fun j hj => by rw [e2 j (by omega), pw_up_eq]; unfold upd; rw [if_neg (by omega)]; exact hpm j hj) (by rw [← e9]; exact Nat.le_trans (pw_fwb _ _ _ _ _) hfo)
        · refine pw_blk (pc' := 38) [.aload 0, .iload 1, .iconst 1, .iadd, .iload 2, .iload 3, .iload 4] (by decide +kernel) ?_
          show pw_V x m_X4_fewestFrom (3 + (f + 1)) Z 38 [(0, .ref 20), (1, .int (nI k)), (2, .int (nI us)), (3, .int (nI aw)), (4, .int (nI fd))] [.int (nI fd), .int (nI aw), .int (nI us), .int ((nI k) + (nI 1)), .ref 20] mm
          rw [show (nI k) + (nI 1) = nI (k + 1) from nI_add _ _]
          refine pw_cV (vs := [.int (nI (k + 1)), .int (nI us), .int (nI aw), .int (nI fd)]) (rest := []) k_X4_fewestFrom (ih (k + 1) (by omega) pl us aw fd mm hs (hp.skip h27) ⟨by omega, hb.2⟩) l_4_32 rfl rfl rfl rfl (by omega) (Nat.le_of_ble_eq_true rfl) (by decide +kernel) ?_
          rintro _ m1 ⟨rfl, e1, e2⟩
          show pw_V x m_X4_fewestFrom (3 + (f + 1)) Z 41 [(0, .ref 20), (1, .int (nI k)), (2, .int (nI us)), (3, .int (nI aw)), (4, .int (nI fd))] [.int (nI (pw_fw n kn th gd en (mm 24) f pl us aw fd))] m1
          rw [← hZ]
          refine pw_ri (by decide +kernel) ?_
          exact ⟨by rw [pw_fwN hkf h3 h27], e1, fun j hj => e2 j (by omega)⟩
      · omega
    · refine pw_blk (pc' := 8) [.iload 4] (by decide +kernel) ?_
      show pw_V x m_X4_fewestFrom (3 + (f + 1)) Z 8 [(0, .ref 20), (1, .int (nI k)), (2, .int (nI us)), (3, .int (nI aw)), (4, .int (nI fd))] [.int (nI fd)] mm
      rw [← hZ]
      refine pw_ri (by decide +kernel) ?_
      exact ⟨by rw [pw_fwL h3], fun _ _ => rfl, fun _ _ => rfl⟩
