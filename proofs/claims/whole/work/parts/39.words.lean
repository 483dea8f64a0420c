def pw_wdF (A : pw_m) (b e : Nat) : Nat → Nat → Nat → Nat → Bool → Option Nat
  | 0, _, _, _, _ => none
  | f + 1, i, nb, at_, al => if pw_k2 i = nI 46 then (if al = true ∧ at_ = e then some nb else pw_wdF A b e f (i + 1) (nb + 1) b true) else if al = true ∧ at_ < e ∧ A 3 at_ = pw_k2 i then pw_wdF A b e f (i + 1) nb (at_ + 1) true else pw_wdF A b e f (i + 1) nb at_ false
def F_wd (A : pw_m) (b e : Nat) : Option Nat := if A 2 2 = nI 1 then pw_wdF A b e 74 0 0 b true else none

set_option maxHeartbeats 4000000 in
set_option maxRecDepth 100000 in
theorem c_wordThatStandsHere (mm : pw_m) (hx : mm 2 1 = nI (pw_g mm 2 1)) (bwr : pw_g mm 2 1 ≤ 160) (b e : Nat) (hb : mm 2 3 = nI b) (he : mm 2 4 = nI e) (hbe : b ≤ e) (he2 : e ≤ pw_g mm 2 1) : pw_Ct 0 yX2_wordThatStandsHere m_X2_wordThatStandsHere [.ref 1] mm (fun r m' => r = some (.int (pw_o (F_wd mm b e))) ∧ m' = mm) := by
  refine pw_ct (by decide +kernel) rfl (Nat.le_of_ble_eq_true rfl) (fun x => ?_)
  generalize hZ : pw_Z x _ = Z
  show pw_V x m_X2_wordThatStandsHere 0 Z 0 [(0, .ref 1)] [] mm
  refine pw_blk (pc' := 8) [.aload 0, .getfield 200, .getfield 302, .iconst 1] (by decide +kernel) ?_
  show pw_V x m_X2_wordThatStandsHere 0 Z 8 [(0, .ref 1)] [.int (nI 1), .int (mm 2 2)] mm
  refine pw_ic_eq (tgt := 13) (off := 5) (by decide +kernel) (by decide) (fun h8 => ?_) (fun h8 => ?_)
  · refine pw_blk (pc' := 28) [.iconst 0, .istore 1, .aload 0, .getfield 200, .getfield 303, .istore 2, .iconst 1, .istore 3, .iconst 0, .istore 4] (by decide +kernel) ?_
    show pw_V x m_X2_wordThatStandsHere 0 Z 28 [(4, .int (nI 0)), (3, .int (nI 1)), (2, .int (mm 2 3)), (1, .int (nI 0)), (0, .ref 1)] [] mm
    rw [show mm 2 3 = nI b from hb]
    refine pw_lvp [4, 3, 2, 1, 0] rfl ?_
    suffices lo : ∀ fx ix nb ax : Nat, ∀ al : Bool, ix + fx = 74 → nb ≤ ix → ax ≤ e → F_wd mm b e = pw_wdF mm b e fx ix nb ax al → pw_V x m_X2_wordThatStandsHere 0 Z 28 [(0, .ref 1), (1, .int (nI nb)), (2, .int (nI ax)), (3, .int (pw_b (al))), (4, .int (nI ix))] [] mm from lo 74 0 0 b true (by omega) (by omega) (by omega) (by unfold F_wd; rw [if_pos h8])
    intro fx
    induction fx with
    | zero =>
      intro ix nb ax al hix hnb hax hwd
      refine pw_blk (pc' := 34) [.iload 4, .getstatic 2, .arraylength] (by decide +kernel) ?_
      show pw_V x m_X2_wordThatStandsHere 0 Z 34 [(0, .ref 1), (1, .int (nI nb)), (2, .int (nI ax)), (3, .int (pw_b (al))), (4, .int (nI ix))] [.int (nI 74), .int (nI ix)] mm
      refine pw_in_ge (tgt := 128) (off := 94) (by omega) (by omega) (by decide +kernel) (by decide) (fun h34 => ?_) (fun h34 => ?_)
      · refine pw_blk (pc' := 129) [.iconst (-1)] (by decide +kernel) ?_
        show pw_V x m_X2_wordThatStandsHere 0 Z 129 [(0, .ref 1), (1, .int (nI nb)), (2, .int (nI ax)), (3, .int (pw_b (al))), (4, .int (nI ix))] [.int (-1)] mm
        rw [← hZ]
        refine pw_ri (by decide +kernel) ?_
        refine ⟨?_, rfl⟩
        rw [hwd]
        rfl
      · omega
    | succ fx ih =>
      intro ix nb ax al hix hnb hax hwd
      refine pw_blk (pc' := 34) [.iload 4, .getstatic 2, .arraylength] (by decide +kernel) ?_
      show pw_V x m_X2_wordThatStandsHere 0 Z 34 [(0, .ref 1), (1, .int (nI nb)), (2, .int (nI ax)), (3, .int (pw_b (al))), (4, .int (nI ix))] [.int (nI 74), .int (nI ix)] mm
      refine pw_in_ge (tgt := 128) (off := 94) (by omega) (by omega) (by decide +kernel) (by decide) (fun h34 => ?_) (fun h34 => ?_)
      · omega
      · refine pw_blk (pc' := 45) [.getstatic 2, .iload 4, .caload, .iconst (46)] (by decide +kernel) ?_
        refine ⟨rfl, ix, rfl, by omega, ?_⟩
        show pw_V x m_X2_wordThatStandsHere 0 Z 45 [(0, .ref 1), (1, .int (nI nb)), (2, .int (nI ax)), (3, .int (pw_b (al))), (4, .int (nI ix))] [.int (nI 46), .int (pw_k2 ix)] mm
        refine pw_ic_ne (tgt := 81) (off := 36) (by decide +kernel) (by decide) (fun h45 => ?_) (fun h45 => ?_)
        · refine pw_blk (pc' := 82) [.iload 3] (by decide +kernel) ?_
          show pw_V x m_X2_wordThatStandsHere 0 Z 82 [(0, .ref 1), (1, .int (nI nb)), (2, .int (nI ax)), (3, .int (pw_b (al))), (4, .int (nI ix))] [.int (pw_b (al))] mm
          refine pw_ib_eq (tgt := 120) (off := 38) (by decide +kernel) (by decide) (fun h82 => ?_) (fun h82 => ?_)
          · refine pw_blk (pc' := 125) [.iconst 0, .istore 3, .iinc 4 1] (by decide +kernel) ?_
            show pw_V x m_X2_wordThatStandsHere 0 Z 125 [(4, .int ((nI ix) + (nI 1))), (3, .int (nI 0)), (0, .ref 1), (1, .int (nI nb)), (2, .int (nI ax))] [] mm
            rw [show (nI ix) + (nI 1) = nI (ix + 1) from nI_add _ _]
            refine pw_goto (tgt := 28) (off := -97) (by decide +kernel) (by decide) ?_
            refine pw_lvp [2, 3, 4, 1, 0] rfl ?_
            refine ih (ix + 1) nb ax false ?_ ?_ ?_ (hwd.trans ?_) <;> first | omega | (simp only [pw_wdF]; simp [h45, h82])
          · refine pw_blk (pc' := 93) [.iload 2, .aload 0, .getfield 200, .getfield 304] (by decide +kernel) ?_
            show pw_V x m_X2_wordThatStandsHere 0 Z 93 [(0, .ref 1), (1, .int (nI nb)), (2, .int (nI ax)), (3, .int (pw_b (al))), (4, .int (nI ix))] [.int (mm 2 4), .int (nI ax)] mm
            rw [show mm 2 4 = nI e from he]
            refine pw_in_ge (tgt := 120) (off := 27) (by omega) (by omega) (by decide +kernel) (by decide) (fun h93 => ?_) (fun h93 => ?_)
            · refine pw_blk (pc' := 125) [.iconst 0, .istore 3, .iinc 4 1] (by decide +kernel) ?_
              show pw_V x m_X2_wordThatStandsHere 0 Z 125 [(4, .int ((nI ix) + (nI 1))), (3, .int (nI 0)), (0, .ref 1), (1, .int (nI nb)), (2, .int (nI ax))] [] mm
              rw [show (nI ix) + (nI 1) = nI (ix + 1) from nI_add _ _]
              refine pw_goto (tgt := 28) (off := -97) (by decide +kernel) (by decide) ?_
              refine pw_lvp [2, 3, 4, 1, 0] rfl ?_
              refine ih (ix + 1) nb ax false ?_ ?_ ?_ (hwd.trans ?_) <;> first | omega | (simp only [pw_wdF]; simp [h45, h82, Nat.not_lt.mpr h93])
            · refine pw_blk (pc' := 111) [.aload 0, .getfield 200, .getfield 300, .iload 2, .iaload, .getstatic 2, .iload 4, .caload] (by decide +kernel) ?_
              refine ⟨ax, rfl, by omega, ?_⟩
              refine ⟨rfl, ix, rfl, by omega, ?_⟩
              show pw_V x m_X2_wordThatStandsHere 0 Z 111 [(0, .ref 1), (1, .int (nI nb)), (2, .int (nI ax)), (3, .int (pw_b (al))), (4, .int (nI ix))] [.int (pw_k2 ix), .int (mm 3 ax)] mm
              refine pw_ic_ne (tgt := 120) (off := 9) (by decide +kernel) (by decide) (fun h111 => ?_) (fun h111 => ?_)
              · refine pw_blk (pc' := 125) [.iconst 0, .istore 3, .iinc 4 1] (by decide +kernel) ?_
                show pw_V x m_X2_wordThatStandsHere 0 Z 125 [(4, .int ((nI ix) + (nI 1))), (3, .int (nI 0)), (0, .ref 1), (1, .int (nI nb)), (2, .int (nI ax))] [] mm
                rw [show (nI ix) + (nI 1) = nI (ix + 1) from nI_add _ _]
                refine pw_goto (tgt := 28) (off := -97) (by decide +kernel) (by decide) ?_
                refine pw_lvp [2, 3, 4, 1, 0] rfl ?_
                refine ih (ix + 1) nb ax false ?_ ?_ ?_ (hwd.trans ?_) <;> first | omega | (simp only [pw_wdF]; simp [h45, h82, h93, h111])
              · refine pw_blk (pc' := 117) [.iinc 2 1] (by decide +kernel) ?_
                show pw_V x m_X2_wordThatStandsHere 0 Z 117 [(2, .int ((nI ax) + (nI 1))), (0, .ref 1), (1, .int (nI nb)), (3, .int (pw_b (al))), (4, .int (nI ix))] [] mm
                rw [show (nI ax) + (nI 1) = nI (ax + 1) from nI_add _ _]
                refine pw_goto (tgt := 122) (off := 5) (by decide +kernel) (by decide) ?_
                refine pw_blk (pc' := 125) [.iinc 4 1] (by decide +kernel) ?_
                show pw_V x m_X2_wordThatStandsHere 0 Z 125 [(4, .int ((nI ix) + (nI 1))), (2, .int (nI (ax + 1))), (0, .ref 1), (1, .int (nI nb)), (3, .int (pw_b (al)))] [] mm
                rw [show (nI ix) + (nI 1) = nI (ix + 1) from nI_add _ _]
                refine pw_goto (tgt := 28) (off := -97) (by decide +kernel) (by decide) ?_
                refine pw_lvp [2, 3, 1, 4, 0] rfl ?_
                refine ih (ix + 1) nb (ax + 1) al ?_ ?_ ?_ (hwd.trans ?_) <;> first | omega | (simp only [pw_wdF]; simp [h45, h82, h93, h111])
        · refine pw_blk (pc' := 49) [.iload 3] (by decide +kernel) ?_
          show pw_V x m_X2_wordThatStandsHere 0 Z 49 [(0, .ref 1), (1, .int (nI nb)), (2, .int (nI ax)), (3, .int (pw_b (al))), (4, .int (nI ix))] [.int (pw_b (al))] mm
          refine pw_ib_eq (tgt := 65) (off := 16) (by decide +kernel) (by decide) (fun h49 => ?_) (fun h49 => ?_)
          · refine pw_blk (pc' := 78) [.iinc 1 1, .aload 0, .getfield 200, .getfield 303, .istore 2, .iconst 1, .istore 3] (by decide +kernel) ?_
            show pw_V x m_X2_wordThatStandsHere 0 Z 78 [(3, .int (nI 1)), (2, .int (mm 2 3)), (1, .int ((nI nb) + (nI 1))), (0, .ref 1), (4, .int (nI ix))] [] mm
            rw [show mm 2 3 = nI b from hb]
            rw [show (nI nb) + (nI 1) = nI (nb + 1) from nI_add _ _]
            refine pw_goto (tgt := 122) (off := 44) (by decide +kernel) (by decide) ?_
            refine pw_blk (pc' := 125) [.iinc 4 1] (by decide +kernel) ?_
            show pw_V x m_X2_wordThatStandsHere 0 Z 125 [(4, .int ((nI ix) + (nI 1))), (3, .int (nI 1)), (2, .int (nI b)), (1, .int (nI (nb + 1))), (0, .ref 1)] [] mm
            rw [show (nI ix) + (nI 1) = nI (ix + 1) from nI_add _ _]
            refine pw_goto (tgt := 28) (off := -97) (by decide +kernel) (by decide) ?_
            refine pw_lvp [4, 3, 2, 1, 0] rfl ?_
            refine ih (ix + 1) (nb + 1) b true ?_ ?_ ?_ (hwd.trans ?_) <;> first | omega | (simp only [pw_wdF]; simp [h45, h49])
          · refine pw_blk (pc' := 60) [.iload 2, .aload 0, .getfield 200, .getfield 304] (by decide +kernel) ?_
            show pw_V x m_X2_wordThatStandsHere 0 Z 60 [(0, .ref 1), (1, .int (nI nb)), (2, .int (nI ax)), (3, .int (pw_b (al))), (4, .int (nI ix))] [.int (mm 2 4), .int (nI ax)] mm
            rw [show mm 2 4 = nI e from he]
            refine pw_in_ne (tgt := 65) (off := 5) (by omega) (by omega) (by decide +kernel) (by decide) (fun h60 => ?_) (fun h60 => ?_)
            · refine pw_blk (pc' := 78) [.iinc 1 1, .aload 0, .getfield 200, .getfield 303, .istore 2, .iconst 1, .istore 3] (by decide +kernel) ?_
              show pw_V x m_X2_wordThatStandsHere 0 Z 78 [(3, .int (nI 1)), (2, .int (mm 2 3)), (1, .int ((nI nb) + (nI 1))), (0, .ref 1), (4, .int (nI ix))] [] mm
              rw [show mm 2 3 = nI b from hb]
              rw [show (nI nb) + (nI 1) = nI (nb + 1) from nI_add _ _]
              refine pw_goto (tgt := 122) (off := 44) (by decide +kernel) (by decide) ?_
              refine pw_blk (pc' := 125) [.iinc 4 1] (by decide +kernel) ?_
              show pw_V x m_X2_wordThatStandsHere 0 Z 125 [(4, .int ((nI ix) + (nI 1))), (3, .int (nI 1)), (2, .int (nI b)), (1, .int (nI (nb + 1))), (0, .ref 1)] [] mm
              rw [show (nI ix) + (nI 1) = nI (ix + 1) from nI_add _ _]
              refine pw_goto (tgt := 28) (off := -97) (by decide +kernel) (by decide) ?_
              refine pw_lvp [4, 3, 2, 1, 0] rfl ?_
              refine ih (ix + 1) (nb + 1) b true ?_ ?_ ?_ (hwd.trans ?_) <;> first | omega | (simp only [pw_wdF]; simp [h45, h49, h60])
            · refine pw_blk (pc' := 64) [.iload 1] (by decide +kernel) ?_
              show pw_V x m_X2_wordThatStandsHere 0 Z 64 [(0, .ref 1), (1, .int (nI nb)), (2, .int (nI ax)), (3, .int (pw_b (al))), (4, .int (nI ix))] [.int (nI nb)] mm
              rw [← hZ]
              refine pw_ri (by decide +kernel) ?_
              refine ⟨?_, rfl⟩
              rw [hwd]
              simp only [pw_wdF]
              simp [h45, h49, h60]
              try rfl
  · refine pw_blk (pc' := 12) [.iconst (-1)] (by decide +kernel) ?_
    show pw_V x m_X2_wordThatStandsHere 0 Z 12 [(0, .ref 1)] [.int (-1)] mm
    rw [← hZ]
    refine pw_ri (by decide +kernel) ?_
    exact ⟨by simp [F_wd, h8]; try rfl, rfl⟩
