/-! fields and arrays -/
theorem pw_uw {ws : List Cond} (ps : List Nat) (h : (ws.length == ps.length && (ws.zip ps).all (fun q => decide (lw_tbl[q.2]? = some q.1) && goodWord q.1)) = true) : ∀ w ∈ ws, w ∈ pw_tb := by
  rw [Bool.and_eq_true] at h
  intro w hw
  obtain ⟨i, hi⟩ := List.getElem?_of_mem hw
  have hlt : i < ws.length := (List.getElem?_eq_some_iff.mp hi).1
  have hl : ws.length = ps.length := by simpa using h.1
  have hp : ps[i]? = some ps[i] := List.getElem?_eq_getElem (by omega)
  have hz : (w, ps[i]) ∈ ws.zip ps := by
    refine List.mem_of_getElem? (i := i) ?_
    rw [List.getElem?_zip_eq_some]
    exact ⟨hi, hp⟩
  have h2 := List.all_eq_true.mp h.2 _ hz
  rw [Bool.and_eq_true] at h2
  exact pw_tb_in (of_decide_eq_true h2.1) h2.2
theorem pw_u0 : ∀ w ∈ u_ws RX0 TX0 5, w ∈ pw_tb := pw_uw [214, 216, 218, 220, 222] (by decide +kernel)
theorem pw_u1 : ∀ w ∈ u_ws RX1 TX1 5, w ∈ pw_tb := pw_uw [242, 244, 246, 248, 250] (by decide +kernel)
theorem pw_u2 : ∀ w ∈ u_ws RX2 TX2 7, w ∈ pw_tb := pw_uw [129, 131, 133, 135, 137, 139, 141] (by decide +kernel)
theorem pw_u3 : ∀ w ∈ u_ws RX3 TX3 5, w ∈ pw_tb := pw_uw [108, 110, 112, 114, 116] (by decide +kernel)
theorem pw_u4 : ∀ w ∈ u_ws RX4 TX4 9, w ∈ pw_tb := pw_uw [315, 317, 319, 321, 323, 325, 327, 329, 331] (by decide +kernel)
theorem pw_u5 : ∀ w ∈ u_ws RX5 TX5 11, w ∈ pw_tb := pw_uw [175, 177, 179, 181, 183, 185, 187, 189, 191, 193, 195] (by decide +kernel)
theorem pw_u6 : ∀ w ∈ u_ws RX6 TX6 9, w ∈ pw_tb := pw_uw [273, 275, 277, 279, 281, 283, 285, 287, 289] (by decide +kernel)
theorem pw_u7 : ∀ w ∈ u_ws RX7 TX7 7, w ∈ pw_tb := pw_uw [341, 343, 345, 347, 349, 351, 353] (by decide +kernel)
theorem pw_u8 : ∀ w ∈ u_ws RX8 TX8 38, w ∈ pw_tb := pw_uw [796, 798, 800, 802, 804, 806, 808, 810, 812, 814, 816, 818, 820, 822, 824, 826, 828, 830, 832, 834, 836, 838, 840, 842, 844, 846, 848, 850, 852, 854, 856, 858, 860, 862, 864, 866, 868, 870] (by decide +kernel)
theorem pw_cl {ci N : Nat} {C : String} {T : u_T} (h : vwCl[ci]? = some (C, T, N)) : (∀ w ∈ u_ws C T N, w ∈ pw_tb) ∧ ∃ ty0 : Nat → FieldType, (∀ k, k < N → parseFieldDescriptor (T k).2.2.1 = some (ty0 k)) ∧ (∀ a, a < N → ∀ b, b < N → a ≠ b → (T a).2.1 ≠ (T b).2.1) := by
  match ci, h with
  | 0, h => cases h; exact ⟨pw_u0, tyX0, tyX0_ok, nmX0⟩
  | 1, h => cases h; exact ⟨pw_u1, tyX1, tyX1_ok, nmX1⟩
  | 2, h => cases h; exact ⟨pw_u2, tyX2, tyX2_ok, nmX2⟩
  | 3, h => cases h; exact ⟨pw_u3, tyX3, tyX3_ok, nmX3⟩
  | 4, h => cases h; exact ⟨pw_u4, tyX4, tyX4_ok, nmX4⟩
  | 5, h => cases h; exact ⟨pw_u5, tyX5, tyX5_ok, nmX5⟩
  | 6, h => cases h; exact ⟨pw_u6, tyX6, tyX6_ok, nmX6⟩
  | 7, h => cases h; exact ⟨pw_u7, tyX7, tyX7_ok, nmX7⟩
  | 8, h => cases h; exact ⟨pw_u8, tyX8, tyX8_ok, nmX8⟩
  | k + 9, h => simp [vwCl] at h
theorem pw_fl {e : Nat × Nat × Nat × Nat × Nat} (h : e ∈ pw_ft) : ∃ (C : String) (T : u_T) (N : Nat), vwCl[e.2.2.1]? = some (C, T, N) ∧ e.2.2.2.1 < N ∧ e.2.2.2.1 < 100 ∧ (T e.2.2.2.1).1 = C ∧ Cond.fieldLink (pw_on e.1) e.2.1 C (T e.2.2.2.1).2.1 (T e.2.2.2.1).2.2.1 ∈ pw_tb := by
  have h1 := List.all_eq_true.mp pw_ft_ok e h
  unfold pw_fc at h1
  split at h1
  · cases h1
  · rename_i C T N hv
    simp only [Bool.and_eq_true, decide_eq_true_eq] at h1
    obtain ⟨⟨⟨a1, a2⟩, a3⟩, a4⟩ := h1
    exact ⟨C, T, N, hv, a1, a2, a3, pw_tb_in a4 rfl⟩
theorem pw_shp_lt {c : Nat} {q : pw_s} (h : pw_shp c = some q) : c < 86 := by
  unfold pw_shp at h
  split at h <;> first | omega | cases h
theorem pw_sho {c : Nat} {o : Nat × List (Option Nat)} (h : pw_shp c = some (.inl o)) : ∃ (C : String) (T : u_T) (N : Nat), vwCl[o.1]? = some (C, T, N) ∧ o.2.length = N ∧ ∀ k, o.2[k]? = some none → (T k).2.2.2 = false ∧ (T k).2.2.1 = if 100 * o.1 + k = 821 then "Z" else "I" := by
  have h1 := List.all_eq_true.mp pw_sz_ok c (List.mem_range.mpr (pw_shp_lt h))
  unfold pw_sz at h1
  rw [h] at h1
  dsimp only at h1
  split at h1
  · rename_i C T N hv
    rw [Bool.and_eq_true] at h1
    refine ⟨C, T, N, hv, of_decide_eq_true h1.1, fun k hk => ?_⟩
    have h2 := List.all_eq_true.mp h1.2 k (List.mem_range.mpr (List.getElem?_eq_some_iff.mp hk).1)
    rw [hk] at h2
    simp only [Bool.and_eq_true, decide_eq_true_eq] at h2
    exact h2
  · cases h1
/-- a field's value -/
def pw_va (mm : pw_m) (c k : Nat) : Option Nat → Value
  | none => .int (mm c k)
  | some q => .ref q
theorem pw_va_tv {ad : Nat → Nat} {mm : pw_m} {c k : Nat} (f : Option Nat) : pw_fv ad mm c (f, k) = pw_tv ad (pw_va mm c k f) := by cases f <;> rfl
section PWF
variable {x : pw_X} {M : pw_M} {d : Nat} {Z : State → Prop} {pc : Nat} {lv : List (Nat × Value)} {r : List Value} {mm : pw_m}
theorem pw_o_getfield {idx c : Nat} {e : Nat × Nat × Nat × Nat × Nat} {o : Nat × List (Option Nat)} {f : Option Nat} (hd : decode M.2.1 pc = .ok (.getfield idx, 3)) (he : e ∈ pw_ft) (h0 : e.1 = M.1) (h1 : e.2.1 = idx) (hs : pw_shp c = some (.inl o)) (hci : e.2.2.1 = o.1) (hf : o.2[e.2.2.2.1]? = some f) (hk : pw_V x M d Z (pc + 3) lv (pw_va mm c e.2.2.2.1 f :: r) mm) : pw_V x M d Z pc lv (.ref c :: r) mm := by
  obtain ⟨p, l, ee, R, s, m, args, below, meth, cc, D, ad, ⟨cI, cZ, cE⟩, A, X, nc, ns⟩ := x
  intro hC H locs hH ls hl
  obtain ⟨C, T, N, hv, a1, -, a3, a4⟩ := pw_fl he
  have hlink := hC.2.2.2.2.1 _ a4
  rw [h0, h1] at hlink
  refine va_get (D := D) (ci := o.1) (C := C) (T := T) (N := N) hC.1 hC.2.1 hC.2.2.2.2.1 (pw_cl hv).1 hC.2.2.2.1 hC.2.2.2.2.2.2.2.2.1 hH.1 c ((pw_cs_at (pw_shp_lt hs)).trans (by rw [pw_cel_o hs])) (hci ▸ hv) e.2.2.2.1 a1 hlink (fun y hy => a3 ▸ hy) (pw_fs_at hf) hd ?_
  rw [pw_va_tv]
  exact hk hC H locs hH ls hl
theorem pw_z01 {v : Int32} (h : v = 0 ∨ v = 1) : narrow .boolean (.int v) = .int v ∧ fits .boolean (.int v) = true := by
  rcases h with rfl | rfl <;> exact ⟨by decide, by decide⟩
theorem pw_o_putfield {idx c : Nat} {e : Nat × Nat × Nat × Nat × Nat} {o : Nat × List (Option Nat)} {v : Int32} (hd : decode M.2.1 pc = .ok (.putfield idx, 3)) (he : e ∈ pw_ft) (h0 : e.1 = M.1) (h1 : e.2.1 = idx) (hs : pw_shp c = some (.inl o)) (hci : e.2.2.1 = o.1) (hf : o.2[e.2.2.2.1]? = some none) (hz : 100 * o.1 + e.2.2.2.1 = 821 → v = 0 ∨ v = 1) (hk : pw_V x M d Z (pc + 3) lv r (pw_up mm c e.2.2.2.1 v)) : pw_V x M d Z pc lv (.int v :: .ref c :: r) mm := by
  obtain ⟨p, l, ee, R, s, m, args, below, meth, cc, D, ad, ⟨cI, cZ, cE⟩, A, X, nc, ns⟩ := x
  intro hC H locs hH ls hl
  obtain ⟨C, T, N, hv, a1, -, a3, a4⟩ := pw_fl he
  obtain ⟨C', T', N', hv', b1, b2⟩ := pw_sho hs
  rw [hci] at hv
  cases hv.symm.trans hv'
  obtain ⟨b3, b4⟩ := b2 _ hf
  obtain ⟨c1, ty0, c2, c3⟩ := pw_cl hv
  have hlink := hC.2.2.2.2.1 _ a4
  rw [h0, h1] at hlink
  have hty : ∃ ty, parseFieldDescriptor (T e.2.2.2.1).2.2.1 = some ty ∧ narrow ty (.int v) = .int v ∧ fits ty (.int v) = true := by
    by_cases hb : 100 * o.1 + e.2.2.2.1 = 821
    · rw [if_pos hb] at b4
      exact ⟨.boolean, by rw [b4]; decide +kernel, pw_z01 (hz hb)⟩
    · rw [if_neg hb] at b4
      exact ⟨.int, by rw [b4]; decide +kernel, rfl, rfl⟩
  obtain ⟨ty, t1, t2, t3⟩ := hty
  refine va_put (D := D) (ci := o.1) (C := C) (T := T) (N := N) (ty := ty) (v := .int v) hC.1 hC.2.1 hC.2.2.2.2.1 c1 ty0 c2 c3 hC.2.2.2.1 hC.2.2.2.2.2.2.2.2.1 hH.1 hH.2.1 hH.2.2 c ((pw_cs_at (pw_shp_lt hs)).trans (by rw [pw_cel_o hs])) hv e.2.2.2.1 a1 hlink (fun y hy => a3 ▸ hy) b3 t1 t2 t3 (by rw [List.length_map, List.length_zipIdx, b1]; exact a1) hd (fun H1 locs1 hP hD hS => ?_)
  rw [pw_fs_set hf, pw_cs_set (m' := pw_up mm c e.2.2.2.1 v) (pw_cel_o hs) (fun c' hc => (pw_up_ne hc).symm)] at hP hD
  exact hk hC H1 locs1 ⟨hP, hD, hS⟩ ls hl
theorem pw_o_iaload {c n b : Nat} {i : Int32} (hd : decode M.2.1 pc = .ok (.iaload, 1)) (hs : pw_shp c = some (.inr (0, n, b))) (hi : vp_in i n) (hk : pw_V x M d Z (pc + 1) lv (.int (mm c i.toNatClampNeg) :: r) mm) : pw_V x M d Z pc lv (.int i :: .ref c :: r) mm := by
  obtain ⟨p, l, ee, R, s, m, args, below, meth, cc, D, ad, ⟨cI, cZ, cE⟩, A, X, nc, ns⟩ := x
  intro hC H locs hH ls hl
  exact va_iald hC.1 hC.2.1 hC.2.2.2.2.2.2.2.2.1 hH.1 c 0 ((pw_cs_at (pw_shp_lt hs)).trans (by rw [pw_cel_i hs])) rfl hi hd (hk hC H locs hH ls hl)
theorem pw_o_baload {c n b : Nat} {i : Int32} (hd : decode M.2.1 pc = .ok (.baload, 1)) (hs : pw_shp c = some (.inr (1, n, b))) (hi : vp_in i n) (hk : pw_V x M d Z (pc + 1) lv (.int (mm c i.toNatClampNeg) :: r) mm) : pw_V x M d Z pc lv (.int i :: .ref c :: r) mm := by
  obtain ⟨p, l, ee, R, s, m, args, below, meth, cc, D, ad, ⟨cI, cZ, cE⟩, A, X, nc, ns⟩ := x
  intro hC H locs hH ls hl
  exact va_zald hC.1 hC.2.1 hC.2.2.2.2.2.2.2.2.1 hH.1 c 1 ((pw_cs_at (pw_shp_lt hs)).trans (by rw [pw_cel_z hs])) rfl hi hd (hk hC H locs hH ls hl)
theorem pw_o_aaload {c n b : Nat} {i : Int32} (hd : decode M.2.1 pc = .ok (.aaload, 1)) (hs : pw_shp c = some (.inr (2, n, b))) (hi : vp_in i n) (hk : pw_V x M d Z (pc + 1) lv (.ref (b + 4 * i.toNatClampNeg) :: r) mm) : pw_V x M d Z pc lv (.int i :: .ref c :: r) mm := by
  obtain ⟨p, l, ee, R, s, m, args, below, meth, cc, D, ad, ⟨cI, cZ, cE⟩, A, X, nc, ns⟩ := x
  intro hC H locs hH ls hl
  exact va_aldq (f := fun j => some (ad (b + 4 * j))) hC.1 hC.2.1 hC.2.2.2.2.2.2.2.2.1 hH.1 c 2 ((pw_cs_at (pw_shp_lt hs)).trans (by rw [pw_cel_e hs])) rfl hi hd (hk hC H locs hH ls hl)
theorem pw_o_iastore {c n b : Nat} {i v : Int32} (hd : decode M.2.1 pc = .ok (.iastore, 1)) (hs : pw_shp c = some (.inr (0, n, b))) (hi : vp_in i n) (hk : pw_V x M d Z (pc + 1) lv r (pw_up mm c i.toNatClampNeg v)) : pw_V x M d Z pc lv (.int v :: .int i :: .ref c :: r) mm := by
  obtain ⟨p, l, ee, R, s, m, args, below, meth, cc, D, ad, ⟨cI, cZ, cE⟩, A, X, nc, ns⟩ := x
  intro hC H locs hH ls hl
  refine va_iast hC.1 hC.2.1 hC.2.2.2.2.2.2.2.2.1 hH.1 hH.2.1 hH.2.2 c 0 ((pw_cs_at (pw_shp_lt hs)).trans (by rw [pw_cel_i hs])) rfl hi hd (fun H1 locs1 hP hD hS => ?_)
  rw [pw_cs_set (m' := pw_up mm c i.toNatClampNeg v) (by rw [pw_cel_i hs, pw_up_eq]) (fun c' hc => (pw_up_ne hc).symm)] at hP hD
  exact hk hC H1 locs1 ⟨hP, hD, hS⟩ ls hl
theorem pw_o_bastore {c n b : Nat} {i v : Int32} (hd : decode M.2.1 pc = .ok (.bastore, 1)) (hs : pw_shp c = some (.inr (1, n, b))) (hv : v = 0 ∨ v = 1) (hi : vp_in i n) (hk : pw_V x M d Z (pc + 1) lv r (pw_up mm c i.toNatClampNeg v)) : pw_V x M d Z pc lv (.int v :: .int i :: .ref c :: r) mm := by
  obtain ⟨p, l, ee, R, s, m, args, below, meth, cc, D, ad, ⟨cI, cZ, cE⟩, A, X, nc, ns⟩ := x
  intro hC H locs hH ls hl
  refine va_zast hC.1 hC.2.1 hC.2.2.2.2.2.2.2.2.1 hH.1 hH.2.1 hH.2.2 c 1 ((pw_cs_at (pw_shp_lt hs)).trans (by rw [pw_cel_z hs])) rfl hi hd (fun H1 locs1 hP hD hS => ?_)
  have hn : vp_nar .boolean v = v := by unfold vp_nar; rw [(pw_z01 hv).1]
  rw [hn, pw_cs_set (m' := pw_up mm c i.toNatClampNeg v) (by rw [pw_cel_z hs, pw_up_eq]) (fun c' hc => (pw_up_ne hc).symm)] at hP hD
  exact hk hC H1 locs1 ⟨hP, hD, hS⟩ ls hl
theorem pw_o_alen {c n b : Nat} (hd : decode M.2.1 pc = .ok (.arraylength, 1)) (hs : pw_shp c = some (.inr (0, n, b))) (hk : pw_V x M d Z (pc + 1) lv (.int (Int32.ofNat n) :: r) mm) : pw_V x M d Z pc lv (.ref c :: r) mm := by
  obtain ⟨p, l, ee, R, s, m, args, below, meth, cc, D, ad, ⟨cI, cZ, cE⟩, A, X, nc, ns⟩ := x
  intro hC H locs hH ls hl
  exact va_alen (x := (n, .inl (mm c))) hC.1 hC.2.1 hC.2.2.2.2.2.2.2.2.1 hH.1 c 0 ((pw_cs_at (pw_shp_lt hs)).trans (by rw [pw_cel_i hs])) (ty := .int) rfl rfl hd (hk hC H locs hH ls hl)
end PWF
