def G_ob (A : pw_m) (w : Nat) (a b : Int32) : pw_m :=
  if w = 0 then G_lay A a else if w = 1 then G_ns A (pw_c a) (nI 1) b else if w = 2 then G_ns A (pw_c a) (nI 2) b else if w = 3 then G_ns A (pw_c a) (nI 3) b else if w = 4 then G_ns A (pw_c a) (nI 4) (nI 0)
  else if w = 5 then G_ak A (pw_c (A 4 1)) (nI 0) a b else if w = 6 then G_ak A (pw_c (A 4 1)) (nI 1) a b else if w = 7 then G_ak A (pw_c (A 4 1)) (nI 2) a b
  else if w = 8 then G_me A (pw_c a) (pw_c b) else if w = 9 then pw_up (pw_up A 4 8 a) 4 9 b else if w = 10 then pw_up A 4 10 a else pw_zI A 10 6

set_option maxHeartbeats 4000000 in
set_option maxRecDepth 100000 in
theorem c_obey (wx : Nat) (hw : wx < 12) (a b : Int32) (mm : pw_m) (nx kx : Nat) (hn : mm 4 0 = nI nx) (hn8 : nx ≤ 8) (hk : mm 4 1 = nI kx) (hk6 : kx ≤ 6) (h1s : 1 ≤ wx → wx ≤ 4 → ∃ sx, a = nI sx ∧ sx < nx) (h2s : 5 ≤ wx → wx ≤ 7 → kx < 6) (h3s : wx = 8 → ∃ ax bx, a = nI ax ∧ b = nI bx ∧ ax < kx ∧ bx < kx) : pw_Ct 2 yX5_obey m_X5_obey [.ref 4, .int (nI wx), .int a, .int b] mm (fun r' m' => r' = none ∧ m' = G_ob mm wx a b) := by
  refine pw_ct (by decide +kernel) rfl (Nat.le_of_ble_eq_true rfl) (fun x => ?_)
  generalize hZ : pw_Z x _ = Z
  show pw_V x m_X5_obey 2 Z 0 [(0, .ref 4), (1, .int (nI wx)), (2, .int a), (3, .int b)] [] mm
  refine pw_blk (pc' := 1) [.iload 1] (by decide +kernel) ?_
  show pw_V x m_X5_obey 2 Z 1 [(0, .ref 4), (1, .int (nI wx)), (2, .int a), (3, .int b)] [.int (nI wx)] mm
  refine pw_tsw (tgt := 168) (dflt := 167) (lo := 0) (hi := 10) (offs := #[59, 67, 77, 87, 97, 107, 117, 127, 137, 146, 159]) (len := 59) (by decide +kernel) (by decide) (fun h1 => ?_) (fun j hj h1 => ?_)
  · have n1_0 : ¬ wx = 0 := fun q => by rw [q] at h1; revert h1; decide
    have n1_1 : ¬ wx = 1 := fun q => by rw [q] at h1; revert h1; decide
    have n1_2 : ¬ wx = 2 := fun q => by rw [q] at h1; revert h1; decide
    have n1_3 : ¬ wx = 3 := fun q => by rw [q] at h1; revert h1; decide
    have n1_4 : ¬ wx = 4 := fun q => by rw [q] at h1; revert h1; decide
    have n1_5 : ¬ wx = 5 := fun q => by rw [q] at h1; revert h1; decide
    have n1_6 : ¬ wx = 6 := fun q => by rw [q] at h1; revert h1; decide
    have n1_7 : ¬ wx = 7 := fun q => by rw [q] at h1; revert h1; decide
    have n1_8 : ¬ wx = 8 := fun q => by rw [q] at h1; revert h1; decide
    have n1_9 : ¬ wx = 9 := fun q => by rw [q] at h1; revert h1; decide
    have n1_10 : ¬ wx = 10 := fun q => by rw [q] at h1; revert h1; decide
    refine pw_blk (pc' := 169) [.aload 0] (by decide +kernel) ?_
    show pw_V x m_X5_obey 2 Z 169 [(0, .ref 4), (1, .int (nI wx)), (2, .int a), (3, .int b)] [.ref 4] mm
    refine pw_cV (vs := []) (rest := []) k_X5_makePeace (c_makePeace mm) l_5_55 rfl rfl rfl rfl (by omega) (Nat.le_of_ble_eq_true rfl) (by decide +kernel) ?_
    rintro _ m1 ⟨rfl, e1⟩
    rw [e1]
    clear e1 m1
    show pw_V x m_X5_obey 2 Z 172 [(0, .ref 4), (1, .int (nI wx)), (2, .int a), (3, .int b)] [] (pw_zI mm 10 6)
    rw [← hZ]
    refine pw_rv (by decide +kernel) ?_
    refine ⟨rfl, ?_⟩
    have ck : pw_c (nI kx) = kx := pw_c_nI (by omega)
    unfold G_ob
    simp [hk, ck, n1_0, n1_1, n1_2, n1_3, n1_4, n1_5, n1_6, n1_7, n1_8, n1_9, n1_10]
    try (first | rfl | (rw [pw_c_nI (by omega)]; done) | (rw [pw_c_nI (by omega), pw_c_nI (by omega)]; done))
  · match j, hj, h1 with
    | 0, hj, h1 =>
      refine ⟨59, 60, rfl, by decide, ?_⟩
      have e1 : nI wx = nI 0 := Int32.toInt_inj.mp (by rw [h1]; rfl)
      have n1 : wx = 0 := (nI_eq (by omega) (by omega)).mp e1
      refine pw_blk (pc' := 62) [.aload 0, .iload 2] (by decide +kernel) ?_
      show pw_V x m_X5_obey 2 Z 62 [(0, .ref 4), (1, .int (nI wx)), (2, .int a), (3, .int b)] [.int a, .ref 4] mm
      refine pw_cV (vs := [.int a]) (rest := []) k_X5_layTable (c_layTable a mm) l_5_34 rfl rfl rfl rfl (by omega) (Nat.le_of_ble_eq_true rfl) (by decide +kernel) ?_
      rintro _ m1 ⟨rfl, e1⟩
      rw [e1]
      clear e1 m1
      show pw_V x m_X5_obey 2 Z 65 [(0, .ref 4), (1, .int (nI wx)), (2, .int a), (3, .int b)] [] (G_lay mm a)
      refine pw_goto (tgt := 172) (off := 107) (by decide +kernel) (by decide) ?_
      rw [← hZ]
      refine pw_rv (by decide +kernel) ?_
      refine ⟨rfl, ?_⟩
      have ck : pw_c (nI kx) = kx := pw_c_nI (by omega)
      unfold G_ob
      simp [hk, ck, n1]
      try (first | rfl | (rw [pw_c_nI (by omega)]; done) | (rw [pw_c_nI (by omega), pw_c_nI (by omega)]; done))
    | 1, hj, h1 =>
      refine ⟨67, 68, rfl, by decide, ?_⟩
      have e1 : nI wx = nI 1 := Int32.toInt_inj.mp (by rw [h1]; rfl)
      have n1 : wx = 1 := (nI_eq (by omega) (by omega)).mp e1
      obtain ⟨sx, ea, hs⟩ := h1s (by omega) (by omega)
      subst ea
      refine pw_blk (pc' := 72) [.aload 0, .iload 2, .iconst 1, .iload 3] (by decide +kernel) ?_
      show pw_V x m_X5_obey 2 Z 72 [(0, .ref 4), (1, .int (nI wx)), (2, .int (nI sx)), (3, .int b)] [.int b, .int (nI 1), .int (nI sx), .ref 4] mm
      refine pw_cV (vs := [.int (nI sx), .int (nI 1), .int b]) (rest := []) k_X5_nameSeat (c_nameSeat sx (nI 1) b mm nx hn hn8 hs) l_5_38 rfl rfl rfl rfl (by omega) (Nat.le_of_ble_eq_true rfl) (by decide +kernel) ?_
      rintro _ m1 ⟨rfl, e1⟩
      rw [e1]
      clear e1 m1
      show pw_V x m_X5_obey 2 Z 75 [(0, .ref 4), (1, .int (nI wx)), (2, .int (nI sx)), (3, .int b)] [] (G_ns mm sx (nI 1) b)
      refine pw_goto (tgt := 172) (off := 97) (by decide +kernel) (by decide) ?_
      rw [← hZ]
      refine pw_rv (by decide +kernel) ?_
      refine ⟨rfl, ?_⟩
      have ck : pw_c (nI kx) = kx := pw_c_nI (by omega)
      unfold G_ob
      simp [hk, ck, n1]
      try (first | rfl | (rw [pw_c_nI (by omega)]; done) | (rw [pw_c_nI (by omega), pw_c_nI (by omega)]; done))
    | 2, hj, h1 =>
      refine ⟨77, 78, rfl, by decide, ?_⟩
      have e1 : nI wx = nI 2 := Int32.toInt_inj.mp (by rw [h1]; rfl)
      have n1 : wx = 2 := (nI_eq (by omega) (by omega)).mp e1
      obtain ⟨sx, ea, hs⟩ := h1s (by omega) (by omega)
      subst ea
      refine pw_blk (pc' := 82) [.aload 0, .iload 2, .iconst 2, .iload 3] (by decide +kernel) ?_
      show pw_V x m_X5_obey 2 Z 82 [(0, .ref 4), (1, .int (nI wx)), (2, .int (nI sx)), (3, .int b)] [.int b, .int (nI 2), .int (nI sx), .ref 4] mm
      refine pw_cV (vs := [.int (nI sx), .int (nI 2), .int b]) (rest := []) k_X5_nameSeat (c_nameSeat sx (nI 2) b mm nx hn hn8 hs) l_5_38 rfl rfl rfl rfl (by omega) (Nat.le_of_ble_eq_true rfl) (by decide +kernel) ?_
      rintro _ m1 ⟨rfl, e1⟩
      rw [e1]
      clear e1 m1
      show pw_V x m_X5_obey 2 Z 85 [(0, .ref 4), (1, .int (nI wx)), (2, .int (nI sx)), (3, .int b)] [] (G_ns mm sx (nI 2) b)
      refine pw_goto (tgt := 172) (off := 87) (by decide +kernel) (by decide) ?_
      rw [← hZ]
      refine pw_rv (by decide +kernel) ?_
      refine ⟨rfl, ?_⟩
      have ck : pw_c (nI kx) = kx := pw_c_nI (by omega)
      unfold G_ob
      simp [hk, ck, n1]
      try (first | rfl | (rw [pw_c_nI (by omega)]; done) | (rw [pw_c_nI (by omega), pw_c_nI (by omega)]; done))
    | 3, hj, h1 =>
      refine ⟨87, 88, rfl, by decide, ?_⟩
      have e1 : nI wx = nI 3 := Int32.toInt_inj.mp (by rw [h1]; rfl)
      have n1 : wx = 3 := (nI_eq (by omega) (by omega)).mp e1
      obtain ⟨sx, ea, hs⟩ := h1s (by omega) (by omega)
      subst ea
      refine pw_blk (pc' := 92) [.aload 0, .iload 2, .iconst 3, .iload 3] (by decide +kernel) ?_
      show pw_V x m_X5_obey 2 Z 92 [(0, .ref 4), (1, .int (nI wx)), (2, .int (nI sx)), (3, .int b)] [.int b, .int (nI 3), .int (nI sx), .ref 4] mm
      refine pw_cV (vs := [.int (nI sx), .int (nI 3), .int b]) (rest := []) k_X5_nameSeat (c_nameSeat sx (nI 3) b mm nx hn hn8 hs) l_5_38 rfl rfl rfl rfl (by omega) (Nat.le_of_ble_eq_true rfl) (by decide +kernel) ?_
      rintro _ m1 ⟨rfl, e1⟩
      rw [e1]
      clear e1 m1
      show pw_V x m_X5_obey 2 Z 95 [(0, .ref 4), (1, .int (nI wx)), (2, .int (nI sx)), (3, .int b)] [] (G_ns mm sx (nI 3) b)
      refine pw_goto (tgt := 172) (off := 77) (by decide +kernel) (by decide) ?_
      rw [← hZ]
      refine pw_rv (by decide +kernel) ?_
      refine ⟨rfl, ?_⟩
      have ck : pw_c (nI kx) = kx := pw_c_nI (by omega)
      unfold G_ob
      simp [hk, ck, n1]
      try (first | rfl | (rw [pw_c_nI (by omega)]; done) | (rw [pw_c_nI (by omega), pw_c_nI (by omega)]; done))
    | 4, hj, h1 =>
      refine ⟨97, 98, rfl, by decide, ?_⟩
      have e1 : nI wx = nI 4 := Int32.toInt_inj.mp (by rw [h1]; rfl)
      have n1 : wx = 4 := (nI_eq (by omega) (by omega)).mp e1
      obtain ⟨sx, ea, hs⟩ := h1s (by omega) (by omega)
      subst ea
      refine pw_blk (pc' := 102) [.aload 0, .iload 2, .iconst 4, .iconst 0] (by decide +kernel) ?_
      show pw_V x m_X5_obey 2 Z 102 [(0, .ref 4), (1, .int (nI wx)), (2, .int (nI sx)), (3, .int b)] [.int (nI 0), .int (nI 4), .int (nI sx), .ref 4] mm
      refine pw_cV (vs := [.int (nI sx), .int (nI 4), .int (nI 0)]) (rest := []) k_X5_nameSeat (c_nameSeat sx (nI 4) (nI 0) mm nx hn hn8 hs) l_5_38 rfl rfl rfl rfl (by omega) (Nat.le_of_ble_eq_true rfl) (by decide +kernel) ?_
      rintro _ m1 ⟨rfl, e1⟩
      rw [e1]
      clear e1 m1
      show pw_V x m_X5_obey 2 Z 105 [(0, .ref 4), (1, .int (nI wx)), (2, .int (nI sx)), (3, .int b)] [] (G_ns mm sx (nI 4) (nI 0))
      refine pw_goto (tgt := 172) (off := 67) (by decide +kernel) (by decide) ?_
      rw [← hZ]
      refine pw_rv (by decide +kernel) ?_
      refine ⟨rfl, ?_⟩
      have ck : pw_c (nI kx) = kx := pw_c_nI (by omega)
      unfold G_ob
      simp [hk, ck, n1]
      try (first | rfl | (rw [pw_c_nI (by omega)]; done) | (rw [pw_c_nI (by omega), pw_c_nI (by omega)]; done))
    | 5, hj, h1 =>
      refine ⟨107, 108, rfl, by decide, ?_⟩
      have e1 : nI wx = nI 5 := Int32.toInt_inj.mp (by rw [h1]; rfl)
      have n1 : wx = 5 := (nI_eq (by omega) (by omega)).mp e1
      have h6 := h2s (by omega) (by omega)
      refine pw_blk (pc' := 112) [.aload 0, .iconst 0, .iload 2, .iload 3] (by decide +kernel) ?_
      show pw_V x m_X5_obey 2 Z 112 [(0, .ref 4), (1, .int (nI wx)), (2, .int a), (3, .int b)] [.int b, .int a, .int (nI 0), .ref 4] mm
      refine pw_cV (vs := [.int (nI 0), .int a, .int b]) (rest := []) k_X5_addKnight (c_addKnight (nI 0) a b mm kx hk h6) l_5_42 rfl rfl rfl rfl (by omega) (Nat.le_of_ble_eq_true rfl) (by decide +kernel) ?_
      rintro _ m1 ⟨rfl, e1⟩
      rw [e1]
      clear e1 m1
      show pw_V x m_X5_obey 2 Z 115 [(0, .ref 4), (1, .int (nI wx)), (2, .int a), (3, .int b)] [] (G_ak mm kx (nI 0) a b)
      refine pw_goto (tgt := 172) (off := 57) (by decide +kernel) (by decide) ?_
      rw [← hZ]
      refine pw_rv (by decide +kernel) ?_
      refine ⟨rfl, ?_⟩
      have ck : pw_c (nI kx) = kx := pw_c_nI (by omega)
      unfold G_ob
      simp [hk, ck, n1]
      try (first | rfl | (rw [pw_c_nI (by omega)]; done) | (rw [pw_c_nI (by omega), pw_c_nI (by omega)]; done))
    | 6, hj, h1 =>
      refine ⟨117, 118, rfl, by decide, ?_⟩
      have e1 : nI wx = nI 6 := Int32.toInt_inj.mp (by rw [h1]; rfl)
      have n1 : wx = 6 := (nI_eq (by omega) (by omega)).mp e1
      have h6 := h2s (by omega) (by omega)
      refine pw_blk (pc' := 122) [.aload 0, .iconst 1, .iload 2, .iload 3] (by decide +kernel) ?_
      show pw_V x m_X5_obey 2 Z 122 [(0, .ref 4), (1, .int (nI wx)), (2, .int a), (3, .int b)] [.int b, .int a, .int (nI 1), .ref 4] mm
      refine pw_cV (vs := [.int (nI 1), .int a, .int b]) (rest := []) k_X5_addKnight (c_addKnight (nI 1) a b mm kx hk h6) l_5_42 rfl rfl rfl rfl (by omega) (Nat.le_of_ble_eq_true rfl) (by decide +kernel) ?_
      rintro _ m1 ⟨rfl, e1⟩
      rw [e1]
      clear e1 m1
      show pw_V x m_X5_obey 2 Z 125 [(0, .ref 4), (1, .int (nI wx)), (2, .int a), (3, .int b)] [] (G_ak mm kx (nI 1) a b)
      refine pw_goto (tgt := 172) (off := 47) (by decide +kernel) (by decide) ?_
      rw [← hZ]
      refine pw_rv (by decide +kernel) ?_
      refine ⟨rfl, ?_⟩
      have ck : pw_c (nI kx) = kx := pw_c_nI (by omega)
      unfold G_ob
      simp [hk, ck, n1]
      try (first | rfl | (rw [pw_c_nI (by omega)]; done) | (rw [pw_c_nI (by omega), pw_c_nI (by omega)]; done))
    | 7, hj, h1 =>
      refine ⟨127, 128, rfl, by decide, ?_⟩
      have e1 : nI wx = nI 7 := Int32.toInt_inj.mp (by rw [h1]; rfl)
      have n1 : wx = 7 := (nI_eq (by omega) (by omega)).mp e1
      have h6 := h2s (by omega) (by omega)
      refine pw_blk (pc' := 132) [.aload 0, .iconst 2, .iload 2, .iload 3] (by decide +kernel) ?_
      show pw_V x m_X5_obey 2 Z 132 [(0, .ref 4), (1, .int (nI wx)), (2, .int a), (3, .int b)] [.int b, .int a, .int (nI 2), .ref 4] mm
      refine pw_cV (vs := [.int (nI 2), .int a, .int b]) (rest := []) k_X5_addKnight (c_addKnight (nI 2) a b mm kx hk h6) l_5_42 rfl rfl rfl rfl (by omega) (Nat.le_of_ble_eq_true rfl) (by decide +kernel) ?_
      rintro _ m1 ⟨rfl, e1⟩
      rw [e1]
      clear e1 m1
      show pw_V x m_X5_obey 2 Z 135 [(0, .ref 4), (1, .int (nI wx)), (2, .int a), (3, .int b)] [] (G_ak mm kx (nI 2) a b)
      refine pw_goto (tgt := 172) (off := 37) (by decide +kernel) (by decide) ?_
      rw [← hZ]
      refine pw_rv (by decide +kernel) ?_
      refine ⟨rfl, ?_⟩
      have ck : pw_c (nI kx) = kx := pw_c_nI (by omega)
      unfold G_ob
      simp [hk, ck, n1]
      try (first | rfl | (rw [pw_c_nI (by omega)]; done) | (rw [pw_c_nI (by omega), pw_c_nI (by omega)]; done))
    | 8, hj, h1 =>
      refine ⟨137, 138, rfl, by decide, ?_⟩
      have e1 : nI wx = nI 8 := Int32.toInt_inj.mp (by rw [h1]; rfl)
      have n1 : wx = 8 := (nI_eq (by omega) (by omega)).mp e1
      obtain ⟨ax, bx, ea, eb, ha, hb⟩ := h3s (by omega)
      subst ea
      subst eb
      refine pw_blk (pc' := 141) [.aload 0, .iload 2, .iload 3] (by decide +kernel) ?_
      show pw_V x m_X5_obey 2 Z 141 [(0, .ref 4), (1, .int (nI wx)), (2, .int (nI ax)), (3, .int (nI bx))] [.int (nI bx), .int (nI ax), .ref 4] mm
      refine pw_cV (vs := [.int (nI ax), .int (nI bx)]) (rest := []) k_X5_makeEnemies (c_makeEnemies ax bx mm kx hk hk6 ha hb) l_5_45 rfl rfl rfl rfl (by omega) (Nat.le_of_ble_eq_true rfl) (by decide +kernel) ?_
      rintro _ m1 ⟨rfl, e1⟩
      rw [e1]
      clear e1 m1
      show pw_V x m_X5_obey 2 Z 144 [(0, .ref 4), (1, .int (nI wx)), (2, .int (nI ax)), (3, .int (nI bx))] [] (G_me mm ax bx)
      refine pw_goto (tgt := 172) (off := 28) (by decide +kernel) (by decide) ?_
      rw [← hZ]
      refine pw_rv (by decide +kernel) ?_
      refine ⟨rfl, ?_⟩
      have ck : pw_c (nI kx) = kx := pw_c_nI (by omega)
      unfold G_ob
      simp [hk, ck, n1]
      try (first | rfl | (rw [pw_c_nI (by omega)]; done) | (rw [pw_c_nI (by omega), pw_c_nI (by omega)]; done))
    | 9, hj, h1 =>
      refine ⟨146, 147, rfl, by decide, ?_⟩
      have e1 : nI wx = nI 9 := Int32.toInt_inj.mp (by rw [h1]; rfl)
      have n1 : wx = 9 := (nI_eq (by omega) (by omega)).mp e1
      refine pw_blk (pc' := 157) [.aload 0, .iload 2, .putfield 508, .aload 0, .iload 3, .putfield 509] (by decide +kernel) ?_
      show pw_V x m_X5_obey 2 Z 157 [(0, .ref 4), (1, .int (nI wx)), (2, .int a), (3, .int b)] [] (pw_up (pw_up mm 4 8 a) 4 9 b)
      refine pw_goto (tgt := 172) (off := 15) (by decide +kernel) (by decide) ?_
      rw [← hZ]
      refine pw_rv (by decide +kernel) ?_
      refine ⟨rfl, ?_⟩
      have ck : pw_c (nI kx) = kx := pw_c_nI (by omega)
      unfold G_ob
      simp [hk, ck, n1]
      try (first | rfl | (rw [pw_c_nI (by omega)]; done) | (rw [pw_c_nI (by omega), pw_c_nI (by omega)]; done))
    | 10, hj, h1 =>
      refine ⟨159, 160, rfl, by decide, ?_⟩
      have e1 : nI wx = nI 10 := Int32.toInt_inj.mp (by rw [h1]; rfl)
      have n1 : wx = 10 := (nI_eq (by omega) (by omega)).mp e1
      refine pw_blk (pc' := 165) [.aload 0, .iload 2, .putfield 510] (by decide +kernel) ?_
      show pw_V x m_X5_obey 2 Z 165 [(0, .ref 4), (1, .int (nI wx)), (2, .int a), (3, .int b)] [] (pw_up mm 4 10 a)
      refine pw_goto (tgt := 172) (off := 7) (by decide +kernel) (by decide) ?_
      rw [← hZ]
      refine pw_rv (by decide +kernel) ?_
      refine ⟨rfl, ?_⟩
      have ck : pw_c (nI kx) = kx := pw_c_nI (by omega)
      unfold G_ob
      simp [hk, ck, n1]
      try (first | rfl | (rw [pw_c_nI (by omega)]; done) | (rw [pw_c_nI (by omega), pw_c_nI (by omega)]; done))
    | j + 11, hj, h1 => exact absurd hj (by omega)
