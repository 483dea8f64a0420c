/-! what is told stays well; the text's functions over memories with the same text -/
theorem pw_up_fine {A : pw_m} {c d j k N : Nat} {v : Int32} (h : pw_fine (A c j) N) (hv : d = c → k = j → pw_fine v N) : pw_fine (pw_up A d k v c j) N := by
  unfold pw_up
  by_cases q : c = d
  · subst q
    rw [if_pos rfl]
    unfold upd
    by_cases q2 : j = k
    · subst q2; rw [if_pos rfl]; exact hv rfl rfl
    · rw [if_neg q2]; exact h
  · rw [if_neg q]; exact h
theorem pw_up_fino {A : pw_m} {c d j k N : Nat} {v : Int32} (h : pw_fino (A c j) N) (hv : d = c → k = j → pw_fino v N) : pw_fino (pw_up A d k v c j) N := by
  unfold pw_up
  by_cases q : c = d
  · subst q
    rw [if_pos rfl]
    unfold upd
    by_cases q2 : j = k
    · subst q2; rw [if_pos rfl]; exact hv rfl rfl
    · rw [if_neg q2]; exact h
  · rw [if_neg q]; exact h
theorem pw_okT_up {A : pw_m} {d k : Nat} {v : Int32} (h : pw_okT A) (h40 : d = 4 → k = 0 → pw_fine v 9) (h41 : d = 4 → k = 1 → pw_fine v 7) (h5 : d = 5 → pw_fine v 5) (h6 : d = 6 → pw_fine v 10) (h7 : d = 7 → pw_fine v 3) (h8 : d = 8 → pw_fine v 10) (h9 : d = 9 → pw_fine v 10) (h10 : d = 10 → pw_fine v 64) (h48 : d = 4 → k = 8 → pw_fine v 8) (h49 : d = 4 → k = 9 → pw_fine v 8) (h4a : d = 4 → k = 10 → pw_fino v 6) : pw_okT (pw_up A d k v) := by
  obtain ⟨⟨a1, a2⟩, b, c, e1, e2, e3⟩ := h
  exact ⟨⟨pw_up_fine a1 h40, pw_up_fine a2 h41⟩, fun j hj => ⟨pw_up_fine (b j hj).1 (fun q _ => h5 q), pw_up_fine (b j hj).2 (fun q _ => h6 q)⟩, fun j hj => ⟨⟨pw_up_fine (c j hj).1.1 (fun q _ => h7 q), pw_up_fine (c j hj).1.2 (fun q _ => h8 q)⟩, pw_up_fine (c j hj).2.1 (fun q _ => h9 q), pw_up_fine (c j hj).2.2 (fun q _ => h10 q)⟩, pw_up_fine e1 h48, pw_up_fine e2 h49, pw_up_fino e3 h4a⟩
theorem pw_okT_zI {A : pw_m} (h : pw_okT A) : ∀ i, pw_okT (pw_zI A 10 i) := by
  intro i
  induction i with
  | zero => exact h
  | succ i ih =>
    have hv : pw_fine (nI 0) 64 := pw_fine_nI (by omega) (by omega)
    rw [pw_zI]
    refine pw_okT_up ih ?_ ?_ ?_ ?_ ?_ ?_ ?_ ?_ ?_ ?_ ?_ <;> intros <;> first | omega | exact hv
theorem pw_okT_zJ {A : pw_m} (h : pw_okT A) : ∀ i, pw_okT (pw_zJ A i) := by
  intro i
  induction i with
  | zero => exact h
  | succ i ih =>
    have h5 : pw_fine (nI 0) 5 := pw_fine_nI (by omega) (by omega)
    have h6 : pw_fine (nI 0) 10 := pw_fine_nI (by omega) (by omega)
    rw [pw_zJ]
    refine pw_okT_up (pw_okT_up ih ?_ ?_ ?_ ?_ ?_ ?_ ?_ ?_ ?_ ?_ ?_) ?_ ?_ ?_ ?_ ?_ ?_ ?_ ?_ ?_ ?_ ?_ <;> intros <;> first | omega | exact h5 | exact h6
theorem pw_okT_lay {A : pw_m} {a : Nat} (h : pw_okT A) (ha : a < 9) : pw_okT (G_lay A (nI a)) := by
  have v9 : pw_fine (nI a) 9 := pw_fine_nI ha (by omega)
  have v7 : pw_fine (nI 0) 7 := pw_fine_nI (by omega) (by omega)
  have v8 : pw_fine (nI 0) 8 := pw_fine_nI (by omega) (by omega)
  have v6 : pw_fino (-1) 6 := pw_fino_o (q := none) (fun _ z => by cases z) (by omega)
  have h1 : pw_okT (pw_up A 4 0 (nI a)) := by
    refine pw_okT_up h ?_ ?_ ?_ ?_ ?_ ?_ ?_ ?_ ?_ ?_ ?_ <;> intros <;> first | omega | exact v9
  have h2 : pw_okT (pw_up (pw_up A 4 0 (nI a)) 4 1 (nI 0)) := by
    refine pw_okT_up h1 ?_ ?_ ?_ ?_ ?_ ?_ ?_ ?_ ?_ ?_ ?_ <;> intros <;> first | omega | exact v7
  have h3 := pw_okT_zI (pw_okT_zJ h2 8) 6
  unfold G_lay
  refine pw_okT_up (pw_okT_up (pw_okT_up h3 ?_ ?_ ?_ ?_ ?_ ?_ ?_ ?_ ?_ ?_ ?_) ?_ ?_ ?_ ?_ ?_ ?_ ?_ ?_ ?_ ?_ ?_) ?_ ?_ ?_ ?_ ?_ ?_ ?_ ?_ ?_ ?_ ?_ <;> intros <;> first | omega | exact v8 | exact v6
theorem pw_okT_ns {A : pw_m} {s : Nat} {q v : Int32} (h : pw_okT A) (hq : pw_fine q 5) (hv : pw_fine v 10) : pw_okT (G_ns A s q v) := by
  unfold G_ns
  refine pw_okT_up (pw_okT_up h ?_ ?_ ?_ ?_ ?_ ?_ ?_ ?_ ?_ ?_ ?_) ?_ ?_ ?_ ?_ ?_ ?_ ?_ ?_ ?_ ?_ ?_ <;> intros <;> first | omega | exact hq | exact hv
theorem pw_okT_ak {A : pw_m} {k : Nat} {q r u : Int32} (h : pw_okT A) (hk : k < 6) (hq : pw_fine q 3) (hr : pw_fine r 10) (hu : pw_fine u 10) : pw_okT (G_ak A k q r u) := by
  have v7 : pw_fine (nI (k + 1)) 7 := pw_fine_nI (by omega) (by omega)
  unfold G_ak
  refine pw_okT_up (pw_okT_up (pw_okT_up (pw_okT_up h ?_ ?_ ?_ ?_ ?_ ?_ ?_ ?_ ?_ ?_ ?_) ?_ ?_ ?_ ?_ ?_ ?_ ?_ ?_ ?_ ?_ ?_) ?_ ?_ ?_ ?_ ?_ ?_ ?_ ?_ ?_ ?_ ?_) ?_ ?_ ?_ ?_ ?_ ?_ ?_ ?_ ?_ ?_ ?_ <;> intros <;> first | omega | exact hq | exact hr | exact hu | exact v7
theorem pw_okT_me1 {A : pw_m} {a b : Nat} (h : pw_okT A) (ha : a < 6) (hb : b < 6) : pw_okT (G_me1 A a b) := by
  have hv : pw_fine (A 10 a ||| nI (2 ^ b)) 64 := by
    obtain ⟨e1, e2⟩ := (h.2.2.1 a ha).2.2
    rw [e1, fa_or]
    exact pw_fine_nI (Nat.or_lt_two_pow (n := 6) e2 (Nat.pow_lt_pow_right (by omega) hb)) (by omega)
  unfold G_me1
  refine pw_okT_up h ?_ ?_ ?_ ?_ ?_ ?_ ?_ ?_ ?_ ?_ ?_ <;> intros <;> first | omega | exact hv
theorem pw_okT_ob {A : pw_m} {s k e : Nat} {p : Nat × Nat × Nat} {B : pw_m} (h : pw_okT B) (hs : B 4 0 = nI s) (hk : B 4 1 = nI k) (hs8 : s ≤ 8) (hk6 : k ≤ 6) (hp : (pw_cz A s k e).2 = some p) : pw_okT (G_o1 B p) := by
  obtain ⟨w, a, b⟩ := p
  obtain ⟨u1, u2, u3, u4, u5⟩ := pw_cz_b hp hs8 hk6
  dsimp only at u1 u2 u3 u4 u5
  have ck : pw_c (B 4 1) = k := by rw [hk]; exact pw_c_nI (by omega)
  have fn : ∀ {x N : Nat}, x < N → N < 2000 → pw_fine (nI x) N := fun h1 h2 => pw_fine_nI h1 (by omega)
  rcases pw_12 u1 with rfl | rfl | rfl | rfl | rfl | rfl | rfl | rfl | rfl | rfl | rfl | rfl
  · exact pw_okT_lay h (u3 (by decide)).2
  · exact pw_okT_ns h (fn (by omega) (by omega)) (fn (u4 (by decide)) (by omega))
  · exact pw_okT_ns h (fn (by omega) (by omega)) (fn (u4 (by decide)) (by omega))
  · exact pw_okT_ns h (fn (by omega) (by omega)) (fn (u4 (by decide)) (by omega))
  · exact pw_okT_ns h (fn (by omega) (by omega)) (fn (by omega) (by omega))
  · exact pw_okT_ak h (by rw [ck]; exact u2 rfl) (fn (by omega) (by omega)) (fn (u3 (by decide)).2 (by omega)) (fn (u4 (by decide)) (by omega))
  · exact pw_okT_ak h (by rw [ck]; exact u2 rfl) (fn (by omega) (by omega)) (fn (u3 (by decide)).2 (by omega)) (fn (u4 (by decide)) (by omega))
  · exact pw_okT_ak h (by rw [ck]; exact u2 rfl) (fn (by omega) (by omega)) (fn (u3 (by decide)).2 (by omega)) (fn (u4 (by decide)) (by omega))
  · have a6 : a < k := (u3 (by decide)).2
    have b6 : b < k := u4 (by decide)
    have ea : pw_c (nI a) = a := pw_c_nI (by omega)
    have eb : pw_c (nI b) = b := pw_c_nI (by omega)
    show pw_okT (G_me B (pw_c (nI a)) (pw_c (nI b)))
    rw [ea, eb]
    exact pw_okT_me1 (pw_okT_me1 h (by omega) (by omega)) (by omega) (by omega)
  · have a8 : a < s := (u3 (by decide)).2
    have va : pw_fine (nI a) 8 := fn (by omega) (by omega)
    have vb : pw_fine (nI b) 8 := fn (u4 (by decide)) (by omega)
    show pw_okT (pw_up (pw_up B 4 8 (nI a)) 4 9 (nI b))
    refine pw_okT_up (pw_okT_up h ?_ ?_ ?_ ?_ ?_ ?_ ?_ ?_ ?_ ?_ ?_) ?_ ?_ ?_ ?_ ?_ ?_ ?_ ?_ ?_ ?_ ?_ <;> intros <;> first | omega | exact va | exact vb
  · have a6 : a < k := (u3 (by decide)).2
    have va : pw_fino (nI a) 6 := pw_fino_o (q := some a) (fun c z => by cases z; omega) (by omega)
    show pw_okT (pw_up B 4 10 (nI a))
    refine pw_okT_up h ?_ ?_ ?_ ?_ ?_ ?_ ?_ ?_ ?_ ?_ ?_ <;> intros <;> first | omega | exact va
  · exact pw_okT_zI h 6
theorem pw_okT_oq {A : pw_m} : ∀ f s k e (B : pw_m), pw_okT B → B 4 0 = nI s → B 4 1 = nI k → s ≤ 8 → k ≤ 6 → pw_okT (G_oq B (pw_cq A f s k e)) := by
  intro f
  induction f with
  | zero => intro s k e B h _ _ _ _; exact h
  | succ f ih =>
    intro s k e B h hs hk hs8 hk6
    rw [pw_cq]
    cases hp : (pw_cz A s k e).2 with
    | none => exact h
    | some p =>
      have h1 := pw_okT_ob h hs hk hs8 hk6 hp
      have h2 := pw_cz_n hp hs8 hk6
      have h3 := G_ob_n (a := p.2.1) (b := p.2.2) (pw_cz_b hp hs8 hk6).1 hs hk hk6
      dsimp only
      unfold G_oq
      rw [List.foldl_cons]
      split
      · exact h1
      · split
        · exact ih _ _ _ _ h1 h3.1 h3.2 h2.1 h2.2
        · exact h1
/-- the same text, the same answers -/
theorem pw_tB_c {A B : pw_m} (h : pw_tx A B) (e : Nat) : pw_tB B e = pw_tB A e := pw_sk_c h e
theorem pw_tT_c {A B : pw_m} (h : pw_tx A B) (e : Nat) : pw_tT B e = pw_tT A e := by unfold pw_tT; rw [pw_sk_c h, pw_tx_g h, h.1]
theorem pw_tE_c {A B : pw_m} (h : pw_tx A B) (e : Nat) : pw_tE B e = pw_tE A e := by unfold pw_tE; rw [pw_sk_c h, pw_tx_g h, h.1, pw_rn_c h]
theorem pw_tS_c {A B : pw_m} (h : pw_tx A B) (e : Nat) : pw_tS B e = pw_tS A e := by unfold pw_tS; rw [pw_tT_c h, pw_tB_c h, pw_tx_g h, h.1]
theorem pw_tN_c {A B : pw_m} (h : pw_tx A B) (e : Nat) : pw_tN B e = pw_tN A e := by unfold pw_tN; rw [pw_tT_c h, pw_tB_c h, pw_tE_c h, pw_dg_c h.1]
theorem pw_tW_c {A B : pw_m} (h : pw_tx A B) (e : Nat) : pw_tW B e = pw_tW A e := by unfold pw_tW; rw [pw_tT_c h, pw_tB_c h, pw_tE_c h, pw_wdF_c h.1]
theorem pw_cz_c {A B : pw_m} (h : pw_tx A B) (s k e : Nat) : pw_cz B s k e = pw_cz A s k e := by unfold pw_cz; rw [pw_tW_c h, pw_tE_c h, pw_tE_c h, pw_tN_c h, pw_tN_c h]
theorem pw_rf_c {A B : pw_m} (h : pw_tx A B) : ∀ f s k e, pw_rf B f s k e = pw_rf A f s k e := by
  intro f
  induction f with
  | zero => intro s k e; rfl
  | succ f ih => intro s k e; rw [pw_rf, pw_rf, pw_cz_c h, pw_tB_c h, pw_tE_c h, pw_tT_c h, pw_tS_c h, pw_tE_c h, pw_tB_c h]; simp only [ih]
theorem pw_cq_c {A B : pw_m} (h : pw_tx A B) : ∀ f s k e, pw_cq B f s k e = pw_cq A f s k e := by
  intro f
  induction f with
  | zero => intro s k e; rfl
  | succ f ih => intro s k e; rw [pw_cq, pw_cq, pw_cz_c h, pw_tE_c h, pw_tT_c h, pw_tS_c h, pw_tE_c h]; simp only [ih]
theorem G_oq_c {A B T : pw_m} : ∀ f s k e (A B : pw_m), (∀ c, 4 ≤ c → c ≤ 10 → B c = A c) → s ≤ 8 → k ≤ 6 → ∀ c, 4 ≤ c → c ≤ 10 → G_oq B (pw_cq T f s k e) c = G_oq A (pw_cq T f s k e) c := by
  intro f
  induction f with
  | zero => intro s k e A B h _ _; exact h
  | succ f ih =>
    intro s k e A B h hs8 hk6 c h1 h2
    rw [pw_cq]
    cases hp : (pw_cz T s k e).2 with
    | none => exact h c h1 h2
    | some p =>
      have b1 := pw_cz_b hp hs8 hk6
      have b2 := pw_cz_n hp hs8 hk6
      have g : ∀ c, 4 ≤ c → c ≤ 10 → G_o1 B p c = G_o1 A p c := fun c q1 q2 => G_ob_c b1.1 h q1 q2
      dsimp only
      unfold G_oq
      rw [List.foldl_cons, List.foldl_cons]
      split
      · exact g c h1 h2
      · split
        · exact ih _ _ _ _ _ g b2.1 b2.2 c h1 h2
        · exact g c h1 h2
theorem G_oq_o {T : pw_m} : ∀ f s k e (A : pw_m), s ≤ 8 → k ≤ 6 → ∀ c, (c < 4 ∨ 10 < c) → G_oq A (pw_cq T f s k e) c = A c := by
  intro f
  induction f with
  | zero => intro s k e A _ _ c _; rfl
  | succ f ih =>
    intro s k e A hs8 hk6 c h
    rw [pw_cq]
    cases hp : (pw_cz T s k e).2 with
    | none => rfl
    | some p =>
      have b1 := pw_cz_b hp hs8 hk6
      have b2 := pw_cz_n hp hs8 hk6
      have g : G_o1 A p c = A c := G_ob_o b1.1 h
      dsimp only
      unfold G_oq
      rw [List.foldl_cons]
      split
      · exact g
      · split
        · exact (ih _ _ _ _ b2.1 b2.2 c h).trans g
        · exact g
/-- frame of a text's call: only the reader's own places change -/
def pw_fx (A B : pw_m) : Prop := (∀ c, c ≠ 1 → c ≠ 2 → B c = A c) ∧ B 2 1 = A 2 1
theorem pw_fx_ok {A B : pw_m} (h : pw_fx A B) (q : pw_ok A) : pw_ok B := pw_ok_f (fun c hc => h.1 c (by omega) (by omega)) h.2 (by rw [h.1 14 (by omega) (by omega)]) q
theorem pw_fx_n {A B : pw_m} (h : pw_fx A B) : pw_n B = pw_n A ∧ pw_k B = pw_k A := by unfold pw_n pw_k; rw [h.1 4 (by omega) (by omega)]; exact ⟨rfl, rfl⟩
theorem pw_fx_tx {A B : pw_m} (h : pw_fx A B) : pw_tx A B := ⟨h.1 3 (by omega) (by omega), h.2⟩
theorem pw_RF_c {A B : pw_m} (h : pw_fx A B) : pw_RF B = pw_RF A := by unfold pw_RF; rw [(pw_fx_n h).1, (pw_fx_n h).2, pw_rf_c (pw_fx_tx h)]
theorem pw_CQ_c {A B : pw_m} (h : pw_fx A B) : pw_CQ B = pw_CQ A := by unfold pw_CQ; rw [(pw_fx_n h).1, (pw_fx_n h).2, pw_cq_c (pw_fx_tx h)]
/-- what table leaves -/
def G_tab (A : pw_m) : pw_m := pw_up (pw_up (pw_up (G_bg (pw_up (G_oq A (pw_CQ A)) 2 1 (nI 0)) (pw_k (G_oq A (pw_CQ A)))) 11 2 (nI 0)) 11 3 (nI 0)) 14 4 (nI 0)
def F_table (A : pw_m) : Int32 := if pw_RF A = none then nI (pw_CQ A).length else -4
def G_table (A : pw_m) : pw_m := if pw_RF A = none then G_tab A else A
theorem pw_bgI_c {A B : pw_m} {c : Nat} (h : B c = A c) (h8 : B 8 = A 8) : ∀ i, pw_bgI B i c = pw_bgI A i c ∧ pw_bgI B i 8 = pw_bgI A i 8 := by
  intro i
  induction i with
  | zero => exact ⟨h, h8⟩
  | succ i ih =>
    rw [pw_bgI, pw_bgI, ih.2]
    exact ⟨pw_up_c (pw_up_c ih.1), pw_up_c (pw_up_c ih.2)⟩
theorem pw_rsI_c {A B : pw_m} {c i : Nat} (h : B c = A c) : pw_rsI B i c = pw_rsI A i c := by
  unfold pw_rsI
  by_cases q : c = 45
  · subst q; rw [if_pos rfl, if_pos rfl, h]
  · rw [if_neg q, if_neg q]; exact h
theorem G_bg_c {A B : pw_m} {c k : Nat} (h : B c = A c) (h8 : B 8 = A 8) : G_bg B k c = G_bg A k c := by
  unfold G_bg
  exact pw_rsI_c (pw_bgI_c (pw_up_c (pw_up_c h)) (pw_up_c (pw_up_c h8)) 6).1
theorem pw_bgI_o {A : pw_m} {c : Nat} (h : c ≠ 43) (h2 : c ≠ 44) : ∀ i, pw_bgI A i c = A c := by
  intro i
  induction i with
  | zero => rfl
  | succ i ih => rw [pw_bgI, pw_up_ne h2, pw_up_ne h]; exact ih
theorem pw_bgI_i {A : pw_m} : ∀ i j, (pw_bgI A i 43 j = if j < i then A 8 j else A 43 j) ∧ (pw_bgI A i 44 j = if j < i then nI 0 else A 44 j) := by
  intro i
  induction i with
  | zero => intro j; exact ⟨rfl, rfl⟩
  | succ i ih =>
    intro j
    have e3 : pw_bgI A (i + 1) 43 j = if j = i then A 8 i else pw_bgI A i 43 j := by rw [pw_bgI, pw_up_ne (by omega), pw_up_eq, pw_bgI_o (c := 8) (by omega) (by omega)]; rfl
    have e4 : pw_bgI A (i + 1) 44 j = if j = i then nI 0 else pw_bgI A i 44 j := by rw [pw_bgI, pw_up_eq, pw_up_ne (by omega)]; rfl
    rw [e3, e4, (ih j).1, (ih j).2]
    by_cases q : j = i
    · subst q; rw [if_pos rfl, if_pos rfl, if_pos (by omega), if_pos (by omega)]; exact ⟨rfl, rfl⟩
    · rw [if_neg q, if_neg q]
      by_cases q2 : j < i
      · rw [if_pos q2, if_pos q2, if_pos (by omega), if_pos (by omega)]; exact ⟨rfl, rfl⟩
      · rw [if_neg q2, if_neg q2, if_neg (by omega), if_neg (by omega)]; exact ⟨rfl, rfl⟩
theorem G_bg_o {A : pw_m} {c k : Nat} (h : c < 42 ∨ 46 ≤ c) : G_bg A k c = A c := by
  unfold G_bg pw_rsI
  rw [if_neg (by omega), pw_bgI_o (by omega) (by omega), pw_up_ne (by omega), pw_up_ne (by omega)]
/-- the evening that begins: by its places -/
theorem G_bg_e {A : pw_m} {k j : Nat} (hj : j < 6) : G_bg A k 42 0 = nI 0 ∧ G_bg A k 42 1 = nI (2 ^ k - 1) ∧ G_bg A k 43 j = A 8 j ∧ G_bg A k 44 j = nI 0 ∧ G_bg A k 45 j = -1 := by
  unfold G_bg pw_rsI
  rw [if_neg (by omega), if_neg (by omega), if_neg (by omega), if_pos rfl, pw_bgI_o (c := 42) (by omega) (by omega), (pw_bgI_i 6 j).1, (pw_bgI_i 6 j).2, if_pos hj, if_pos hj, pw_up_ne (c' := 8) (by omega), pw_up_ne (c' := 8) (by omega)]
  refine ⟨rfl, rfl, rfl, rfl, ?_⟩
  unfold pw_c6
  rw [if_pos hj]
theorem pw_ok_tb {B : pw_m} (hT : pw_okT B) (h11 : pw_fine (B 11 4) 8) : pw_ok (pw_up (pw_up (pw_up (G_bg (pw_up B 2 1 (nI 0)) (pw_k B)) 11 2 (nI 0)) 11 3 (nI 0)) 14 4 (nI 0)) := by
  have bk : pw_k B ≤ 6 := by have := hT.1.2.2; unfold pw_k; omega
  have p2 : 0 < 2 ^ pw_k B := Nat.two_pow_pos _
  have p6 : 2 ^ pw_k B ≤ 2 ^ 6 := Nat.pow_le_pow_right (by omega) bk
  have ge := fun j (hj : j < 6) => G_bg_e (A := pw_up B 2 1 (nI 0)) (k := pw_k B) hj
  have go : ∀ c, (c < 42 ∨ 46 ≤ c) → c ≠ 2 → G_bg (pw_up B 2 1 (nI 0)) (pw_k B) c = B c := fun c h1 h2 => by rw [G_bg_o h1, pw_up_ne h2]
  have g2 : G_bg (pw_up B 2 1 (nI 0)) (pw_k B) 2 1 = nI 0 := by rw [G_bg_o (by omega), pw_up_eq]; rfl
  generalize hE : G_bg (pw_up B 2 1 (nI 0)) (pw_k B) = E at ge go g2 ⊢
  have hc : ∀ c, c ≠ 11 → c ≠ 14 → pw_up (pw_up (pw_up E 11 2 (nI 0)) 11 3 (nI 0)) 14 4 (nI 0) c = E c := fun c h1 h2 => by rw [pw_up_ne h2, pw_up_ne h1, pw_up_ne h1]
  have h112 : pw_up (pw_up (pw_up E 11 2 (nI 0)) 11 3 (nI 0)) 14 4 (nI 0) 11 2 = nI 0 := by rw [pw_up_ne (by omega), pw_up_eq, pw_up_eq]; rfl
  have h113 : pw_up (pw_up (pw_up E 11 2 (nI 0)) 11 3 (nI 0)) 14 4 (nI 0) 11 3 = nI 0 := by rw [pw_up_ne (by omega), pw_up_eq]; rfl
  have h114 : pw_up (pw_up (pw_up E 11 2 (nI 0)) 11 3 (nI 0)) 14 4 (nI 0) 11 4 = B 11 4 := by rw [pw_up_ne (by omega), pw_up_eq, pw_up_eq, go 11 (by omega) (by omega)]; rfl
  have h144 : pw_up (pw_up (pw_up E 11 2 (nI 0)) 11 3 (nI 0)) 14 4 (nI 0) 14 4 = nI 0 := by rw [pw_up_eq]; rfl
  generalize pw_up (pw_up (pw_up E 11 2 (nI 0)) 11 3 (nI 0)) 14 4 (nI 0) = D at hc h112 h113 h114 h144 ⊢
  have hTc : ∀ c, 4 ≤ c → c ≤ 10 → D c = B c := fun c h1 h2 => (hc c (by omega) (by omega)).trans (go c (by omega) (by omega))
  have z0 : ∀ N, 0 < N → N < 2000 → pw_fine (nI 0) N := fun N h1 h2 => pw_fine_nI h1 (by omega)
  have c0 : pw_c (nI 0) = 0 := pw_c_nI (by omega)
  refine ⟨pw_okT_c hTc hT, ?_, ⟨⟨by rw [h112]; exact z0 9 (by omega) (by omega), by rw [h114]; exact h11, fun i hi => ?_⟩, by rw [h113]; exact z0 4 (by omega) (by omega), fun i hi ht => ?_⟩, ⟨by rw [h144]; exact z0 9 (by omega) (by omega), fun i hi => ?_⟩, ⟨by rw [hc 2 (by omega) (by omega), g2]; exact z0 161 (by omega) (by omega), fun i hi => ?_⟩⟩
  · rw [pw_n_c hTc, pw_k_c hTc]
    have d42 := hc 42 (by omega) (by omega)
    have d43 := hc 43 (by omega) (by omega)
    have d44 := hc 44 (by omega) (by omega)
    have d45 := hc 45 (by omega) (by omega)
    have o1 : pw_oc (-1) = none := rfl
    refine ⟨⟨by rw [d42, (ge 0 (by omega)).1]; exact z0 1000 (by omega) (by omega), by rw [d42, (ge 0 (by omega)).2.1]; exact pw_fine_nI (by omega) (by omega)⟩, fun j hj => ?_, fun j hj => ?_, fun j hj => ?_, fun j hj _ => ?_, fun i j s hi hj q1 q2 => ?_⟩
    · show pw_fine (D 43 j) 10
      rw [d43, (ge j hj).2.2.1, pw_up_ne (by omega)]
      exact (hT.2.2.1 j hj).1.2
    · show pw_fine (D 44 j) 16
      rw [d44, (ge j hj).2.2.2.1]
      exact z0 16 (by omega) (by omega)
    · show pw_fino (D 45 j) _
      rw [d45, (ge j hj).2.2.2.2]
      exact ⟨rfl, fun a q => by rw [o1] at q; cases q⟩
    · show pw_oc (D 45 j) = none
      rw [d45, (ge j hj).2.2.2.2]
      exact o1
    · have q3 : pw_oc (D 45 i) = some s := q1
      rw [d45, (ge i hi).2.2.2.2, o1] at q3
      cases q3
  · unfold pw_g at hi
    rw [h112, c0] at hi
    omega
  · unfold pw_g at ht
    rw [h113, c0, Nat.zero_testBit] at ht
    cases ht
  · unfold pw_g at hi
    rw [h144, c0] at hi
    omega
  · unfold pw_g at hi
    rw [hc 2 (by omega) (by omega), g2, c0] at hi
    omega
theorem pw_ok_tab {A : pw_m} (h : pw_ok A) : pw_ok (G_tab A) := by
  have bn := pw_bn h
  have bk := pw_bk h
  have hT0 : pw_okT (G_oq A (pw_CQ A)) := pw_okT_oq 14 (pw_n A) (pw_k A) 0 A h.1 (pw_q40 h) (pw_q41 h) bn bk
  have oq : ∀ c, (c < 4 ∨ 10 < c) → G_oq A (pw_CQ A) c = A c := G_oq_o 14 (pw_n A) (pw_k A) 0 A bn bk
  exact pw_ok_tb hT0 (by rw [oq 11 (by omega)]; exact h.2.2.1.1.2.1)
theorem pw_ok_table {A : pw_m} (h : pw_ok A) : pw_ok (G_table A) := by
  unfold G_table
  split
  · exact pw_ok_tab h
  · exact h
