/-! the world: cells by their numbers at addresses ad; what a method's state is -/
def pw_tv (ad : Nat → Nat) : Value → Value
  | .ref a => .ref (ad a)
  | v => v
def pw_tq (ad : Nat → Nat) (q : Nat × Value) : Nat × Value := (q.1, pw_tv ad q.2)
def pw_fv (ad : Nat → Nat) (m : pw_m) (c : Nat) (q : Option Nat × Nat) : Value := match q.1 with
  | none => .int (m c q.2)
  | some r => .ref (ad r)
def pw_cel (ad : Nat → Nat) (cI cZ cE : ClassId) (m : pw_m) (c : Nat) : va_E := match pw_shp c with
  | some (.inl o) => .inr (o.1, o.2.zipIdx.map (pw_fv ad m c))
  | some (.inr (0, n, _)) => .inl (cI, n, .inl (m c))
  | some (.inr (1, n, _)) => .inl (cZ, n, .inl (m c))
  | some (.inr (_, n, b)) => .inl (cE, n, .inr (.inr (.inr (.inr (fun j => some (ad (b + 4 * j)))))))
  | none => .inr (0, [])
def pw_cs (ad : Nat → Nat) (cI cZ cE : ClassId) (m : pw_m) : va_W := (List.range 86).map (fun c => (ad c, pw_cel ad cI cZ cE m c))
theorem pw_cs_at {ad : Nat → Nat} {cI cZ cE : ClassId} {m : pw_m} {c : Nat} (h : c < 86) : (pw_cs ad cI cZ cE m)[c]? = some (ad c, pw_cel ad cI cZ cE m c) := by
  simp [pw_cs, h]
theorem pw_cel_o {ad : Nat → Nat} {cI cZ cE : ClassId} {m : pw_m} {c : Nat} {o : Nat × List (Option Nat)} (h : pw_shp c = some (.inl o)) : pw_cel ad cI cZ cE m c = .inr (o.1, o.2.zipIdx.map (pw_fv ad m c)) := by
  simp [pw_cel, h]
theorem pw_cel_i {ad : Nat → Nat} {cI cZ cE : ClassId} {m : pw_m} {c n b : Nat} (h : pw_shp c = some (.inr (0, n, b))) : pw_cel ad cI cZ cE m c = .inl (cI, n, .inl (m c)) := by
  simp [pw_cel, h]
theorem pw_cel_z {ad : Nat → Nat} {cI cZ cE : ClassId} {m : pw_m} {c n b : Nat} (h : pw_shp c = some (.inr (1, n, b))) : pw_cel ad cI cZ cE m c = .inl (cZ, n, .inl (m c)) := by
  simp [pw_cel, h]
theorem pw_cel_e {ad : Nat → Nat} {cI cZ cE : ClassId} {m : pw_m} {c n b : Nat} (h : pw_shp c = some (.inr (2, n, b))) : pw_cel ad cI cZ cE m c = .inl (cE, n, .inr (.inr (.inr (.inr (fun j => some (ad (b + 4 * j))))))) := by
  simp [pw_cel, h]
theorem pw_up_ne {m : pw_m} {c k c' : Nat} {v : Int32} (h : c' ≠ c) : pw_up m c k v c' = m c' := by simp [pw_up, h]
theorem pw_up_eq {m : pw_m} {c k : Nat} {v : Int32} : pw_up m c k v c = upd (m c) k v := by simp [pw_up]
theorem pw_fv_congr {ad : Nat → Nat} {m m' : pw_m} {c : Nat} (h : m c = m' c) : pw_fv ad m c = pw_fv ad m' c := by
  funext q
  simp [pw_fv, h]
theorem pw_cel_congr {ad : Nat → Nat} {cI cZ cE : ClassId} {m m' : pw_m} {c : Nat} (h : m c = m' c) : pw_cel ad cI cZ cE m c = pw_cel ad cI cZ cE m' c := by
  unfold pw_cel
  rw [pw_fv_congr (ad := ad) h, h]
theorem pw_cs_set {ad : Nat → Nat} {cI cZ cE : ClassId} {m m' : pw_m} {c : Nat} {e : va_E} (he : pw_cel ad cI cZ cE m' c = e) (h : ∀ c', c' ≠ c → m c' = m' c') : (pw_cs ad cI cZ cE m).set c (ad c, e) = pw_cs ad cI cZ cE m' := by
  subst he
  apply List.ext_getElem?
  intro i
  rw [List.getElem?_set]
  by_cases hi : i < 86
  · rw [pw_cs_at hi, pw_cs_at hi]
    by_cases hc : c = i
    · subst hc
      simp [pw_cs, hi]
    · rw [if_neg hc, pw_cel_congr (h i (fun q => hc q.symm))]
  · have hl : ∀ mm : pw_m, (pw_cs ad cI cZ cE mm).length = 86 := fun mm => by simp [pw_cs]
    rw [List.getElem?_eq_none (by rw [hl]; omega), List.getElem?_eq_none (by rw [hl]; omega)]
    by_cases hc : c = i
    · subst hc
      simp [hl, hi]
    · rw [if_neg hc]
theorem pw_fs_set {ad : Nat → Nat} {m : pw_m} {c k : Nat} {v : Int32} {fs : List (Option Nat)} (hk : fs[k]? = some none) : (fs.zipIdx.map (pw_fv ad m c)).set k (.int v) = fs.zipIdx.map (pw_fv ad (pw_up m c k v) c) := by
  apply List.ext_getElem?
  intro i
  rw [List.getElem?_set, List.getElem?_map, List.getElem?_map, List.getElem?_zipIdx]
  have hlt : k < fs.length := (List.getElem?_eq_some_iff.mp hk).1
  by_cases hi : k = i
  · subst hi
    have h2 : fs[k] = none := (List.getElem?_eq_some_iff.mp hk).2
    simp [h2, pw_fv, pw_up_eq, upd, hlt]
  · rw [if_neg hi]
    cases hq : fs[i]? with
    | none => rfl
    | some f =>
      cases f with
      | none =>
        simp [pw_fv, pw_up_eq, upd]
        exact fun q => absurd q.symm hi
      | some r => simp [pw_fv]
theorem pw_fs_at {ad : Nat → Nat} {m : pw_m} {c k : Nat} {fs : List (Option Nat)} {f : Option Nat} (hk : fs[k]? = some f) : (fs.zipIdx.map (pw_fv ad m c))[k]? = some (pw_fv ad m c (f, k)) := by
  rw [List.getElem?_map, List.getElem?_zipIdx, hk]
  simp
/-- tables that nobody writes: 90, 91, 92 the class's own, 93 the script -/
def pw_k0 (j : Nat) : Int32 := ([-1, 0, 0, 1] : List Int32).getD j 0
def pw_k1 (j : Nat) : Int32 := ([-1, 0, 1, 1, 0, 0] : List Int32).getD j 0
def pw_k2 (j : Nat) : Int32 := ([116, 97, 98, 108, 101, 46, 103, 111, 108, 100, 46, 109, 101, 101, 107, 46, 107, 105, 110, 46, 109, 111, 117, 114, 110, 105, 110, 103, 46, 107, 110, 105, 103, 104, 116, 46, 115, 113, 117, 105, 114, 101, 46, 107, 105, 110, 103, 46, 101, 110, 101, 109, 105, 101, 115, 46, 112, 101, 114, 105, 108, 46, 109, 101, 97, 110, 116, 46, 112, 101, 97, 99, 101, 46] : List Int32).getD j 0
def pw_T (ad : Nat → Nat) (X : Nat × (Nat → Int32)) (A : Nat → Prop) (U : State) (H : Heap) : Prop :=
  (va_Z RX7 "OVER_KNIGHTS" "[I" (.ref (ad 90)) A U H ∧ va_T .int (ad 90) 4 (fun j => .int (pw_k0 j)) A U H) ∧
  (va_Z RX7 "OVER_NAMES" "[I" (.ref (ad 91)) A U H ∧ va_T .int (ad 91) 6 (fun j => .int (pw_k1 j)) A U H) ∧
  (va_Z RX2 "WORDS" "[C" (.ref (ad 92)) A U H ∧ va_T .char (ad 92) 74 (fun j => .int (pw_k2 j)) A U H) ∧
  (X.1 = 0 ∨ X.1 < 2 ^ 31 ∧ va_T .int (ad 93) X.1 (fun j => .int (X.2 j)) A U H)
theorem pw_T.moved {ad : Nat → Nat} {X : Nat × (Nat → Int32)} {A : Nat → Prop} {u U : State} {H : Heap} (hvm : u.vm.Alike U.vm) (h : pw_T ad X A u H) : pw_T ad X A U H :=
  ⟨⟨h.1.1.moved hvm, h.1.2.moved hvm⟩, ⟨h.2.1.1.moved hvm, h.2.1.2.moved hvm⟩, ⟨h.2.2.1.1.moved hvm, h.2.2.1.2.moved hvm⟩, h.2.2.2.imp id (fun q => ⟨q.1, q.2.moved hvm⟩)⟩
theorem pw_T.kept {ad : Nat → Nat} {X : Nat × (Nat → Int32)} {A : Nat → Prop} {U : State} {H H1 : Heap} (h : pw_T ad X A U H) (hq : ∀ a : Nat, a < H.size → ¬ A a → H1[a]? = H[a]?) : pw_T ad X A U H1 :=
  ⟨⟨h.1.1.kept hq, h.1.2.kept hq⟩, ⟨h.2.1.1.kept hq, h.2.1.2.kept hq⟩, ⟨h.2.2.1.1.kept hq, h.2.2.1.2.kept hq⟩, h.2.2.2.imp id (fun q => ⟨q.1, q.2.kept hq⟩)⟩
theorem pw_T.narrow {ad : Nat → Nat} {X : Nat × (Nat → Int32)} {A B : Nat → Prop} {U : State} {H : Heap} (h : pw_T ad X A U H) (hAB : ∀ q, B q → A q) : pw_T ad X B U H :=
  ⟨⟨h.1.1.narrow hAB, h.1.2.narrow hAB⟩, ⟨h.2.1.1.narrow hAB, h.2.1.2.narrow hAB⟩, ⟨h.2.2.1.1.narrow hAB, h.2.2.1.2.narrow hAB⟩, h.2.2.2.imp id (fun q => ⟨q.1, q.2.narrow hAB⟩)⟩
theorem pw_T.noX {ad : Nat → Nat} {X : Nat × (Nat → Int32)} {A : Nat → Prop} {U : State} {H : Heap} (h : pw_T ad X A U H) (f : Nat → Int32) : pw_T ad (0, f) A U H := ⟨h.1, h.2.1, h.2.2.1, Or.inl rfl⟩
/-- a method: its class's number, its code, its locals, its answer's type -/
abbrev pw_M : Type := Nat × ByteArray × Nat × Option FieldType
abbrev pw_ty (cI cZ cE : ClassId) : List (ClassId × FieldType) := [(cI, .int), (cZ, .boolean), (cE, .object RX0)]
/-- the words that a call hands on -/
def pw_tb : List Cond := lw_tbl.filter goodWord
theorem pw_tb_in {w : Cond} {i : Nat} (h : lw_tbl[i]? = some w) (hg : goodWord w = true) : w ∈ pw_tb := List.mem_filter.mpr ⟨List.mem_of_getElem? h, hg⟩
/-- links to a nest mate's private methods -/
def pw_nl : List (String × Nat × MethodName × String) := [(RX4, 63, yX7_has, RX7), (RX4, 81, yX7_behind, RX7), (RX4, 84, yX7_ahead, RX7)]
def pw_N (U : State) : Prop := ∀ q ∈ pw_nl, va_Nw (.methodLinkNest q.1 q.2.1 q.2.2.1 q.2.2.2) U
theorem pw_N.warm {s U : State} (hW : s.WarmedH U.vm) (h : pw_N s) : pw_N U := fun q hq => va_Nw.warmM hW (h q hq)
theorem pw_N.same {u U : State} (hv : u.vm = U.vm) (h : pw_N u) : pw_N U := fun q hq => va_Nw.same rfl hv (h q hq)
/-- where a method runs -/
abbrev pw_X : Type := Program × Launch × Env × Room × State × MethodId × Array Value × List Frame × Method × Code × va_G × (Nat → Nat) × (ClassId × ClassId × ClassId) × (Nat → Prop) × (Nat × (Nat → Int32)) × (Nat × Nat)
def pw_C (x : pw_X) (M : pw_M) (d : Nat) : Prop := match x with
  | (p, _, _, R, s, m, args, _, meth, c, D, ad, (cI, cZ, cE), A, X, (nc, ns)) =>
    p.tables.exec = Jvm.exec ∧ c.code = M.2.1 ∧ c.maxLocals = M.2.2.1 ∧ s.vm.findClass (pw_on M.1) = some m.cls ∧ (∀ w ∈ pw_tb, w.before args s = true) ∧ meth.sig.returnType = M.2.2.2 ∧ meth.locks = false ∧ (d ≤ R.frames ∧ 64 * d ≤ R.locals ∧ nc ≤ R.cells ∧ ns ≤ R.slots) ∧ va_K D vwCl (pw_ty cI cZ cE) s ∧ pw_T ad X A s s.heap ∧ (∀ q, s.heap.size ≤ q → A q) ∧ pw_N s
def pw_H (x : pw_X) (mm : pw_m) (H : Heap) (locs : List Loc) : Prop := match x with
  | (_, _, _, _, s, _, _, _, _, _, D, ad, (cI, cZ, cE), A, _, _) => va_P D vwCl (pw_cs ad cI cZ cE mm) H ∧ va_D A (pw_cs ad cI cZ cE mm) ∧ va_S A s.heap H locs
def pw_W (x : pw_X) (M : pw_M) (Z : State → Prop) (pc : Nat) (lv : List (Nat × Value)) (st : List Value) (H : Heap) (locs : List Loc) : Prop := match x with
  | (p, l, e, R, s, m, args, below, meth, c, _, ad, _, _, _, (nc, ns)) => ∀ ls : Array Slot, lv_has ls M.2.2.1 (lv.map (pw_tq ad)) → W p l e R s m args below meth c H locs nc ns Z (F0 m pc ls (st.map (pw_tv ad)))
/-- the judgement: from here, whatever the heap is that holds mm, the machine comes to Z -/
def pw_V (x : pw_X) (M : pw_M) (d : Nat) (Z : State → Prop) (pc : Nat) (lv : List (Nat × Value)) (st : List Value) (mm : pw_m) : Prop :=
  pw_C x M d → ∀ (H : Heap) (locs : List Loc), pw_H x mm H locs → pw_W x M Z pc lv st H locs
