/-! straight stretches of code, run over the pure state -/
def pw_lk : List (Nat × Value) → Nat → Option Value
  | [], _ => none
  | q :: r, i => if q.1 = i then some q.2 else pw_lk r i
theorem pw_lk_mem {lv : List (Nat × Value)} {i : Nat} {v : Value} (h : pw_lk lv i = some v) : (i, v) ∈ lv := by
  induction lv with
  | nil => cases h
  | cons q r ih =>
    unfold pw_lk at h
    split at h
    · rename_i hq
      cases h
      rw [← hq]
      exact List.mem_cons_self
    · exact List.mem_cons_of_mem _ (ih h)
def pw_s1 (lv : List (Nat × Value)) (i : Nat) (v : Value) : List (Nat × Value) := (i, v) :: lv.filter (fun q => !(q.1 == i) && !(q.1 + 1 == i && q.2.category == 2))
def pw_s2 (lv : List (Nat × Value)) (i : Nat) (v : Value) : List (Nat × Value) := (i, v) :: lv.filter (fun q => !(q.1 == i) && (!(q.1 == i + 1) && !(q.1 + 1 == i && q.2.category == 2)))
theorem pw_tv_cat (ad : Nat → Nat) (v : Value) : (pw_tv ad v).category = v.category := by cases v <;> rfl
theorem pw_s1_map {ad : Nat → Nat} {lv : List (Nat × Value)} {i : Nat} {v : Value} : (i, pw_tv ad v) :: (lv.map (pw_tq ad)).filter (fun q => !(q.1 == i) && !(q.1 + 1 == i && q.2.category == 2)) = (pw_s1 lv i v).map (pw_tq ad) := by
  unfold pw_s1
  rw [List.map_cons, List.filter_map]
  congr 3
  funext q
  simp [pw_tq, pw_tv_cat]
theorem pw_s2_map {ad : Nat → Nat} {lv : List (Nat × Value)} {i : Nat} {v : Value} : (i, pw_tv ad v) :: (lv.map (pw_tq ad)).filter (fun q => !(q.1 == i) && (!(q.1 == i + 1) && !(q.1 + 1 == i && q.2.category == 2))) = (pw_s2 lv i v).map (pw_tq ad) := by
  unfold pw_s2
  rw [List.map_cons, List.filter_map]
  congr 3
  funext q
  simp [pw_tq, pw_tv_cat]
def pw_ia (X : Nat × (Nat → Int32)) (m : pw_m) (c : Nat) : Option (Nat × (Nat → Int32)) := match pw_shp c with
  | some (.inr (0, n, _)) => some (n, m c)
  | some _ => none
  | none => if c = 90 then some (4, pw_k0) else if c = 91 then some (6, pw_k1) else if c = 93 then some X else none
def pw_w1 (X : Nat × (Nat → Int32)) (i : Instr) (lv : List (Nat × Value)) (st : List Value) (m : pw_m) (k : List (Nat × Value) → List Value → pw_m → Prop) : Prop := match i with
  | .iconst n => k lv (.int (Int32.ofInt n) :: st) m
  | .jsr n => k lv (.long (Int64.ofInt n) :: st) m
  | .iload i => match pw_lk lv i with | some (.int x) => k lv (.int x :: st) m | _ => False
  | .lload i => match pw_lk lv i with | some (.long x) => k lv (.long x :: st) m | _ => False
  | .aload i => match pw_lk lv i with | some (.ref x) => k lv (.ref x :: st) m | _ => False
  | .istore i => match st with | .int x :: r => k (pw_s1 lv i (.int x)) r m | _ => False
  | .lstore i => match st with | .long x :: r => k (pw_s2 lv i (.long x)) r m | _ => False
  | .astore i => match st with | .ref x :: r => k (pw_s1 lv i (.ref x)) r m | _ => False
  | .iinc i n => match pw_lk lv i with | some (.int x) => k (pw_s1 lv i (.int (x + Int32.ofInt n))) st m | _ => False
  | .iadd => match st with | .int y :: .int x :: r => k lv (.int (x + y) :: r) m | _ => False
  | .isub => match st with | .int y :: .int x :: r => k lv (.int (x - y) :: r) m | _ => False
  | .imul => match st with | .int y :: .int x :: r => k lv (.int (x * y) :: r) m | _ => False
  | .iand => match st with | .int y :: .int x :: r => k lv (.int (x &&& y) :: r) m | _ => False
  | .ior => match st with | .int y :: .int x :: r => k lv (.int (x ||| y) :: r) m | _ => False
  | .ixor => match st with | .int y :: .int x :: r => k lv (.int (x ^^^ y) :: r) m | _ => False
  | .ishl => match st with | .int y :: .int x :: r => k lv (.int (x <<< (y &&& 31)) :: r) m | _ => False
  | .ishr => match st with | .int y :: .int x :: r => k lv (.int (x >>> (y &&& 31)) :: r) m | _ => False
  | .iushr => match st with | .int y :: .int x :: r => k lv (.int ((x.toUInt32 >>> (y.toUInt32 &&& Int32.toUInt32 31)).toInt32) :: r) m | _ => False
  | .idiv => match st with | .int y :: .int x :: r => ¬ y = 0 ∧ k lv (.int (x / y) :: r) m | _ => False
  | .irem => match st with | .int y :: .int x :: r => ¬ y = 0 ∧ k lv (.int (x - x / y * y) :: r) m | _ => False
  | .ladd => match st with | .long y :: .long x :: r => k lv (.long (x + y) :: r) m | _ => False
  | .lmul => match st with | .long y :: .long x :: r => k lv (.long (x * y) :: r) m | _ => False
  | .ldiv => match st with | .long y :: .long x :: r => ¬ y = 0 ∧ k lv (.long (x / y) :: r) m | _ => False
  | .lrem => match st with | .long y :: .long x :: r => ¬ y = 0 ∧ k lv (.long (x - x / y * y) :: r) m | _ => False
  | .lcmp => match st with | .long y :: .long x :: r => k lv (.int (lg_cmp x y) :: r) m | _ => False
  | .i2l => match st with | .int x :: r => k lv (.long x.toInt64 :: r) m | _ => False
  | .dup => match st with | .int x :: r => k lv (.int x :: .int x :: r) m | .ref x :: r => k lv (.ref x :: .ref x :: r) m | _ => False
  | .dup2 => match st with | .int y :: .ref x :: r => k lv (.int y :: .ref x :: .int y :: .ref x :: r) m | _ => False
  | .pop => match st with | .int _ :: r => k lv r m | _ => False
  | .getstatic j => k lv (.ref (90 + j) :: st) m
  | .getfield j => match st with
    | .ref c :: r => (match pw_shp c with
      | some (.inl o) => if j / 100 = o.1 then (match o.2[j % 100]? with | some none => k lv (.int (m c (j % 100)) :: r) m | some (some q) => k lv (.ref q :: r) m | none => False) else False
      | _ => False)
    | _ => False
  | .putfield j => match st with
    | .int v :: .ref c :: r => (match pw_shp c with
      | some (.inl o) => if j / 100 = o.1 then (match o.2[j % 100]? with | some none => (if j = 821 then (v = 0 ∨ v = 1) ∧ k lv r (pw_up m c (j % 100) v) else k lv r (pw_up m c (j % 100) v)) | _ => False) else False
      | _ => False)
    | _ => False
  | .iaload => match st with
    | .int i :: .ref c :: r => (match pw_ia X m c with | some (n, f) => ∃ j : Nat, i = nI j ∧ j < n ∧ k lv (.int (f j) :: r) m | none => False)
    | _ => False
  | .baload => match st with
    | .int i :: .ref c :: r => (match pw_shp c with | some (.inr (1, n, _)) => ∃ j : Nat, i = nI j ∧ j < n ∧ k lv (.int (m c j) :: r) m | _ => False)
    | _ => False
  | .caload => match st with
    | .int i :: .ref c :: r => c = 92 ∧ ∃ j : Nat, i = nI j ∧ j < 74 ∧ k lv (.int (pw_k2 j) :: r) m
    | _ => False
  | .aaload => match st with
    | .int i :: .ref c :: r => (match pw_shp c with | some (.inr (2, n, b)) => ∃ j : Nat, i = nI j ∧ j < n ∧ k lv (.ref (b + 4 * j) :: r) m | _ => False)
    | _ => False
  | .iastore => match st with
    | .int v :: .int i :: .ref c :: r => (match pw_shp c with | some (.inr (0, n, _)) => ∃ j : Nat, i = nI j ∧ j < n ∧ k lv r (pw_up m c j v) | _ => False)
    | _ => False
  | .bastore => match st with
    | .int v :: .int i :: .ref c :: r => (match pw_shp c with | some (.inr (1, n, _)) => (v = 0 ∨ v = 1) ∧ ∃ j : Nat, i = nI j ∧ j < n ∧ k lv r (pw_up m c j v) | _ => False)
    | _ => False
  | .arraylength => match st with
    | .ref c :: r => if c = 92 then k lv (.int 74 :: r) m else if c = 93 then False else (match pw_ia X m c with | some (n, _) => k lv (.int (Int32.ofNat n) :: r) m | none => False)
    | _ => False
  | _ => False
def pw_wp (X : Nat × (Nat → Int32)) : List Instr → List (Nat × Value) → List Value → pw_m → (List (Nat × Value) → List Value → pw_m → Prop) → Prop
  | [], lv, st, m, k => k lv st m
  | i :: is, lv, st, m, k => pw_w1 X i lv st m (fun lv' st' m' => pw_wp X is lv' st' m' k)
def pw_lc (o idx : Nat) : Option Int := if o = 7 then (if idx = 240 then some (-2) else if idx = 242 then some (-3) else none) else if o = 8 then (if idx = 258 then some (-2) else if idx = 260 then some (-3) else if idx = 262 then some 10 else none) else none
def pw_ic (o idx : Nat) : Option Int := if o = 10 then (if idx = 265 then some 1431655765 else if idx = 266 then some 858993459 else if idx = 267 then some 252645135 else none) else none
def pw_sc (o idx : Nat) : Option Nat := if o = 7 then (if idx = 134 then some 0 else if idx = 147 then some 1 else none) else if o = 2 then (if idx = 91 then some 2 else none) else none
/-- what a decoded instruction is here -/
def pw_rs (o : Nat) (r : Instr) (len : Nat) : Option Instr := match r with
  | .iconst n => if len = 1 then some (.iconst n) else none
  | .bipush n => if len = 2 ∧ (Int8.ofInt n).toInt32 = Int32.ofInt n then some (.iconst n) else none
  | .sipush n => if len = 3 ∧ (Int16.ofInt n).toInt32 = Int32.ofInt n then some (.iconst n) else none
  | .lconst n => if len = 1 ∧ Int64.ofNat n = Int64.ofInt ((n : Nat) : Int) then some (.jsr ((n : Nat) : Int)) else none
  | .ldc2_w i => if len = 3 then (pw_lc o i).map .jsr else none
  | .ldc_w i => if len = 3 then (pw_ic o i).map .iconst else none
  | .iload_n k => if len = 1 then some (.iload k) else none
  | .iload i => if len = 2 then some (.iload i) else none
  | .lload_n k => if len = 1 then some (.lload k) else none
  | .lload i => if len = 2 then some (.lload i) else none
  | .aload_n k => if len = 1 then some (.aload k) else none
  | .aload i => if len = 2 then some (.aload i) else none
  | .istore_n k => if len = 1 then some (.istore k) else none
  | .istore i => if len = 2 then some (.istore i) else none
  | .lstore_n k => if len = 1 then some (.lstore k) else none
  | .lstore i => if len = 2 then some (.lstore i) else none
  | .astore_n k => if len = 1 then some (.astore k) else none
  | .astore i => if len = 2 then some (.astore i) else none
  | .iinc i n => if len = 3 then some (.iinc i n) else none
  | .getstatic i => if len = 3 then (pw_sc o i).map .getstatic else none
  | .getfield i => if len = 3 then (pw_ft.find? (fun e => e.1 == o && e.2.1 == i)).map (fun e => .getfield (100 * e.2.2.1 + e.2.2.2.1)) else none
  | .putfield i => if len = 3 then (pw_ft.find? (fun e => e.1 == o && e.2.1 == i)).map (fun e => .putfield (100 * e.2.2.1 + e.2.2.2.1)) else none
  | .iadd => if len = 1 then some .iadd else none
  | .isub => if len = 1 then some .isub else none
  | .imul => if len = 1 then some .imul else none
  | .iand => if len = 1 then some .iand else none
  | .ior => if len = 1 then some .ior else none
  | .ixor => if len = 1 then some .ixor else none
  | .ishl => if len = 1 then some .ishl else none
  | .ishr => if len = 1 then some .ishr else none
  | .iushr => if len = 1 then some .iushr else none
  | .idiv => if len = 1 then some .idiv else none
  | .irem => if len = 1 then some .irem else none
  | .ladd => if len = 1 then some .ladd else none
  | .lmul => if len = 1 then some .lmul else none
  | .ldiv => if len = 1 then some .ldiv else none
  | .lrem => if len = 1 then some .lrem else none
  | .lcmp => if len = 1 then some .lcmp else none
  | .i2l => if len = 1 then some .i2l else none
  | .dup => if len = 1 then some .dup else none
  | .dup2 => if len = 1 then some .dup2 else none
  | .pop => if len = 1 then some .pop else none
  | .iaload => if len = 1 then some .iaload else none
  | .baload => if len = 1 then some .baload else none
  | .caload => if len = 1 then some .caload else none
  | .aaload => if len = 1 then some .aaload else none
  | .iastore => if len = 1 then some .iastore else none
  | .bastore => if len = 1 then some .bastore else none
  | .arraylength => if len = 1 then some .arraylength else none
  | _ => none
/-- the local slots that a store needs -/
def pw_mx : Instr → Nat
  | .istore i => i + 1
  | .lstore i => i + 2
  | .astore i => i + 1
  | .iinc i _ => i + 1
  | _ => 0
def pw_ck (M : pw_M) : Nat → List Instr → Option Nat
  | pc, [] => some pc
  | pc, i :: is => match decode M.2.1 pc with
    | .ok (r, len) => if pw_rs M.1 r len = some i ∧ pw_mx i ≤ M.2.2.1 then pw_ck M (pc + len) is else none
    | .error _ => none
/-! what the tables say, by places -/
def pw_fc (e : Nat × Nat × Nat × Nat × Nat) : Bool := match vwCl[e.2.2.1]? with
  | none => false
  | some (C, T, N) => decide (e.2.2.2.1 < N) && decide (e.2.2.2.1 < 100) && decide ((T e.2.2.2.1).1 = C) && decide (lw_tbl[e.2.2.2.2]? = some (.fieldLink (pw_on e.1) e.2.1 C (T e.2.2.2.1).2.1 (T e.2.2.2.1).2.2.1))
theorem pw_ft_ok : pw_ft.all pw_fc = true := by decide +kernel
def pw_sz (c : Nat) : Bool := match pw_shp c with
  | some (.inl o) => (match vwCl[o.1]? with
    | some (_, T, N) => decide (o.2.length = N) && (List.range o.2.length).all (fun k => match o.2[k]? with
      | some none => decide ((T k).2.2.2 = false) && decide ((T k).2.2.1 = if 100 * o.1 + k = 821 then "Z" else "I")
      | _ => true)
    | none => false)
  | some (.inr a) => decide (a.1 ≤ 2) && decide (a.2.1 < 2 ^ 31)
  | none => false
theorem pw_sz_ok : (List.range 86).all pw_sz = true := by decide +kernel
