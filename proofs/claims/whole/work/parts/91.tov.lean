/-! from the making to the world of numbered cells -/
def pw_yx (x : pw_Y) (ad : Nat → Nat) (X : Nat × (Nat → Int32)) (nc ns : Nat) : pw_X := match x with
  | (p, l, e, R, s, m, args, below, meth, c, D, cc, A) => (p, l, e, R, s, m, args, below, meth, c, D, ad, cc, A, X, (nc, ns))
def pw_YT (x : pw_Y) (ad : Nat → Nat) (X : Nat × (Nat → Int32)) : Prop := match x with
  | (_, _, _, _, s, _, _, _, _, _, _, _, A) => pw_T ad X A s s.heap ∧ pw_N s
theorem u_toV {x : pw_Y} {M : pw_M} {d bc bs : Nat} {Z : State → Prop} {pc : Nat} {lv : List (Nat × Value)} {st : List Value} {ws : va_W} {nc ns : Nat} {ad : Nat → Nat} {X : Nat × (Nat → Int32)} {mm : pw_m} {lv' : List (Nat × Value)} {st' : List Value} (hT : pw_YT x ad X) (is : List Nat) (hn : va_nd is = true) (hs : is.filterMap (fun i => ws[i]?) = pw_cs ad (pw_yI x) (pw_yZ x) (pw_yE x) mm) (hs2 : is.map (fun i => ws[i]?) = (pw_cs ad (pw_yI x) (pw_yZ x) (pw_yE x) mm).map some) (hlv : lv'.map (pw_tq ad) = lv) (hst : st'.map (pw_tv ad) = st) (h1 : nc ≤ bc) (h2 : ns ≤ bs) (hk : pw_V (pw_yx x ad X nc ns) M d Z pc lv' st' mm) : pw_U x M d bc bs Z pc lv st ws nc ns := by
  obtain ⟨p, l, ee, R, s, m, args, below, meth, cc, D, ⟨cI, cZ, cE⟩, A⟩ := x
  intro hC H locs hP hD hS ls hl
  subst hlv hst
  have hR := hC.2.2.2.2.2.2.2.1
  exact hk ⟨hC.1, hC.2.1, hC.2.2.1, hC.2.2.2.1, hC.2.2.2.2.1, hC.2.2.2.2.2.1, hC.2.2.2.2.2.2.1, ⟨hR.1, hR.2.1, Nat.le_trans h1 hR.2.2.1, Nat.le_trans h2 hR.2.2.2⟩, hC.2.2.2.2.2.2.2.2.1, hT.1, hC.2.2.2.2.2.2.2.2.2.1, hT.2⟩ H locs ⟨hP.sub is hs, hD.sub is hn hs2, hS⟩ ls hl
