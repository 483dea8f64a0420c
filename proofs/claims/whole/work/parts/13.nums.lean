/-! branches on numbers and on truths -/
def pw_b (t : Bool) : Int32 := if t then 1 else 0
theorem pw_b0 {t : Bool} : pw_b t = 0 ↔ t = false := by cases t <;> simp [pw_b]
theorem pw_b01 (t : Bool) : pw_b t = 0 ∨ pw_b t = 1 := by cases t <;> simp [pw_b]
section PWN
variable {x : pw_X} {M : pw_M} {d : Nat} {Z : State → Prop} {pc tgt : Nat} {off : Int} {lv : List (Nat × Value)} {r : List Value} {mm : pw_m}
theorem pw_ib_eq {t : Bool} (hd : decode M.2.1 pc = .ok (.ifCond .eq off, 3)) (ht : (pc : Int) + off = (tgt : Int)) (kt : t = false → pw_V x M d Z tgt lv r mm) (kf : t = true → pw_V x M d Z (pc + 3) lv r mm) : pw_V x M d Z pc lv (.int (pw_b t) :: r) mm :=
  pw_if_eq hd ht (fun h => kt (pw_b0.mp h)) (fun h => kf (by cases t; exact absurd rfl h; rfl))
theorem pw_ib_ne {t : Bool} (hd : decode M.2.1 pc = .ok (.ifCond .ne off, 3)) (ht : (pc : Int) + off = (tgt : Int)) (kt : t = true → pw_V x M d Z tgt lv r mm) (kf : t = false → pw_V x M d Z (pc + 3) lv r mm) : pw_V x M d Z pc lv (.int (pw_b t) :: r) mm :=
  pw_if_ne hd ht (fun h => kt (by cases t; exact absurd rfl h; rfl)) (fun h => kf (pw_b0.mp h))
theorem pw_in_eq {a b : Nat} (ha : a < 2 ^ 31) (hb : b < 2 ^ 31) (hd : decode M.2.1 pc = .ok (.if_icmp .eq off, 3)) (ht : (pc : Int) + off = (tgt : Int)) (kt : a = b → pw_V x M d Z tgt lv r mm) (kf : a ≠ b → pw_V x M d Z (pc + 3) lv r mm) : pw_V x M d Z pc lv (.int (nI b) :: .int (nI a) :: r) mm :=
  pw_ic_eq hd ht (fun h => kt ((nI_eq ha hb).mp h)) (fun h => kf (fun e => h ((nI_eq ha hb).mpr e)))
theorem pw_in_ne {a b : Nat} (ha : a < 2 ^ 31) (hb : b < 2 ^ 31) (hd : decode M.2.1 pc = .ok (.if_icmp .ne off, 3)) (ht : (pc : Int) + off = (tgt : Int)) (kt : a ≠ b → pw_V x M d Z tgt lv r mm) (kf : a = b → pw_V x M d Z (pc + 3) lv r mm) : pw_V x M d Z pc lv (.int (nI b) :: .int (nI a) :: r) mm :=
  pw_ic_ne hd ht (fun h => kt (fun e => h ((nI_eq ha hb).mpr e))) (fun h => kf ((nI_eq ha hb).mp h))
theorem pw_in_lt {a b : Nat} (ha : a < 2 ^ 31) (hb : b < 2 ^ 31) (hd : decode M.2.1 pc = .ok (.if_icmp .lt off, 3)) (ht : (pc : Int) + off = (tgt : Int)) (kt : a < b → pw_V x M d Z tgt lv r mm) (kf : b ≤ a → pw_V x M d Z (pc + 3) lv r mm) : pw_V x M d Z pc lv (.int (nI b) :: .int (nI a) :: r) mm :=
  pw_ic_lt hd ht (fun h => kt ((nI_ltI ha hb).mp h)) (fun h => kf (by have h2 : ¬ (a < b) := fun e => h ((nI_ltI ha hb).mpr e); omega))
theorem pw_in_ge {a b : Nat} (ha : a < 2 ^ 31) (hb : b < 2 ^ 31) (hd : decode M.2.1 pc = .ok (.if_icmp .ge off, 3)) (ht : (pc : Int) + off = (tgt : Int)) (kt : b ≤ a → pw_V x M d Z tgt lv r mm) (kf : a < b → pw_V x M d Z (pc + 3) lv r mm) : pw_V x M d Z pc lv (.int (nI b) :: .int (nI a) :: r) mm :=
  pw_ic_ge hd ht (fun h => kt ((nI_leI hb ha).mp h)) (fun h => kf (by have h2 : ¬ (b ≤ a) := fun e => h ((nI_leI hb ha).mpr e); omega))
theorem pw_in_gt {a b : Nat} (ha : a < 2 ^ 31) (hb : b < 2 ^ 31) (hd : decode M.2.1 pc = .ok (.if_icmp .gt off, 3)) (ht : (pc : Int) + off = (tgt : Int)) (kt : b < a → pw_V x M d Z tgt lv r mm) (kf : a ≤ b → pw_V x M d Z (pc + 3) lv r mm) : pw_V x M d Z pc lv (.int (nI b) :: .int (nI a) :: r) mm :=
  pw_ic_gt hd ht (fun h => kt ((nI_ltI hb ha).mp h)) (fun h => kf (by have h2 : ¬ (b < a) := fun e => h ((nI_ltI hb ha).mpr e); omega))
theorem pw_in_le {a b : Nat} (ha : a < 2 ^ 31) (hb : b < 2 ^ 31) (hd : decode M.2.1 pc = .ok (.if_icmp .le off, 3)) (ht : (pc : Int) + off = (tgt : Int)) (kt : a ≤ b → pw_V x M d Z tgt lv r mm) (kf : b < a → pw_V x M d Z (pc + 3) lv r mm) : pw_V x M d Z pc lv (.int (nI b) :: .int (nI a) :: r) mm :=
  pw_ic_le hd ht (fun h => kt ((nI_leI ha hb).mp h)) (fun h => kf (by have h2 : ¬ (a ≤ b) := fun e => h ((nI_leI ha hb).mpr e); omega))
theorem pw_iz_eq {a : Nat} (ha : a < 2 ^ 31) (hd : decode M.2.1 pc = .ok (.ifCond .eq off, 3)) (ht : (pc : Int) + off = (tgt : Int)) (kt : a = 0 → pw_V x M d Z tgt lv r mm) (kf : a ≠ 0 → pw_V x M d Z (pc + 3) lv r mm) : pw_V x M d Z pc lv (.int (nI a) :: r) mm :=
  pw_if_eq hd ht (fun h => kt ((nI_eq ha (by decide)).mp h)) (fun h => kf (fun e => h ((nI_eq ha (by decide)).mpr e)))
theorem pw_iz_ne {a : Nat} (ha : a < 2 ^ 31) (hd : decode M.2.1 pc = .ok (.ifCond .ne off, 3)) (ht : (pc : Int) + off = (tgt : Int)) (kt : a ≠ 0 → pw_V x M d Z tgt lv r mm) (kf : a = 0 → pw_V x M d Z (pc + 3) lv r mm) : pw_V x M d Z pc lv (.int (nI a) :: r) mm :=
  pw_if_ne hd ht (fun h => kt (fun e => h ((nI_eq ha (by decide)).mpr e))) (fun h => kf ((nI_eq ha (by decide)).mp h))
theorem pw_iz_gt {a : Nat} (ha : a < 2 ^ 31) (hd : decode M.2.1 pc = .ok (.ifCond .gt off, 3)) (ht : (pc : Int) + off = (tgt : Int)) (kt : 0 < a → pw_V x M d Z tgt lv r mm) (kf : a = 0 → pw_V x M d Z (pc + 3) lv r mm) : pw_V x M d Z pc lv (.int (nI a) :: r) mm :=
  pw_if_gt hd ht (fun h => kt ((nI_ltI (by decide) ha).mp h)) (fun h => kf (by have h2 : ¬ (0 < a) := fun e => h ((nI_ltI (by decide) ha).mpr e); omega))
theorem pw_iz_le {a : Nat} (ha : a < 2 ^ 31) (hd : decode M.2.1 pc = .ok (.ifCond .le off, 3)) (ht : (pc : Int) + off = (tgt : Int)) (kt : a = 0 → pw_V x M d Z tgt lv r mm) (kf : 0 < a → pw_V x M d Z (pc + 3) lv r mm) : pw_V x M d Z pc lv (.int (nI a) :: r) mm :=
  pw_if_le hd ht (fun h => kt (by have h2 : a ≤ 0 := (nI_leI ha (by decide)).mp h; omega)) (fun h => kf (by have h2 : ¬ (a ≤ 0) := fun e => h ((nI_leI ha (by decide)).mpr e); omega))
theorem pw_iz_lt {a : Nat} (ha : a < 2 ^ 31) (hd : decode M.2.1 pc = .ok (.ifCond .lt off, 3)) (ht : (pc : Int) + off = (tgt : Int)) (kf : pw_V x M d Z (pc + 3) lv r mm) : pw_V x M d Z pc lv (.int (nI a) :: r) mm :=
  pw_if_lt hd ht (fun h => absurd h (nI_pos ha)) (fun _ => kf)
theorem pw_iz_ge {a : Nat} (ha : a < 2 ^ 31) (hd : decode M.2.1 pc = .ok (.ifCond .ge off, 3)) (ht : (pc : Int) + off = (tgt : Int)) (kt : pw_V x M d Z tgt lv r mm) : pw_V x M d Z pc lv (.int (nI a) :: r) mm :=
  pw_if_ge hd ht (fun _ => kt) (fun h => absurd (nI_pos' ha) h)
end PWN
