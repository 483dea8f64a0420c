def G_ob (A : pw_m) (w : Nat) (a b : Int32) : pw_m :=
  if w = 0 then G_lay A a else if w = 1 then G_ns A (pw_c a) (nI 1) b else if w = 2 then G_ns A (pw_c a) (nI 2) b else if w = 3 then G_ns A (pw_c a) (nI 3) b else if w = 4 then G_ns A (pw_c a) (nI 4) (nI 0)
  else if w = 5 then G_ak A (pw_c (A 4 1)) (nI 0) a b else if w = 6 then G_ak A (pw_c (A 4 1)) (nI 1) a b else if w = 7 then G_ak A (pw_c (A 4 1)) (nI 2) a b
  else if w = 8 then G_me A (pw_c a) (pw_c b) else if w = 9 then pw_up (pw_up A 4 8 a) 4 9 b else if w = 10 then pw_up A 4 10 a else pw_zI A 10 6
