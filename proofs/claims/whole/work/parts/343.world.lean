/-! the world that the makers leave -/
section SW
variable (G : Gx) (p q : Nat) (a b : Nat → Nat)
theorem ex_X5 : nN_X5_init G a = [(a 0, Sum.inr (7, [.ref (a 1), .int 0])), (a 1, Sum.inl (gc G 0, 50, Sum.inl (fun _ => 0)))] := rfl
theorem ex_X10 : nN_X10_init G a = [(a 0, Sum.inl (gc G 0, 26, Sum.inl (fun _ => 0))), (a 1, Sum.inl (gc G 0, 50, Sum.inl (fun _ => 0))), (a 2, Sum.inl (gc G 0, 10, Sum.inl (fun _ => 0)))] := rfl
theorem ex_g (x N K : Nat) (r : Nat → Nat) : gblk G x 6 K r = [(x, Sum.inl (gc G 5, 6, Sum.inr (Sum.inr (Sum.inr (Sum.inr (fun i => if i < 6 then some (r i) else none)))))), (r 0, Sum.inl (gc G 0, K, Sum.inl (fun _ => 0))), (r 1, Sum.inl (gc G 0, K, Sum.inl (fun _ => 0))), (r 2, Sum.inl (gc G 0, K, Sum.inl (fun _ => 0))), (r 3, Sum.inl (gc G 0, K, Sum.inl (fun _ => 0))), (r 4, Sum.inl (gc G 0, K, Sum.inl (fun _ => 0))), (r 5, Sum.inl (gc G 0, K, Sum.inl (fun _ => 0)))] := rfl
theorem ex_X4 : nN_X4_init G a = [(a 0, Sum.inl (gc G 3, 10, Sum.inr (Sum.inr (Sum.inr (Sum.inr (fun _ => none)))))), (a 1, Sum.inl (gc G 0, 10, Sum.inl (fun _ => 0))), (a 2, Sum.inl (gc G 0, 40, Sum.inl (fun _ => 0))), (a 3, Sum.inl (gc G 0, 40, Sum.inl (fun _ => 0))), (a 4, Sum.inl (gc G 0, 40, Sum.inl (fun _ => 0))), (a 5, Sum.inl (gc G 0, 40, Sum.inl (fun _ => 0))), (a 6, Sum.inl (gc G 0, 6, Sum.inl (fun _ => 0))), (a 7, Sum.inl (gc G 0, 6, Sum.inl (fun _ => 0))), (a 8, Sum.inl (gc G 0, 6, Sum.inl (fun _ => 0))), (a 9, Sum.inr (7, [.ref (a 10), .int 0])), (a 10, Sum.inl (gc G 0, 50, Sum.inl (fun _ => 0))), (a 11, Sum.inr (7, [.ref (a 12), .int 0])), (a 12, Sum.inl (gc G 0, 20, Sum.inl (fun _ => 0))), (a 13, Sum.inl (gc G 4, 3, Sum.inr (Sum.inr (Sum.inr (Sum.inr (va_up (va_up (va_up (fun _ => none) 0 (some (a 14))) 1 (some (a 16))) 2 (some (a 18)))))))), (a 14, Sum.inr (7, [.ref (a 15), .int 0])), (a 15, Sum.inl (gc G 0, 50, Sum.inl (fun _ => 0))), (a 16, Sum.inr (7, [.ref (a 17), .int 0])), (a 17, Sum.inl (gc G 0, 50, Sum.inl (fun _ => 0))), (a 18, Sum.inr (7, [.ref (a 19), .int 0])), (a 19, Sum.inl (gc G 0, 50, Sum.inl (fun _ => 0)))] := by
  unfold nN_X4_init
  simp only [apw, stw, List.cons_append, List.nil_append, List.set_cons_succ, List.set_cons_zero]
theorem ex_X8 : nN_X8_init G a = [(a 0, Sum.inl (gc G 0, 10, Sum.inl (fun _ => 0))), (a 1, Sum.inl (gc G 0, 10, Sum.inl (fun _ => 0))), (a 2, Sum.inl (gc G 0, 6, Sum.inl (fun _ => 0))), (a 3, Sum.inl (gc G 5, 6, Sum.inr (Sum.inr (Sum.inr (Sum.inr (fun i => if i < 6 then some (a (4 + i)) else none)))))), (a 4, Sum.inl (gc G 0, 10, Sum.inl (fun _ => 0))), (a 5, Sum.inl (gc G 0, 10, Sum.inl (fun _ => 0))), (a 6, Sum.inl (gc G 0, 10, Sum.inl (fun _ => 0))), (a 7, Sum.inl (gc G 0, 10, Sum.inl (fun _ => 0))), (a 8, Sum.inl (gc G 0, 10, Sum.inl (fun _ => 0))), (a 9, Sum.inl (gc G 0, 10, Sum.inl (fun _ => 0))), (a 10, Sum.inl (gc G 0, 1024, Sum.inl (fun _ => 0))), (a 11, Sum.inl (gc G 5, 6, Sum.inr (Sum.inr (Sum.inr (Sum.inr (fun i => if i < 6 then some (a (12 + i)) else none)))))), (a 12, Sum.inl (gc G 0, 1024, Sum.inl (fun _ => 0))), (a 13, Sum.inl (gc G 0, 1024, Sum.inl (fun _ => 0))), (a 14, Sum.inl (gc G 0, 1024, Sum.inl (fun _ => 0))), (a 15, Sum.inl (gc G 0, 1024, Sum.inl (fun _ => 0))), (a 16, Sum.inl (gc G 0, 1024, Sum.inl (fun _ => 0))), (a 17, Sum.inl (gc G 0, 1024, Sum.inl (fun _ => 0))), (a 18, Sum.inl (gc G 0, 10, Sum.inl (fun _ => 0)))] := by
  unfold nN_X8_init
  rw [ex_g G _ 6, ex_g G _ 6]
  rfl
theorem ex_X12 : nN_X12_init G b = [(b 0, Sum.inl (gc G 0, 466, Sum.inl (upd (fun _ => 0) 0 100))), (b 1, Sum.inl (gc G 0, 466, Sum.inl (fun _ => 0))), (b 2, Sum.inl (gc G 0, 6, Sum.inl (fun _ => 0))), (b 3, Sum.inl (gc G 0, 10, Sum.inl (fun _ => 0))), (b 4, Sum.inl (gc G 0, 100, Sum.inl (fun _ => 0))), (b 5, Sum.inl (gc G 0, 100, Sum.inl (fun _ => 0))), (b 6, Sum.inl (gc G 0, 6, Sum.inl (fun _ => 0))), (b 7, Sum.inl (gc G 0, 52, Sum.inl (fun _ => 0))), (b 8, Sum.inl (gc G 0, 52, Sum.inl (fun _ => 0))), (b 9, Sum.inl (gc G 0, 52, Sum.inl (fun _ => 0))), (b 10, Sum.inl (gc G 0, 4, Sum.inl (fun _ => 0))), (b 11, Sum.inl (gc G 0, 11, Sum.inl (fun _ => 0))), (b 12, Sum.inl (gc G 0, 11, Sum.inl (fun _ => 0))), (b 13, Sum.inl (gc G 0, 10, Sum.inl (fun _ => 0))), (b 14, Sum.inl (gc G 2, 1024, Sum.inl (fun _ => 0))), (b 15, Sum.inl (gc G 0, 1024, Sum.inl (fun _ => 0))), (b 16, Sum.inl (gc G 0, 7168, Sum.inl (fun _ => 0))), (b 17, Sum.inl (gc G 1, 2048, Sum.inr (Sum.inl (fun _ => 0)))), (b 18, Sum.inl (gc G 0, 10, Sum.inl (fun _ => 0))), (b 19, Sum.inl (gc G 0, 10, Sum.inl (fun _ => 0))), (b 20, Sum.inl (gc G 0, 10, Sum.inl (fun _ => 0))), (b 21, Sum.inl (gc G 0, 40, Sum.inl (fun _ => 0))), (b 22, Sum.inl (gc G 0, 4, Sum.inl (fun _ => 0))), (b 23, Sum.inl (gc G 0, 4, Sum.inl (fun _ => 0))), (b 24, Sum.inl (gc G 0, 96, Sum.inl (fun _ => 0))), (b 25, Sum.inl (gc G 0, 24, Sum.inl (fun _ => 0)))] := by
  unfold nN_X12_init
  simp only [apw, stw, List.cons_append, List.nil_append, List.set_cons_succ, List.set_cons_zero]
theorem ex_X11 : nN_X11_init G a = [(a 0, nP_X4_init G (fun i => a (1 + i))), (a (1 + 0), Sum.inl (gc G 3, 10, Sum.inr (Sum.inr (Sum.inr (Sum.inr (fun _ => none)))))), (a (1 + 1), Sum.inl (gc G 0, 10, Sum.inl (fun _ => 0))), (a (1 + 2), Sum.inl (gc G 0, 40, Sum.inl (fun _ => 0))), (a (1 + 3), Sum.inl (gc G 0, 40, Sum.inl (fun _ => 0))), (a (1 + 4), Sum.inl (gc G 0, 40, Sum.inl (fun _ => 0))), (a (1 + 5), Sum.inl (gc G 0, 40, Sum.inl (fun _ => 0))), (a (1 + 6), Sum.inl (gc G 0, 6, Sum.inl (fun _ => 0))), (a (1 + 7), Sum.inl (gc G 0, 6, Sum.inl (fun _ => 0))), (a (1 + 8), Sum.inl (gc G 0, 6, Sum.inl (fun _ => 0))), (a (1 + 9), Sum.inr (7, [.ref (a (1 + 10)), .int 0])), (a (1 + 10), Sum.inl (gc G 0, 50, Sum.inl (fun _ => 0))), (a (1 + 11), Sum.inr (7, [.ref (a (1 + 12)), .int 0])), (a (1 + 12), Sum.inl (gc G 0, 20, Sum.inl (fun _ => 0))), (a (1 + 13), Sum.inl (gc G 4, 3, Sum.inr (Sum.inr (Sum.inr (Sum.inr (va_up (va_up (va_up (fun _ => none) 0 (some (a (1 + 14)))) 1 (some (a (1 + 16)))) 2 (some (a (1 + 18))))))))), (a (1 + 14), Sum.inr (7, [.ref (a (1 + 15)), .int 0])), (a (1 + 15), Sum.inl (gc G 0, 50, Sum.inl (fun _ => 0))), (a (1 + 16), Sum.inr (7, [.ref (a (1 + 17)), .int 0])), (a (1 + 17), Sum.inl (gc G 0, 50, Sum.inl (fun _ => 0))), (a (1 + 18), Sum.inr (7, [.ref (a (1 + 19)), .int 0])), (a (1 + 19), Sum.inl (gc G 0, 50, Sum.inl (fun _ => 0))), (a 21, nP_X10_init G (fun i => a (22 + i)) (a 0)), (a (22 + 0), Sum.inl (gc G 0, 26, Sum.inl (fun _ => 0))), (a (22 + 1), Sum.inl (gc G 0, 50, Sum.inl (fun _ => 0))), (a (22 + 2), Sum.inl (gc G 0, 10, Sum.inl (fun _ => 0))), (a 25, nP_X8_init G (fun i => a (26 + i)) (a 0) (a 21)), (a (26 + 0), Sum.inl (gc G 0, 10, Sum.inl (fun _ => 0))), (a (26 + 1), Sum.inl (gc G 0, 10, Sum.inl (fun _ => 0))), (a (26 + 2), Sum.inl (gc G 0, 6, Sum.inl (fun _ => 0))), (a (26 + 3), Sum.inl (gc G 5, 6, Sum.inr (Sum.inr (Sum.inr (Sum.inr (fun i => if i < 6 then some (a (26 + (4 + i))) else none)))))), (a (26 + 4), Sum.inl (gc G 0, 10, Sum.inl (fun _ => 0))), (a (26 + 5), Sum.inl (gc G 0, 10, Sum.inl (fun _ => 0))), (a (26 + 6), Sum.inl (gc G 0, 10, Sum.inl (fun _ => 0))), (a (26 + 7), Sum.inl (gc G 0, 10, Sum.inl (fun _ => 0))), (a (26 + 8), Sum.inl (gc G 0, 10, Sum.inl (fun _ => 0))), (a (26 + 9), Sum.inl (gc G 0, 10, Sum.inl (fun _ => 0))), (a (26 + 10), Sum.inl (gc G 0, 1024, Sum.inl (fun _ => 0))), (a (26 + 11), Sum.inl (gc G 5, 6, Sum.inr (Sum.inr (Sum.inr (Sum.inr (fun i => if i < 6 then some (a (26 + (12 + i))) else none)))))), (a (26 + 12), Sum.inl (gc G 0, 1024, Sum.inl (fun _ => 0))), (a (26 + 13), Sum.inl (gc G 0, 1024, Sum.inl (fun _ => 0))), (a (26 + 14), Sum.inl (gc G 0, 1024, Sum.inl (fun _ => 0))), (a (26 + 15), Sum.inl (gc G 0, 1024, Sum.inl (fun _ => 0))), (a (26 + 16), Sum.inl (gc G 0, 1024, Sum.inl (fun _ => 0))), (a (26 + 17), Sum.inl (gc G 0, 1024, Sum.inl (fun _ => 0))), (a (26 + 18), Sum.inl (gc G 0, 10, Sum.inl (fun _ => 0))), (a 45, nP_X5_init G (fun i => a (46 + i))), (a (46 + 0), Sum.inr (7, [.ref (a (46 + 1)), .int 0])), (a (46 + 1), Sum.inl (gc G 0, 50, Sum.inl (fun _ => 0))), (a 48, nP_X4_init G (fun i => a (49 + i))), (a (49 + 0), Sum.inl (gc G 3, 10, Sum.inr (Sum.inr (Sum.inr (Sum.inr (fun _ => none)))))), (a (49 + 1), Sum.inl (gc G 0, 10, Sum.inl (fun _ => 0))), (a (49 + 2), Sum.inl (gc G 0, 40, Sum.inl (fun _ => 0))), (a (49 + 3), Sum.inl (gc G 0, 40, Sum.inl (fun _ => 0))), (a (49 + 4), Sum.inl (gc G 0, 40, Sum.inl (fun _ => 0))), (a (49 + 5), Sum.inl (gc G 0, 40, Sum.inl (fun _ => 0))), (a (49 + 6), Sum.inl (gc G 0, 6, Sum.inl (fun _ => 0))), (a (49 + 7), Sum.inl (gc G 0, 6, Sum.inl (fun _ => 0))), (a (49 + 8), Sum.inl (gc G 0, 6, Sum.inl (fun _ => 0))), (a (49 + 9), Sum.inr (7, [.ref (a (49 + 10)), .int 0])), (a (49 + 10), Sum.inl (gc G 0, 50, Sum.inl (fun _ => 0))), (a (49 + 11), Sum.inr (7, [.ref (a (49 + 12)), .int 0])), (a (49 + 12), Sum.inl (gc G 0, 20, Sum.inl (fun _ => 0))), (a (49 + 13), Sum.inl (gc G 4, 3, Sum.inr (Sum.inr (Sum.inr (Sum.inr (va_up (va_up (va_up (fun _ => none) 0 (some (a (49 + 14)))) 1 (some (a (49 + 16)))) 2 (some (a (49 + 18))))))))), (a (49 + 14), Sum.inr (7, [.ref (a (49 + 15)), .int 0])), (a (49 + 15), Sum.inl (gc G 0, 50, Sum.inl (fun _ => 0))), (a (49 + 16), Sum.inr (7, [.ref (a (49 + 17)), .int 0])), (a (49 + 17), Sum.inl (gc G 0, 50, Sum.inl (fun _ => 0))), (a (49 + 18), Sum.inr (7, [.ref (a (49 + 19)), .int 0])), (a (49 + 19), Sum.inl (gc G 0, 50, Sum.inl (fun _ => 0))), (a 69, Sum.inr (7, [.ref (a 70), .int 0])), (a 70, Sum.inl (gc G 0, 40, Sum.inl (fun _ => 0))), (a 71, Sum.inl (gc G 4, 4, Sum.inr (Sum.inr (Sum.inr (Sum.inr (va_up (va_up (va_up (va_up (fun _ => none) 0 (some (a 74))) 1 (some (a 76))) 2 (some (a 78))) 3 (some (a 80)))))))), (a 72, Sum.inl (gc G 0, 4, Sum.inl (fun _ => 0))), (a 73, Sum.inl (gc G 0, 6, Sum.inl (fun _ => 0))), (a 74, Sum.inr (7, [.ref (a 75), .int 0])), (a 75, Sum.inl (gc G 0, 24, Sum.inl (fun _ => 0))), (a 76, Sum.inr (7, [.ref (a 77), .int 0])), (a 77, Sum.inl (gc G 0, 24, Sum.inl (fun _ => 0))), (a 78, Sum.inr (7, [.ref (a 79), .int 0])), (a 79, Sum.inl (gc G 0, 24, Sum.inl (fun _ => 0))), (a 80, Sum.inr (7, [.ref (a 81), .int 0])), (a 81, Sum.inl (gc G 0, 24, Sum.inl (fun _ => 0)))] := by
  unfold nN_X11_init
  rw [ex_X4, ex_X4, ex_X8, ex_X10, ex_X5]
  simp only [apw, stw, List.cons_append, List.nil_append, List.set_cons_succ, List.set_cons_zero]
def ixL : List Nat := [0, 1, 49, 22, 26, 46, 83, 72, 73, 74, 2, 3, 4, 5, 6, 7, 8, 9, 10, 15, 50, 51, 52, 53, 54, 55, 56, 57, 58, 63, 23, 24, 25, 27, 28, 29, 30, 37, 38, 45, 31, 32, 33, 34, 35, 36, 39, 40, 41, 42, 43, 44, 11, 12, 13, 14, 16, 17, 18, 19, 20, 21, 59, 60, 61, 62, 64, 65, 66, 67, 68, 69, 47, 48, 70, 71, 75, 76, 77, 78, 79, 80, 81, 82, 84, 85, 86, 87, 88, 89, 90, 91, 92, 93, 94, 95, 96, 97, 98, 99, 100, 101, 102, 103, 104, 105, 106, 107, 108, 109]
def adr (p q : Nat) (a b : Nat → Nat) (k : Nat) : Nat := match ixL.getD k 0 with | 0 => p | n + 1 => if n < 82 then a n else if n = 82 then q else b (n - 83)
def rowI (k : Nat) : Nat → Int32 := match k with | 1 => upd (fun _ => 0) 0 100 | 2 => upd (fun _ => 0) 0 100 | 84 => upd (fun _ => 0) 0 100 | 4 => upd (fun _ => 0) 9 46 | 5 => upd (fun _ => 0) 1 72 | _ => fun _ => 0
def σi : St := (0, rowI, fun _ => 0)
def gIn (G : Gx) (p q : Nat) (a b : Nat → Nat) : Gx := (G.1, G.2.1, adr p q a b, G.2.2.2)
def wIn (G : Gx) (p q : Nat) (a b : Nat → Nat) : va_W := ((p, nP_X11_init G a) :: nN_X11_init G a) ++ ((q, nP_X12_init G b) :: nN_X12_init G b)
def wEx (G : Gx) (p q : Nat) (a b : Nat → Nat) : va_W := [(p, nP_X11_init G a), (a 0, nP_X4_init G (fun i => a (1 + i))), (a (1 + 0), Sum.inl (gc G 3, 10, Sum.inr (Sum.inr (Sum.inr (Sum.inr (fun _ => none)))))), (a (1 + 1), Sum.inl (gc G 0, 10, Sum.inl (fun _ => 0))), (a (1 + 2), Sum.inl (gc G 0, 40, Sum.inl (fun _ => 0))), (a (1 + 3), Sum.inl (gc G 0, 40, Sum.inl (fun _ => 0))), (a (1 + 4), Sum.inl (gc G 0, 40, Sum.inl (fun _ => 0))), (a (1 + 5), Sum.inl (gc G 0, 40, Sum.inl (fun _ => 0))), (a (1 + 6), Sum.inl (gc G 0, 6, Sum.inl (fun _ => 0))), (a (1 + 7), Sum.inl (gc G 0, 6, Sum.inl (fun _ => 0))), (a (1 + 8), Sum.inl (gc G 0, 6, Sum.inl (fun _ => 0))), (a (1 + 9), Sum.inr (7, [.ref (a (1 + 10)), .int 0])), (a (1 + 10), Sum.inl (gc G 0, 50, Sum.inl (fun _ => 0))), (a (1 + 11), Sum.inr (7, [.ref (a (1 + 12)), .int 0])), (a (1 + 12), Sum.inl (gc G 0, 20, Sum.inl (fun _ => 0))), (a (1 + 13), Sum.inl (gc G 4, 3, Sum.inr (Sum.inr (Sum.inr (Sum.inr (va_up (va_up (va_up (fun _ => none) 0 (some (a (1 + 14)))) 1 (some (a (1 + 16)))) 2 (some (a (1 + 18))))))))), (a (1 + 14), Sum.inr (7, [.ref (a (1 + 15)), .int 0])), (a (1 + 15), Sum.inl (gc G 0, 50, Sum.inl (fun _ => 0))), (a (1 + 16), Sum.inr (7, [.ref (a (1 + 17)), .int 0])), (a (1 + 17), Sum.inl (gc G 0, 50, Sum.inl (fun _ => 0))), (a (1 + 18), Sum.inr (7, [.ref (a (1 + 19)), .int 0])), (a (1 + 19), Sum.inl (gc G 0, 50, Sum.inl (fun _ => 0))), (a 21, nP_X10_init G (fun i => a (22 + i)) (a 0)), (a (22 + 0), Sum.inl (gc G 0, 26, Sum.inl (fun _ => 0))), (a (22 + 1), Sum.inl (gc G 0, 50, Sum.inl (fun _ => 0))), (a (22 + 2), Sum.inl (gc G 0, 10, Sum.inl (fun _ => 0))), (a 25, nP_X8_init G (fun i => a (26 + i)) (a 0) (a 21)), (a (26 + 0), Sum.inl (gc G 0, 10, Sum.inl (fun _ => 0))), (a (26 + 1), Sum.inl (gc G 0, 10, Sum.inl (fun _ => 0))), (a (26 + 2), Sum.inl (gc G 0, 6, Sum.inl (fun _ => 0))), (a (26 + 3), Sum.inl (gc G 5, 6, Sum.inr (Sum.inr (Sum.inr (Sum.inr (fun i => if i < 6 then some (a (26 + (4 + i))) else none)))))), (a (26 + 4), Sum.inl (gc G 0, 10, Sum.inl (fun _ => 0))), (a (26 + 5), Sum.inl (gc G 0, 10, Sum.inl (fun _ => 0))), (a (26 + 6), Sum.inl (gc G 0, 10, Sum.inl (fun _ => 0))), (a (26 + 7), Sum.inl (gc G 0, 10, Sum.inl (fun _ => 0))), (a (26 + 8), Sum.inl (gc G 0, 10, Sum.inl (fun _ => 0))), (a (26 + 9), Sum.inl (gc G 0, 10, Sum.inl (fun _ => 0))), (a (26 + 10), Sum.inl (gc G 0, 1024, Sum.inl (fun _ => 0))), (a (26 + 11), Sum.inl (gc G 5, 6, Sum.inr (Sum.inr (Sum.inr (Sum.inr (fun i => if i < 6 then some (a (26 + (12 + i))) else none)))))), (a (26 + 12), Sum.inl (gc G 0, 1024, Sum.inl (fun _ => 0))), (a (26 + 13), Sum.inl (gc G 0, 1024, Sum.inl (fun _ => 0))), (a (26 + 14), Sum.inl (gc G 0, 1024, Sum.inl (fun _ => 0))), (a (26 + 15), Sum.inl (gc G 0, 1024, Sum.inl (fun _ => 0))), (a (26 + 16), Sum.inl (gc G 0, 1024, Sum.inl (fun _ => 0))), (a (26 + 17), Sum.inl (gc G 0, 1024, Sum.inl (fun _ => 0))), (a (26 + 18), Sum.inl (gc G 0, 10, Sum.inl (fun _ => 0))), (a 45, nP_X5_init G (fun i => a (46 + i))), (a (46 + 0), Sum.inr (7, [.ref (a (46 + 1)), .int 0])), (a (46 + 1), Sum.inl (gc G 0, 50, Sum.inl (fun _ => 0))), (a 48, nP_X4_init G (fun i => a (49 + i))), (a (49 + 0), Sum.inl (gc G 3, 10, Sum.inr (Sum.inr (Sum.inr (Sum.inr (fun _ => none)))))), (a (49 + 1), Sum.inl (gc G 0, 10, Sum.inl (fun _ => 0))), (a (49 + 2), Sum.inl (gc G 0, 40, Sum.inl (fun _ => 0))), (a (49 + 3), Sum.inl (gc G 0, 40, Sum.inl (fun _ => 0))), (a (49 + 4), Sum.inl (gc G 0, 40, Sum.inl (fun _ => 0))), (a (49 + 5), Sum.inl (gc G 0, 40, Sum.inl (fun _ => 0))), (a (49 + 6), Sum.inl (gc G 0, 6, Sum.inl (fun _ => 0))), (a (49 + 7), Sum.inl (gc G 0, 6, Sum.inl (fun _ => 0))), (a (49 + 8), Sum.inl (gc G 0, 6, Sum.inl (fun _ => 0))), (a (49 + 9), Sum.inr (7, [.ref (a (49 + 10)), .int 0])), (a (49 + 10), Sum.inl (gc G 0, 50, Sum.inl (fun _ => 0))), (a (49 + 11), Sum.inr (7, [.ref (a (49 + 12)), .int 0])), (a (49 + 12), Sum.inl (gc G 0, 20, Sum.inl (fun _ => 0))), (a (49 + 13), Sum.inl (gc G 4, 3, Sum.inr (Sum.inr (Sum.inr (Sum.inr (va_up (va_up (va_up (fun _ => none) 0 (some (a (49 + 14)))) 1 (some (a (49 + 16)))) 2 (some (a (49 + 18))))))))), (a (49 + 14), Sum.inr (7, [.ref (a (49 + 15)), .int 0])), (a (49 + 15), Sum.inl (gc G 0, 50, Sum.inl (fun _ => 0))), (a (49 + 16), Sum.inr (7, [.ref (a (49 + 17)), .int 0])), (a (49 + 17), Sum.inl (gc G 0, 50, Sum.inl (fun _ => 0))), (a (49 + 18), Sum.inr (7, [.ref (a (49 + 19)), .int 0])), (a (49 + 19), Sum.inl (gc G 0, 50, Sum.inl (fun _ => 0))), (a 69, Sum.inr (7, [.ref (a 70), .int 0])), (a 70, Sum.inl (gc G 0, 40, Sum.inl (fun _ => 0))), (a 71, Sum.inl (gc G 4, 4, Sum.inr (Sum.inr (Sum.inr (Sum.inr (va_up (va_up (va_up (va_up (fun _ => none) 0 (some (a 74))) 1 (some (a 76))) 2 (some (a 78))) 3 (some (a 80)))))))), (a 72, Sum.inl (gc G 0, 4, Sum.inl (fun _ => 0))), (a 73, Sum.inl (gc G 0, 6, Sum.inl (fun _ => 0))), (a 74, Sum.inr (7, [.ref (a 75), .int 0])), (a 75, Sum.inl (gc G 0, 24, Sum.inl (fun _ => 0))), (a 76, Sum.inr (7, [.ref (a 77), .int 0])), (a 77, Sum.inl (gc G 0, 24, Sum.inl (fun _ => 0))), (a 78, Sum.inr (7, [.ref (a 79), .int 0])), (a 79, Sum.inl (gc G 0, 24, Sum.inl (fun _ => 0))), (a 80, Sum.inr (7, [.ref (a 81), .int 0])), (a 81, Sum.inl (gc G 0, 24, Sum.inl (fun _ => 0))), (q, nP_X12_init G b), (b 0, Sum.inl (gc G 0, 466, Sum.inl (upd (fun _ => 0) 0 100))), (b 1, Sum.inl (gc G 0, 466, Sum.inl (fun _ => 0))), (b 2, Sum.inl (gc G 0, 6, Sum.inl (fun _ => 0))), (b 3, Sum.inl (gc G 0, 10, Sum.inl (fun _ => 0))), (b 4, Sum.inl (gc G 0, 100, Sum.inl (fun _ => 0))), (b 5, Sum.inl (gc G 0, 100, Sum.inl (fun _ => 0))), (b 6, Sum.inl (gc G 0, 6, Sum.inl (fun _ => 0))), (b 7, Sum.inl (gc G 0, 52, Sum.inl (fun _ => 0))), (b 8, Sum.inl (gc G 0, 52, Sum.inl (fun _ => 0))), (b 9, Sum.inl (gc G 0, 52, Sum.inl (fun _ => 0))), (b 10, Sum.inl (gc G 0, 4, Sum.inl (fun _ => 0))), (b 11, Sum.inl (gc G 0, 11, Sum.inl (fun _ => 0))), (b 12, Sum.inl (gc G 0, 11, Sum.inl (fun _ => 0))), (b 13, Sum.inl (gc G 0, 10, Sum.inl (fun _ => 0))), (b 14, Sum.inl (gc G 2, 1024, Sum.inl (fun _ => 0))), (b 15, Sum.inl (gc G 0, 1024, Sum.inl (fun _ => 0))), (b 16, Sum.inl (gc G 0, 7168, Sum.inl (fun _ => 0))), (b 17, Sum.inl (gc G 1, 2048, Sum.inr (Sum.inl (fun _ => 0)))), (b 18, Sum.inl (gc G 0, 10, Sum.inl (fun _ => 0))), (b 19, Sum.inl (gc G 0, 10, Sum.inl (fun _ => 0))), (b 20, Sum.inl (gc G 0, 10, Sum.inl (fun _ => 0))), (b 21, Sum.inl (gc G 0, 40, Sum.inl (fun _ => 0))), (b 22, Sum.inl (gc G 0, 4, Sum.inl (fun _ => 0))), (b 23, Sum.inl (gc G 0, 4, Sum.inl (fun _ => 0))), (b 24, Sum.inl (gc G 0, 96, Sum.inl (fun _ => 0))), (b 25, Sum.inl (gc G 0, 24, Sum.inl (fun _ => 0)))]
theorem wIn_ex : wIn G p q a b = wEx G p q a b := by
  unfold wIn wEx
  rw [ex_X11, ex_X12]
  simp only [List.cons_append, List.nil_append]
theorem wi_0 : ((p, nP_X11_init G a) : Nat × va_E) = (adr p q a b 0, lay (gIn G p q a b) 0 (rowI 0) (fun _ => 0)) := rfl
theorem wi_1 : ((a 0, nP_X4_init G (fun i => a (1 + i))) : Nat × va_E) = (adr p q a b 1, lay (gIn G p q a b) 1 (rowI 1) (fun _ => 0)) := rfl
theorem wi_2 : ((a 48, nP_X4_init G (fun i => a (49 + i))) : Nat × va_E) = (adr p q a b 2, lay (gIn G p q a b) 2 (rowI 2) (fun _ => 0)) := rfl
theorem wi_3 : ((a 21, nP_X10_init G (fun i => a (22 + i)) (a 0)) : Nat × va_E) = (adr p q a b 3, lay (gIn G p q a b) 3 (rowI 3) (fun _ => 0)) := rfl
theorem wi_4 : ((a 25, nP_X8_init G (fun i => a (26 + i)) (a 0) (a 21)) : Nat × va_E) = (adr p q a b 4, lay (gIn G p q a b) 4 (rowI 4) (fun _ => 0)) := rfl
theorem wi_5 : ((a 45, nP_X5_init G (fun i => a (46 + i))) : Nat × va_E) = (adr p q a b 5, lay (gIn G p q a b) 5 (rowI 5) (fun _ => 0)) := rfl
theorem wi_6 : ((q, nP_X12_init G b) : Nat × va_E) = (adr p q a b 6, lay (gIn G p q a b) 6 (rowI 6) (fun _ => 0)) := rfl
theorem wi_7 : ((a 71, Sum.inl (gc G 4, 4, Sum.inr (Sum.inr (Sum.inr (Sum.inr (va_up (va_up (va_up (va_up (fun _ => none) 0 (some (a 74))) 1 (some (a 76))) 2 (some (a 78))) 3 (some (a 80)))))))) : Nat × va_E) = (adr p q a b 7, lay (gIn G p q a b) 7 (rowI 7) (fun _ => 0)) := by
  have e : (va_up (va_up (va_up (va_up (fun _ => none) 0 (some (a 74))) 1 (some (a 76))) 2 (some (a 78))) 3 (some (a 80))) = (fun j : Nat => if j < 4 then some (ga (gIn G p q a b) (76 + 2 * j)) else none) := funext fun j => by
    match j with
    | 0 => rfl
    | 1 => rfl
    | 2 => rfl
    | 3 => rfl
    | j + 4 => exact (if_neg (by omega)).symm
  rw [e]
  rfl
theorem wi_8 : ((a 72, Sum.inl (gc G 0, 4, Sum.inl (fun _ => 0))) : Nat × va_E) = (adr p q a b 8, lay (gIn G p q a b) 8 (rowI 8) (fun _ => 0)) := rfl
theorem wi_9 : ((a 73, Sum.inl (gc G 0, 6, Sum.inl (fun _ => 0))) : Nat × va_E) = (adr p q a b 9, lay (gIn G p q a b) 9 (rowI 9) (fun _ => 0)) := rfl
theorem wi_10 : ((a (1 + 0), Sum.inl (gc G 3, 10, Sum.inr (Sum.inr (Sum.inr (Sum.inr (fun _ => none)))))) : Nat × va_E) = (adr p q a b 10, lay (gIn G p q a b) 10 (rowI 10) (fun _ => 0)) := by
  have e : (fun _ => none) = (fun j : Nat => if j < 10 ∧ (0 : Int32) ≠ 0 then some (ga (gIn G p q a b) (0 : Int32).toNatClampNeg) else none) := funext fun j => (if_neg (fun h => h.2 rfl)).symm
  rw [e]
  rfl
theorem wi_11 : ((a (1 + 1), Sum.inl (gc G 0, 10, Sum.inl (fun _ => 0))) : Nat × va_E) = (adr p q a b 11, lay (gIn G p q a b) 11 (rowI 11) (fun _ => 0)) := rfl
theorem wi_12 : ((a (1 + 2), Sum.inl (gc G 0, 40, Sum.inl (fun _ => 0))) : Nat × va_E) = (adr p q a b 12, lay (gIn G p q a b) 12 (rowI 12) (fun _ => 0)) := rfl
theorem wi_13 : ((a (1 + 3), Sum.inl (gc G 0, 40, Sum.inl (fun _ => 0))) : Nat × va_E) = (adr p q a b 13, lay (gIn G p q a b) 13 (rowI 13) (fun _ => 0)) := rfl
theorem wi_14 : ((a (1 + 4), Sum.inl (gc G 0, 40, Sum.inl (fun _ => 0))) : Nat × va_E) = (adr p q a b 14, lay (gIn G p q a b) 14 (rowI 14) (fun _ => 0)) := rfl
theorem wi_15 : ((a (1 + 5), Sum.inl (gc G 0, 40, Sum.inl (fun _ => 0))) : Nat × va_E) = (adr p q a b 15, lay (gIn G p q a b) 15 (rowI 15) (fun _ => 0)) := rfl
theorem wi_16 : ((a (1 + 6), Sum.inl (gc G 0, 6, Sum.inl (fun _ => 0))) : Nat × va_E) = (adr p q a b 16, lay (gIn G p q a b) 16 (rowI 16) (fun _ => 0)) := rfl
theorem wi_17 : ((a (1 + 7), Sum.inl (gc G 0, 6, Sum.inl (fun _ => 0))) : Nat × va_E) = (adr p q a b 17, lay (gIn G p q a b) 17 (rowI 17) (fun _ => 0)) := rfl
theorem wi_18 : ((a (1 + 8), Sum.inl (gc G 0, 6, Sum.inl (fun _ => 0))) : Nat × va_E) = (adr p q a b 18, lay (gIn G p q a b) 18 (rowI 18) (fun _ => 0)) := rfl
theorem wi_19 : ((a (1 + 13), Sum.inl (gc G 4, 3, Sum.inr (Sum.inr (Sum.inr (Sum.inr (va_up (va_up (va_up (fun _ => none) 0 (some (a (1 + 14)))) 1 (some (a (1 + 16)))) 2 (some (a (1 + 18))))))))) : Nat × va_E) = (adr p q a b 19, lay (gIn G p q a b) 19 (rowI 19) (fun _ => 0)) := by
  have e : (va_up (va_up (va_up (fun _ => none) 0 (some (a (1 + 14)))) 1 (some (a (1 + 16)))) 2 (some (a (1 + 18)))) = (fun j : Nat => if j < 3 then some (ga (gIn G p q a b) (56 + 2 * j)) else none) := funext fun j => by
    match j with
    | 0 => rfl
    | 1 => rfl
    | 2 => rfl
    | j + 3 => exact (if_neg (by omega)).symm
  rw [e]
  rfl
theorem wi_20 : ((a (49 + 0), Sum.inl (gc G 3, 10, Sum.inr (Sum.inr (Sum.inr (Sum.inr (fun _ => none)))))) : Nat × va_E) = (adr p q a b 20, lay (gIn G p q a b) 20 (rowI 20) (fun _ => 0)) := by
  have e : (fun _ => none) = (fun j : Nat => if j < 10 ∧ (0 : Int32) ≠ 0 then some (ga (gIn G p q a b) (0 : Int32).toNatClampNeg) else none) := funext fun j => (if_neg (fun h => h.2 rfl)).symm
  rw [e]
  rfl
theorem wi_21 : ((a (49 + 1), Sum.inl (gc G 0, 10, Sum.inl (fun _ => 0))) : Nat × va_E) = (adr p q a b 21, lay (gIn G p q a b) 21 (rowI 21) (fun _ => 0)) := rfl
theorem wi_22 : ((a (49 + 2), Sum.inl (gc G 0, 40, Sum.inl (fun _ => 0))) : Nat × va_E) = (adr p q a b 22, lay (gIn G p q a b) 22 (rowI 22) (fun _ => 0)) := rfl
theorem wi_23 : ((a (49 + 3), Sum.inl (gc G 0, 40, Sum.inl (fun _ => 0))) : Nat × va_E) = (adr p q a b 23, lay (gIn G p q a b) 23 (rowI 23) (fun _ => 0)) := rfl
theorem wi_24 : ((a (49 + 4), Sum.inl (gc G 0, 40, Sum.inl (fun _ => 0))) : Nat × va_E) = (adr p q a b 24, lay (gIn G p q a b) 24 (rowI 24) (fun _ => 0)) := rfl
theorem wi_25 : ((a (49 + 5), Sum.inl (gc G 0, 40, Sum.inl (fun _ => 0))) : Nat × va_E) = (adr p q a b 25, lay (gIn G p q a b) 25 (rowI 25) (fun _ => 0)) := rfl
theorem wi_26 : ((a (49 + 6), Sum.inl (gc G 0, 6, Sum.inl (fun _ => 0))) : Nat × va_E) = (adr p q a b 26, lay (gIn G p q a b) 26 (rowI 26) (fun _ => 0)) := rfl
theorem wi_27 : ((a (49 + 7), Sum.inl (gc G 0, 6, Sum.inl (fun _ => 0))) : Nat × va_E) = (adr p q a b 27, lay (gIn G p q a b) 27 (rowI 27) (fun _ => 0)) := rfl
theorem wi_28 : ((a (49 + 8), Sum.inl (gc G 0, 6, Sum.inl (fun _ => 0))) : Nat × va_E) = (adr p q a b 28, lay (gIn G p q a b) 28 (rowI 28) (fun _ => 0)) := rfl
theorem wi_29 : ((a (49 + 13), Sum.inl (gc G 4, 3, Sum.inr (Sum.inr (Sum.inr (Sum.inr (va_up (va_up (va_up (fun _ => none) 0 (some (a (49 + 14)))) 1 (some (a (49 + 16)))) 2 (some (a (49 + 18))))))))) : Nat × va_E) = (adr p q a b 29, lay (gIn G p q a b) 29 (rowI 29) (fun _ => 0)) := by
  have e : (va_up (va_up (va_up (fun _ => none) 0 (some (a (49 + 14)))) 1 (some (a (49 + 16)))) 2 (some (a (49 + 18)))) = (fun j : Nat => if j < 3 then some (ga (gIn G p q a b) (66 + 2 * j)) else none) := funext fun j => by
    match j with
    | 0 => rfl
    | 1 => rfl
    | 2 => rfl
    | j + 3 => exact (if_neg (by omega)).symm
  rw [e]
  rfl
theorem wi_30 : ((a (22 + 0), Sum.inl (gc G 0, 26, Sum.inl (fun _ => 0))) : Nat × va_E) = (adr p q a b 30, lay (gIn G p q a b) 30 (rowI 30) (fun _ => 0)) := rfl
theorem wi_31 : ((a (22 + 1), Sum.inl (gc G 0, 50, Sum.inl (fun _ => 0))) : Nat × va_E) = (adr p q a b 31, lay (gIn G p q a b) 31 (rowI 31) (fun _ => 0)) := rfl
theorem wi_32 : ((a (22 + 2), Sum.inl (gc G 0, 10, Sum.inl (fun _ => 0))) : Nat × va_E) = (adr p q a b 32, lay (gIn G p q a b) 32 (rowI 32) (fun _ => 0)) := rfl
theorem wi_33 : ((a (26 + 0), Sum.inl (gc G 0, 10, Sum.inl (fun _ => 0))) : Nat × va_E) = (adr p q a b 33, lay (gIn G p q a b) 33 (rowI 33) (fun _ => 0)) := rfl
theorem wi_34 : ((a (26 + 1), Sum.inl (gc G 0, 10, Sum.inl (fun _ => 0))) : Nat × va_E) = (adr p q a b 34, lay (gIn G p q a b) 34 (rowI 34) (fun _ => 0)) := rfl
theorem wi_35 : ((a (26 + 2), Sum.inl (gc G 0, 6, Sum.inl (fun _ => 0))) : Nat × va_E) = (adr p q a b 35, lay (gIn G p q a b) 35 (rowI 35) (fun _ => 0)) := rfl
theorem wi_36 : ((a (26 + 3), Sum.inl (gc G 5, 6, Sum.inr (Sum.inr (Sum.inr (Sum.inr (fun i => if i < 6 then some (a (26 + (4 + i))) else none)))))) : Nat × va_E) = (adr p q a b 36, lay (gIn G p q a b) 36 (rowI 36) (fun _ => 0)) := by
  have e : (fun i : Nat => if i < 6 then some (a (26 + (4 + i))) else none) = (fun j : Nat => if j < 6 then some (ga (gIn G p q a b) (40 + j)) else none) := funext fun j => by
    match j with
    | 0 => rfl
    | 1 => rfl
    | 2 => rfl
    | 3 => rfl
    | 4 => rfl
    | 5 => rfl
    | j + 6 => exact (if_neg (by omega)).trans (if_neg (by omega)).symm
  rw [e]
  rfl
theorem wi_37 : ((a (26 + 10), Sum.inl (gc G 0, 1024, Sum.inl (fun _ => 0))) : Nat × va_E) = (adr p q a b 37, lay (gIn G p q a b) 37 (rowI 37) (fun _ => 0)) := rfl
theorem wi_38 : ((a (26 + 11), Sum.inl (gc G 5, 6, Sum.inr (Sum.inr (Sum.inr (Sum.inr (fun i => if i < 6 then some (a (26 + (12 + i))) else none)))))) : Nat × va_E) = (adr p q a b 38, lay (gIn G p q a b) 38 (rowI 38) (fun _ => 0)) := by
  have e : (fun i : Nat => if i < 6 then some (a (26 + (12 + i))) else none) = (fun j : Nat => if j < 6 then some (ga (gIn G p q a b) (46 + j)) else none) := funext fun j => by
    match j with
    | 0 => rfl
    | 1 => rfl
    | 2 => rfl
    | 3 => rfl
    | 4 => rfl
    | 5 => rfl
    | j + 6 => exact (if_neg (by omega)).trans (if_neg (by omega)).symm
  rw [e]
  rfl
theorem wi_39 : ((a (26 + 18), Sum.inl (gc G 0, 10, Sum.inl (fun _ => 0))) : Nat × va_E) = (adr p q a b 39, lay (gIn G p q a b) 39 (rowI 39) (fun _ => 0)) := rfl
theorem wi_40 : ((a (26 + 4), Sum.inl (gc G 0, 10, Sum.inl (fun _ => 0))) : Nat × va_E) = (adr p q a b 40, lay (gIn G p q a b) 40 (rowI 40) (fun _ => 0)) := rfl
theorem wi_41 : ((a (26 + 5), Sum.inl (gc G 0, 10, Sum.inl (fun _ => 0))) : Nat × va_E) = (adr p q a b 41, lay (gIn G p q a b) 41 (rowI 41) (fun _ => 0)) := rfl
theorem wi_42 : ((a (26 + 6), Sum.inl (gc G 0, 10, Sum.inl (fun _ => 0))) : Nat × va_E) = (adr p q a b 42, lay (gIn G p q a b) 42 (rowI 42) (fun _ => 0)) := rfl
theorem wi_43 : ((a (26 + 7), Sum.inl (gc G 0, 10, Sum.inl (fun _ => 0))) : Nat × va_E) = (adr p q a b 43, lay (gIn G p q a b) 43 (rowI 43) (fun _ => 0)) := rfl
theorem wi_44 : ((a (26 + 8), Sum.inl (gc G 0, 10, Sum.inl (fun _ => 0))) : Nat × va_E) = (adr p q a b 44, lay (gIn G p q a b) 44 (rowI 44) (fun _ => 0)) := rfl
theorem wi_45 : ((a (26 + 9), Sum.inl (gc G 0, 10, Sum.inl (fun _ => 0))) : Nat × va_E) = (adr p q a b 45, lay (gIn G p q a b) 45 (rowI 45) (fun _ => 0)) := rfl
theorem wi_46 : ((a (26 + 12), Sum.inl (gc G 0, 1024, Sum.inl (fun _ => 0))) : Nat × va_E) = (adr p q a b 46, lay (gIn G p q a b) 46 (rowI 46) (fun _ => 0)) := rfl
theorem wi_47 : ((a (26 + 13), Sum.inl (gc G 0, 1024, Sum.inl (fun _ => 0))) : Nat × va_E) = (adr p q a b 47, lay (gIn G p q a b) 47 (rowI 47) (fun _ => 0)) := rfl
theorem wi_48 : ((a (26 + 14), Sum.inl (gc G 0, 1024, Sum.inl (fun _ => 0))) : Nat × va_E) = (adr p q a b 48, lay (gIn G p q a b) 48 (rowI 48) (fun _ => 0)) := rfl
theorem wi_49 : ((a (26 + 15), Sum.inl (gc G 0, 1024, Sum.inl (fun _ => 0))) : Nat × va_E) = (adr p q a b 49, lay (gIn G p q a b) 49 (rowI 49) (fun _ => 0)) := rfl
theorem wi_50 : ((a (26 + 16), Sum.inl (gc G 0, 1024, Sum.inl (fun _ => 0))) : Nat × va_E) = (adr p q a b 50, lay (gIn G p q a b) 50 (rowI 50) (fun _ => 0)) := rfl
theorem wi_51 : ((a (26 + 17), Sum.inl (gc G 0, 1024, Sum.inl (fun _ => 0))) : Nat × va_E) = (adr p q a b 51, lay (gIn G p q a b) 51 (rowI 51) (fun _ => 0)) := rfl
theorem wi_52 : ((a (1 + 9), Sum.inr (7, [.ref (a (1 + 10)), .int 0])) : Nat × va_E) = (adr p q a b 52, lay (gIn G p q a b) 52 (rowI 52) (fun _ => 0)) := rfl
theorem wi_53 : ((a (1 + 10), Sum.inl (gc G 0, 50, Sum.inl (fun _ => 0))) : Nat × va_E) = (adr p q a b 53, lay (gIn G p q a b) 53 (rowI 53) (fun _ => 0)) := rfl
theorem wi_54 : ((a (1 + 11), Sum.inr (7, [.ref (a (1 + 12)), .int 0])) : Nat × va_E) = (adr p q a b 54, lay (gIn G p q a b) 54 (rowI 54) (fun _ => 0)) := rfl
theorem wi_55 : ((a (1 + 12), Sum.inl (gc G 0, 20, Sum.inl (fun _ => 0))) : Nat × va_E) = (adr p q a b 55, lay (gIn G p q a b) 55 (rowI 55) (fun _ => 0)) := rfl
theorem wi_56 : ((a (1 + 14), Sum.inr (7, [.ref (a (1 + 15)), .int 0])) : Nat × va_E) = (adr p q a b 56, lay (gIn G p q a b) 56 (rowI 56) (fun _ => 0)) := rfl
theorem wi_57 : ((a (1 + 15), Sum.inl (gc G 0, 50, Sum.inl (fun _ => 0))) : Nat × va_E) = (adr p q a b 57, lay (gIn G p q a b) 57 (rowI 57) (fun _ => 0)) := rfl
theorem wi_58 : ((a (1 + 16), Sum.inr (7, [.ref (a (1 + 17)), .int 0])) : Nat × va_E) = (adr p q a b 58, lay (gIn G p q a b) 58 (rowI 58) (fun _ => 0)) := rfl
theorem wi_59 : ((a (1 + 17), Sum.inl (gc G 0, 50, Sum.inl (fun _ => 0))) : Nat × va_E) = (adr p q a b 59, lay (gIn G p q a b) 59 (rowI 59) (fun _ => 0)) := rfl
theorem wi_60 : ((a (1 + 18), Sum.inr (7, [.ref (a (1 + 19)), .int 0])) : Nat × va_E) = (adr p q a b 60, lay (gIn G p q a b) 60 (rowI 60) (fun _ => 0)) := rfl
theorem wi_61 : ((a (1 + 19), Sum.inl (gc G 0, 50, Sum.inl (fun _ => 0))) : Nat × va_E) = (adr p q a b 61, lay (gIn G p q a b) 61 (rowI 61) (fun _ => 0)) := rfl
theorem wi_62 : ((a (49 + 9), Sum.inr (7, [.ref (a (49 + 10)), .int 0])) : Nat × va_E) = (adr p q a b 62, lay (gIn G p q a b) 62 (rowI 62) (fun _ => 0)) := rfl
theorem wi_63 : ((a (49 + 10), Sum.inl (gc G 0, 50, Sum.inl (fun _ => 0))) : Nat × va_E) = (adr p q a b 63, lay (gIn G p q a b) 63 (rowI 63) (fun _ => 0)) := rfl
theorem wi_64 : ((a (49 + 11), Sum.inr (7, [.ref (a (49 + 12)), .int 0])) : Nat × va_E) = (adr p q a b 64, lay (gIn G p q a b) 64 (rowI 64) (fun _ => 0)) := rfl
theorem wi_65 : ((a (49 + 12), Sum.inl (gc G 0, 20, Sum.inl (fun _ => 0))) : Nat × va_E) = (adr p q a b 65, lay (gIn G p q a b) 65 (rowI 65) (fun _ => 0)) := rfl
theorem wi_66 : ((a (49 + 14), Sum.inr (7, [.ref (a (49 + 15)), .int 0])) : Nat × va_E) = (adr p q a b 66, lay (gIn G p q a b) 66 (rowI 66) (fun _ => 0)) := rfl
theorem wi_67 : ((a (49 + 15), Sum.inl (gc G 0, 50, Sum.inl (fun _ => 0))) : Nat × va_E) = (adr p q a b 67, lay (gIn G p q a b) 67 (rowI 67) (fun _ => 0)) := rfl
theorem wi_68 : ((a (49 + 16), Sum.inr (7, [.ref (a (49 + 17)), .int 0])) : Nat × va_E) = (adr p q a b 68, lay (gIn G p q a b) 68 (rowI 68) (fun _ => 0)) := rfl
theorem wi_69 : ((a (49 + 17), Sum.inl (gc G 0, 50, Sum.inl (fun _ => 0))) : Nat × va_E) = (adr p q a b 69, lay (gIn G p q a b) 69 (rowI 69) (fun _ => 0)) := rfl
theorem wi_70 : ((a (49 + 18), Sum.inr (7, [.ref (a (49 + 19)), .int 0])) : Nat × va_E) = (adr p q a b 70, lay (gIn G p q a b) 70 (rowI 70) (fun _ => 0)) := rfl
theorem wi_71 : ((a (49 + 19), Sum.inl (gc G 0, 50, Sum.inl (fun _ => 0))) : Nat × va_E) = (adr p q a b 71, lay (gIn G p q a b) 71 (rowI 71) (fun _ => 0)) := rfl
theorem wi_72 : ((a (46 + 0), Sum.inr (7, [.ref (a (46 + 1)), .int 0])) : Nat × va_E) = (adr p q a b 72, lay (gIn G p q a b) 72 (rowI 72) (fun _ => 0)) := rfl
theorem wi_73 : ((a (46 + 1), Sum.inl (gc G 0, 50, Sum.inl (fun _ => 0))) : Nat × va_E) = (adr p q a b 73, lay (gIn G p q a b) 73 (rowI 73) (fun _ => 0)) := rfl
theorem wi_74 : ((a 69, Sum.inr (7, [.ref (a 70), .int 0])) : Nat × va_E) = (adr p q a b 74, lay (gIn G p q a b) 74 (rowI 74) (fun _ => 0)) := rfl
theorem wi_75 : ((a 70, Sum.inl (gc G 0, 40, Sum.inl (fun _ => 0))) : Nat × va_E) = (adr p q a b 75, lay (gIn G p q a b) 75 (rowI 75) (fun _ => 0)) := rfl
theorem wi_76 : ((a 74, Sum.inr (7, [.ref (a 75), .int 0])) : Nat × va_E) = (adr p q a b 76, lay (gIn G p q a b) 76 (rowI 76) (fun _ => 0)) := rfl
theorem wi_77 : ((a 75, Sum.inl (gc G 0, 24, Sum.inl (fun _ => 0))) : Nat × va_E) = (adr p q a b 77, lay (gIn G p q a b) 77 (rowI 77) (fun _ => 0)) := rfl
theorem wi_78 : ((a 76, Sum.inr (7, [.ref (a 77), .int 0])) : Nat × va_E) = (adr p q a b 78, lay (gIn G p q a b) 78 (rowI 78) (fun _ => 0)) := rfl
theorem wi_79 : ((a 77, Sum.inl (gc G 0, 24, Sum.inl (fun _ => 0))) : Nat × va_E) = (adr p q a b 79, lay (gIn G p q a b) 79 (rowI 79) (fun _ => 0)) := rfl
theorem wi_80 : ((a 78, Sum.inr (7, [.ref (a 79), .int 0])) : Nat × va_E) = (adr p q a b 80, lay (gIn G p q a b) 80 (rowI 80) (fun _ => 0)) := rfl
theorem wi_81 : ((a 79, Sum.inl (gc G 0, 24, Sum.inl (fun _ => 0))) : Nat × va_E) = (adr p q a b 81, lay (gIn G p q a b) 81 (rowI 81) (fun _ => 0)) := rfl
theorem wi_82 : ((a 80, Sum.inr (7, [.ref (a 81), .int 0])) : Nat × va_E) = (adr p q a b 82, lay (gIn G p q a b) 82 (rowI 82) (fun _ => 0)) := rfl
theorem wi_83 : ((a 81, Sum.inl (gc G 0, 24, Sum.inl (fun _ => 0))) : Nat × va_E) = (adr p q a b 83, lay (gIn G p q a b) 83 (rowI 83) (fun _ => 0)) := rfl
theorem wi_84 : ((b 0, Sum.inl (gc G 0, 466, Sum.inl (upd (fun _ => 0) 0 100))) : Nat × va_E) = (adr p q a b 84, lay (gIn G p q a b) 84 (rowI 84) (fun _ => 0)) := rfl
theorem wi_85 : ((b 1, Sum.inl (gc G 0, 466, Sum.inl (fun _ => 0))) : Nat × va_E) = (adr p q a b 85, lay (gIn G p q a b) 85 (rowI 85) (fun _ => 0)) := rfl
theorem wi_86 : ((b 2, Sum.inl (gc G 0, 6, Sum.inl (fun _ => 0))) : Nat × va_E) = (adr p q a b 86, lay (gIn G p q a b) 86 (rowI 86) (fun _ => 0)) := rfl
theorem wi_87 : ((b 3, Sum.inl (gc G 0, 10, Sum.inl (fun _ => 0))) : Nat × va_E) = (adr p q a b 87, lay (gIn G p q a b) 87 (rowI 87) (fun _ => 0)) := rfl
theorem wi_88 : ((b 4, Sum.inl (gc G 0, 100, Sum.inl (fun _ => 0))) : Nat × va_E) = (adr p q a b 88, lay (gIn G p q a b) 88 (rowI 88) (fun _ => 0)) := rfl
theorem wi_89 : ((b 5, Sum.inl (gc G 0, 100, Sum.inl (fun _ => 0))) : Nat × va_E) = (adr p q a b 89, lay (gIn G p q a b) 89 (rowI 89) (fun _ => 0)) := rfl
theorem wi_90 : ((b 6, Sum.inl (gc G 0, 6, Sum.inl (fun _ => 0))) : Nat × va_E) = (adr p q a b 90, lay (gIn G p q a b) 90 (rowI 90) (fun _ => 0)) := rfl
theorem wi_91 : ((b 7, Sum.inl (gc G 0, 52, Sum.inl (fun _ => 0))) : Nat × va_E) = (adr p q a b 91, lay (gIn G p q a b) 91 (rowI 91) (fun _ => 0)) := rfl
theorem wi_92 : ((b 8, Sum.inl (gc G 0, 52, Sum.inl (fun _ => 0))) : Nat × va_E) = (adr p q a b 92, lay (gIn G p q a b) 92 (rowI 92) (fun _ => 0)) := rfl
theorem wi_93 : ((b 9, Sum.inl (gc G 0, 52, Sum.inl (fun _ => 0))) : Nat × va_E) = (adr p q a b 93, lay (gIn G p q a b) 93 (rowI 93) (fun _ => 0)) := rfl
theorem wi_94 : ((b 10, Sum.inl (gc G 0, 4, Sum.inl (fun _ => 0))) : Nat × va_E) = (adr p q a b 94, lay (gIn G p q a b) 94 (rowI 94) (fun _ => 0)) := rfl
theorem wi_95 : ((b 11, Sum.inl (gc G 0, 11, Sum.inl (fun _ => 0))) : Nat × va_E) = (adr p q a b 95, lay (gIn G p q a b) 95 (rowI 95) (fun _ => 0)) := rfl
theorem wi_96 : ((b 12, Sum.inl (gc G 0, 11, Sum.inl (fun _ => 0))) : Nat × va_E) = (adr p q a b 96, lay (gIn G p q a b) 96 (rowI 96) (fun _ => 0)) := rfl
theorem wi_97 : ((b 13, Sum.inl (gc G 0, 10, Sum.inl (fun _ => 0))) : Nat × va_E) = (adr p q a b 97, lay (gIn G p q a b) 97 (rowI 97) (fun _ => 0)) := rfl
theorem wi_98 : ((b 14, Sum.inl (gc G 2, 1024, Sum.inl (fun _ => 0))) : Nat × va_E) = (adr p q a b 98, lay (gIn G p q a b) 98 (rowI 98) (fun _ => 0)) := rfl
theorem wi_99 : ((b 15, Sum.inl (gc G 0, 1024, Sum.inl (fun _ => 0))) : Nat × va_E) = (adr p q a b 99, lay (gIn G p q a b) 99 (rowI 99) (fun _ => 0)) := rfl
theorem wi_100 : ((b 16, Sum.inl (gc G 0, 7168, Sum.inl (fun _ => 0))) : Nat × va_E) = (adr p q a b 100, lay (gIn G p q a b) 100 (rowI 100) (fun _ => 0)) := rfl
theorem wi_101 : ((b 17, Sum.inl (gc G 1, 2048, Sum.inr (Sum.inl (fun _ => 0)))) : Nat × va_E) = (adr p q a b 101, lay (gIn G p q a b) 101 (rowI 101) (fun _ => 0)) := rfl
theorem wi_102 : ((b 18, Sum.inl (gc G 0, 10, Sum.inl (fun _ => 0))) : Nat × va_E) = (adr p q a b 102, lay (gIn G p q a b) 102 (rowI 102) (fun _ => 0)) := rfl
theorem wi_103 : ((b 19, Sum.inl (gc G 0, 10, Sum.inl (fun _ => 0))) : Nat × va_E) = (adr p q a b 103, lay (gIn G p q a b) 103 (rowI 103) (fun _ => 0)) := rfl
theorem wi_104 : ((b 20, Sum.inl (gc G 0, 10, Sum.inl (fun _ => 0))) : Nat × va_E) = (adr p q a b 104, lay (gIn G p q a b) 104 (rowI 104) (fun _ => 0)) := rfl
theorem wi_105 : ((b 21, Sum.inl (gc G 0, 40, Sum.inl (fun _ => 0))) : Nat × va_E) = (adr p q a b 105, lay (gIn G p q a b) 105 (rowI 105) (fun _ => 0)) := rfl
theorem wi_106 : ((b 22, Sum.inl (gc G 0, 4, Sum.inl (fun _ => 0))) : Nat × va_E) = (adr p q a b 106, lay (gIn G p q a b) 106 (rowI 106) (fun _ => 0)) := rfl
theorem wi_107 : ((b 23, Sum.inl (gc G 0, 4, Sum.inl (fun _ => 0))) : Nat × va_E) = (adr p q a b 107, lay (gIn G p q a b) 107 (rowI 107) (fun _ => 0)) := rfl
theorem wi_108 : ((b 24, Sum.inl (gc G 0, 96, Sum.inl (fun _ => 0))) : Nat × va_E) = (adr p q a b 108, lay (gIn G p q a b) 108 (rowI 108) (fun _ => 0)) := rfl
theorem wi_109 : ((b 25, Sum.inl (gc G 0, 24, Sum.inl (fun _ => 0))) : Nat × va_E) = (adr p q a b 109, lay (gIn G p q a b) 109 (rowI 109) (fun _ => 0)) := rfl
def ixI : List Nat := [0, 1, 10, 11, 12, 13, 14, 15, 16, 17, 18, 52, 53, 54, 55, 19, 56, 57, 58, 59, 60, 61, 3, 30, 31, 32, 4, 33, 34, 35, 36, 40, 41, 42, 43, 44, 45, 37, 38, 46, 47, 48, 49, 50, 51, 39, 5, 72, 73, 2, 20, 21, 22, 23, 24, 25, 26, 27, 28, 62, 63, 64, 65, 29, 66, 67, 68, 69, 70, 71, 74, 75, 7, 8, 9, 76, 77, 78, 79, 80, 81, 82, 83, 6, 84, 85, 86, 87, 88, 89, 90, 91, 92, 93, 94, 95, 96, 97, 98, 99, 100, 101, 102, 103, 104, 105, 106, 107, 108, 109]
def cellI (G : Gx) (p q : Nat) (a b : Nat → Nat) (k : Nat) : Nat × va_E := (adr p q a b k, lay (gIn G p q a b) k (rowI k) (fun _ => 0))
theorem cons_e {α : Type} {x y : α} {l l' : List α} (h : x = y) (h2 : l = l') : x :: l = y :: l' := by rw [h, h2]
theorem wEx_T : wEx G p q a b = ixI.map (cellI G p q a b) :=
  cons_e (wi_0 G p q a b) (cons_e (wi_1 G p q a b) (cons_e (wi_10 G p q a b) (cons_e (wi_11 G p q a b) (cons_e (wi_12 G p q a b) (cons_e (wi_13 G p q a b) (cons_e (wi_14 G p q a b) (cons_e (wi_15 G p q a b) (cons_e (wi_16 G p q a b) (cons_e (wi_17 G p q a b) (cons_e (wi_18 G p q a b) (cons_e (wi_52 G p q a b) (cons_e (wi_53 G p q a b) (cons_e (wi_54 G p q a b) (cons_e (wi_55 G p q a b) (cons_e (wi_19 G p q a b) (cons_e (wi_56 G p q a b) (cons_e (wi_57 G p q a b) (cons_e (wi_58 G p q a b) (cons_e (wi_59 G p q a b) (cons_e (wi_60 G p q a b) (cons_e (wi_61 G p q a b) (cons_e (wi_3 G p q a b) (cons_e (wi_30 G p q a b) (cons_e (wi_31 G p q a b) (cons_e (wi_32 G p q a b) (cons_e (wi_4 G p q a b) (cons_e (wi_33 G p q a b) (cons_e (wi_34 G p q a b) (cons_e (wi_35 G p q a b) (cons_e (wi_36 G p q a b) (cons_e (wi_40 G p q a b) (cons_e (wi_41 G p q a b) (cons_e (wi_42 G p q a b) (cons_e (wi_43 G p q a b) (cons_e (wi_44 G p q a b) (cons_e (wi_45 G p q a b) (cons_e (wi_37 G p q a b) (cons_e (wi_38 G p q a b) (cons_e (wi_46 G p q a b) (cons_e (wi_47 G p q a b) (cons_e (wi_48 G p q a b) (cons_e (wi_49 G p q a b) (cons_e (wi_50 G p q a b) (cons_e (wi_51 G p q a b) (cons_e (wi_39 G p q a b) (cons_e (wi_5 G p q a b) (cons_e (wi_72 G p q a b) (cons_e (wi_73 G p q a b) (cons_e (wi_2 G p q a b) (cons_e (wi_20 G p q a b) (cons_e (wi_21 G p q a b) (cons_e (wi_22 G p q a b) (cons_e (wi_23 G p q a b) (cons_e (wi_24 G p q a b) (cons_e (wi_25 G p q a b) (cons_e (wi_26 G p q a b) (cons_e (wi_27 G p q a b) (cons_e (wi_28 G p q a b) (cons_e (wi_62 G p q a b) (cons_e (wi_63 G p q a b) (cons_e (wi_64 G p q a b) (cons_e (wi_65 G p q a b) (cons_e (wi_29 G p q a b) (cons_e (wi_66 G p q a b) (cons_e (wi_67 G p q a b) (cons_e (wi_68 G p q a b) (cons_e (wi_69 G p q a b) (cons_e (wi_70 G p q a b) (cons_e (wi_71 G p q a b) (cons_e (wi_74 G p q a b) (cons_e (wi_75 G p q a b) (cons_e (wi_7 G p q a b) (cons_e (wi_8 G p q a b) (cons_e (wi_9 G p q a b) (cons_e (wi_76 G p q a b) (cons_e (wi_77 G p q a b) (cons_e (wi_78 G p q a b) (cons_e (wi_79 G p q a b) (cons_e (wi_80 G p q a b) (cons_e (wi_81 G p q a b) (cons_e (wi_82 G p q a b) (cons_e (wi_83 G p q a b) (cons_e (wi_6 G p q a b) (cons_e (wi_84 G p q a b) (cons_e (wi_85 G p q a b) (cons_e (wi_86 G p q a b) (cons_e (wi_87 G p q a b) (cons_e (wi_88 G p q a b) (cons_e (wi_89 G p q a b) (cons_e (wi_90 G p q a b) (cons_e (wi_91 G p q a b) (cons_e (wi_92 G p q a b) (cons_e (wi_93 G p q a b) (cons_e (wi_94 G p q a b) (cons_e (wi_95 G p q a b) (cons_e (wi_96 G p q a b) (cons_e (wi_97 G p q a b) (cons_e (wi_98 G p q a b) (cons_e (wi_99 G p q a b) (cons_e (wi_100 G p q a b) (cons_e (wi_101 G p q a b) (cons_e (wi_102 G p q a b) (cons_e (wi_103 G p q a b) (cons_e (wi_104 G p q a b) (cons_e (wi_105 G p q a b) (cons_e (wi_106 G p q a b) (cons_e (wi_107 G p q a b) (cons_e (wi_108 G p q a b) (cons_e (wi_109 G p q a b) (rfl))))))))))))))))))))))))))))))))))))))))))))))))))))))))))))))))))))))))))))))))))))))))))))))))))))))))))))))
theorem wi_wsl : wsl (gIn G p q a b) σi = (List.range 110).map (cellI G p q a b) := rfl
theorem ixL_I : ixL.map (fun i => ixI[i]?) = (List.range 110).map some := by decide +kernel
theorem wi_map : ixL.map (fun i => (wIn G p q a b)[i]?) = (wsl (gIn G p q a b) σi).map some := by
  rw [wIn_ex, wEx_T, wi_wsl]
  have e1 : (fun i => (ixI.map (cellI G p q a b))[i]?) = (Option.map (cellI G p q a b)) ∘ (fun i : Nat => ixI[i]?) := funext fun i => List.getElem?_map
  rw [e1, ← List.map_map, ixL_I, List.map_map, List.map_map]
  rfl
theorem fm_of_map {α β : Type} {f : α → Option β} : ∀ {l : List α} {l' : List β}, l.map f = l'.map some → l.filterMap f = l'
  | [], [], _ => rfl
  | [], _ :: _, h => by cases h
  | x :: l, [], h => by cases h
  | x :: l, y :: l', h => by
    injection h with h1 h2
    rw [List.filterMap_cons, h1, fm_of_map h2]
theorem wi_fm : ixL.filterMap (fun i => (wIn G p q a b)[i]?) = wsl (gIn G p q a b) σi := fm_of_map (wi_map G p q a b)
theorem ixL_nd : va_nd ixL = true := by decide +kernel
theorem fresh_i : Fresh σi := by
  refine ⟨rfl, ?_, ⟨rfl, rfl, rfl⟩, fun s hs => ?_, ⟨rfl, rfl, rfl, rfl⟩, ?_, rfl, fun k _ => rfl, fun s hs => ?_, fun j hj => ⟨?_, ?_⟩, by decide, by decide⟩
  · rintro k (rfl | rfl | rfl | rfl | rfl | rfl | rfl | rfl) <;> rfl
  · exact ⟨rfl, rfl⟩
  · rintro k (rfl | rfl | rfl | rfl | rfl | rfl | rfl | rfl | rfl | rfl) <;> rfl
  · have h4 : s = 0 ∨ s = 1 ∨ s = 2 ∨ s = 3 := by omega
    rcases h4 with rfl | rfl | rfl | rfl <;> exact ⟨rfl, fun _ _ => rfl⟩
  · show (0 : Int32).toNatClampNeg < 110 + 0; decide
  · show (0 : Int32).toNatClampNeg < 110 + 0; decide
theorem rl_i : Rl σi := fresh_i.rl
end SW
