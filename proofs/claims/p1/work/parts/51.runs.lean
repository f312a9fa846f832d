/-! THE RUNS, each decided by the kernel -/
def xfu : Int × Int := (Int.negSucc 2147483647, Int.ofNat 2147483647)
def xfl : List (Int × Int) := [(Int.negSucc 2147483647, Int.ofNat 2147483647), (Int.negSucc 2147483647, Int.ofNat 2147483647), (Int.negSucc 2147483647, Int.ofNat 2147483647), (Int.negSucc 2147483647, Int.ofNat 2147483647), (Int.negSucc 2147483647, Int.ofNat 2147483647), (Int.negSucc 2147483647, Int.ofNat 2147483647)]
theorem xrL0 : xallB 0 [(32, 0, [])] = true := by decide +kernel
theorem xrL1 : xallB 1 [(32, 1, [])] = true := by decide +kernel
theorem xrL2 : xallB 2 [(32, 2, [])] = true := by decide +kernel
theorem xrL3 : xallB 3 [(32, 3, [])] = true := by decide +kernel
theorem xrL4 : xallB 4 [(32, 4, [])] = true := by decide +kernel
theorem xrL5 : xallB 5 [(32, 5, [])] = true := by decide +kernel
theorem xrG0 : xallB 6 [(0, 6, xfl), (1, 6, xfl), (2, 6, xfl), (3, 6, xfl), (4, 6, xfl), (5, 6, xfl), (6, 6, xfl), (7, 6, xfl), (8, 6, xfl), (9, 6, xfl)] = true := by decide +kernel
theorem xrG15 : xallB 6 [(15, 6, xfl), (16, 6, xfl), (18, 6, xfl), (19, 6, xfl), (20, 6, xfl), (21, 6, xfl), (22, 6, xfl), (25, 6, xfl), (26, 6, xfl), (27, 6, xfl), (28, 6, xfl), (29, 6, xfl), (30, 6, xfl), (31, 6, xfl)] = true := by decide +kernel
theorem xrG17 : xallB 6 [(17, 6, xfl)] = true := by decide +kernel
theorem xrG10 : xallB 6 [(10, 6, xfl)] = true := by decide +kernel
theorem xrG11 : xallB 6 [(11, 6, xfl)] = true := by decide +kernel
theorem xrG13 : xallB 6 [(13, 6, xfl)] = true := by decide +kernel
theorem xrG14 : xallB 6 [(14, 6, xfl)] = true := by decide +kernel
theorem xrG23 : xallB 6 [(23, 6, xfl)] = true := by decide +kernel
theorem xrG24 : xallB 6 [(24, 6, xfl)] = true := by decide +kernel
def xb2 (p q : Int × Int) : xB := (12, 6, [(Int.negSucc 2147483647, Int.ofNat 2147483647), p, (Int.negSucc 2147483647, Int.ofNat 2147483647), q, (Int.negSucc 2147483647, Int.ofNat 2147483647), (Int.negSucc 2147483647, Int.ofNat 2147483647)])
theorem xr12o : xallB 6 [xb2 (Int.negSucc 2147483647, Int.negSucc 0) xfu, xb2 (Int.ofNat 3, Int.ofNat 2147483647) xfu] = true := by decide +kernel
