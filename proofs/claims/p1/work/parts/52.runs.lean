def xb3 (p q : Int × Int) : xB := (12, 6, [(Int.negSucc 2147483647, Int.ofNat 2147483647), p, q, (Int.negSucc 2147483647, Int.ofNat 2147483647), (Int.negSucc 2147483647, Int.ofNat 2147483647), (Int.negSucc 2147483647, Int.ofNat 2147483647)])
theorem xr12_0o : xallB 6 [xb3 (Int.ofNat 0, Int.ofNat 0) (Int.negSucc 2147483647, Int.negSucc 0), xb3 (Int.ofNat 0, Int.ofNat 0) (Int.ofNat 8, Int.ofNat 2147483647)] = true := by decide +kernel
theorem xr12_00 : xallB 6 [xb3 (Int.ofNat 0, Int.ofNat 0) (Int.ofNat 0, Int.ofNat 0)] = true := by decide +kernel
theorem xr12_01 : xallB 6 [xb3 (Int.ofNat 0, Int.ofNat 0) (Int.ofNat 1, Int.ofNat 1)] = true := by decide +kernel
theorem xr12_02 : xallB 6 [xb3 (Int.ofNat 0, Int.ofNat 0) (Int.ofNat 2, Int.ofNat 2)] = true := by decide +kernel
theorem xr12_03 : xallB 6 [xb3 (Int.ofNat 0, Int.ofNat 0) (Int.ofNat 3, Int.ofNat 3)] = true := by decide +kernel
theorem xr12_04 : xallB 6 [xb3 (Int.ofNat 0, Int.ofNat 0) (Int.ofNat 4, Int.ofNat 4)] = true := by decide +kernel
theorem xr12_05 : xallB 6 [xb3 (Int.ofNat 0, Int.ofNat 0) (Int.ofNat 5, Int.ofNat 5)] = true := by decide +kernel
theorem xr12_06 : xallB 6 [xb3 (Int.ofNat 0, Int.ofNat 0) (Int.ofNat 6, Int.ofNat 6)] = true := by decide +kernel
theorem xr12_07 : xallB 6 [xb3 (Int.ofNat 0, Int.ofNat 0) (Int.ofNat 7, Int.ofNat 7)] = true := by decide +kernel
