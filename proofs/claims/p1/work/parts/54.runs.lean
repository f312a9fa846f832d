theorem xr12_2o : xallB 6 [xb2 (Int.ofNat 2, Int.ofNat 2) (Int.negSucc 2147483647, Int.negSucc 0), xb2 (Int.ofNat 2, Int.ofNat 2) (Int.ofNat 3, Int.ofNat 2147483647)] = true := by decide +kernel
theorem xr12_20 : xallB 6 [xb2 (Int.ofNat 2, Int.ofNat 2) (Int.ofNat 0, Int.ofNat 0)] = true := by decide +kernel
theorem xr12_21 : xallB 6 [xb2 (Int.ofNat 2, Int.ofNat 2) (Int.ofNat 1, Int.ofNat 1)] = true := by decide +kernel
theorem xr12_22 : xallB 6 [xb2 (Int.ofNat 2, Int.ofNat 2) (Int.ofNat 2, Int.ofNat 2)] = true := by decide +kernel
