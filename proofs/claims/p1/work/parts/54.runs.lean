theorem xr12_2o : xallB 6 [xb3 (Int.ofNat 2, Int.ofNat 2) (Int.negSucc 2147483647, Int.negSucc 0), xb3 (Int.ofNat 2, Int.ofNat 2) (Int.ofNat 8, Int.ofNat 2147483647)] = true := by decide +kernel
theorem xr12_20 : xallB 6 [xb3 (Int.ofNat 2, Int.ofNat 2) (Int.ofNat 0, Int.ofNat 0)] = true := by decide +kernel
theorem xr12_21 : xallB 6 [xb3 (Int.ofNat 2, Int.ofNat 2) (Int.ofNat 1, Int.ofNat 1)] = true := by decide +kernel
theorem xr12_22 : xallB 6 [xb3 (Int.ofNat 2, Int.ofNat 2) (Int.ofNat 2, Int.ofNat 2)] = true := by decide +kernel
theorem xr12_23 : xallB 6 [xb3 (Int.ofNat 2, Int.ofNat 2) (Int.ofNat 3, Int.ofNat 3)] = true := by decide +kernel
theorem xr12_24 : xallB 6 [xb3 (Int.ofNat 2, Int.ofNat 2) (Int.ofNat 4, Int.ofNat 4)] = true := by decide +kernel
theorem xr12_25 : xallB 6 [xb3 (Int.ofNat 2, Int.ofNat 2) (Int.ofNat 5, Int.ofNat 5)] = true := by decide +kernel
theorem xr12_26 : xallB 6 [xb3 (Int.ofNat 2, Int.ofNat 2) (Int.ofNat 6, Int.ofNat 6)] = true := by decide +kernel
theorem xr12_27 : xallB 6 [xb3 (Int.ofNat 2, Int.ofNat 2) (Int.ofNat 7, Int.ofNat 7)] = true := by decide +kernel
