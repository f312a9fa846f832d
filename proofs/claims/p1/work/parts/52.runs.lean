theorem xr12_0o : xallB 6 [xb2 (Int.ofNat 0, Int.ofNat 0) (Int.negSucc 2147483647, Int.negSucc 0), xb2 (Int.ofNat 0, Int.ofNat 0) (Int.ofNat 3, Int.ofNat 2147483647)] = true := by decide +kernel
theorem xr12_00 : xallB 6 [xb2 (Int.ofNat 0, Int.ofNat 0) (Int.ofNat 0, Int.ofNat 0)] = true := by decide +kernel
theorem xr12_01 : xallB 6 [xb2 (Int.ofNat 0, Int.ofNat 0) (Int.ofNat 1, Int.ofNat 1)] = true := by decide +kernel
theorem xr12_02 : xallB 6 [xb2 (Int.ofNat 0, Int.ofNat 0) (Int.ofNat 2, Int.ofNat 2)] = true := by decide +kernel
