/-! sums -/
theorem zi_1 {x : UInt64} (hc : xCmp .gt (Op.cmpValue (FP.dcmp x zGr) .l) 0) : zinfB x = true := by
  have hc : 0 < Op.cmpValue (FP.dcmp x zGr) .l := hc
  unfold zinfB
  rw [decide_eq_true hc, Bool.true_or]
theorem zi_2 {x : UInt64} (hc : ¬ xCmp .ge (Op.cmpValue (FP.dcmp x (FP.dneg zGr)) .g) 0) : zinfB x = true := by
  unfold zinfB
  rw [decide_eq_true (Int32.not_le.mp hc), Bool.or_true]
theorem zi_3 {x : UInt64} (h1 : ¬ xCmp .gt (Op.cmpValue (FP.dcmp x zGr) .l) 0) (h2 : xCmp .ge (Op.cmpValue (FP.dcmp x (FP.dneg zGr)) .g) 0) : zinfB x = false := by
  have h1 : ¬ 0 < Op.cmpValue (FP.dcmp x zGr) .l := h1
  unfold zinfB
  rw [decide_eq_false h1, decide_eq_false (Int32.not_lt.mpr h2)]
  rfl
theorem zp_1 {x : UInt64} (hc : xCmp .le (Op.cmpValue (FP.dcmp x FP.dconst0) .l) 0) : zposB x = false := decide_eq_false (Int32.not_lt.mpr hc)
theorem zp_2 {x : UInt64} (hc : ¬ xCmp .le (Op.cmpValue (FP.dcmp x FP.dconst0) .l) 0) : zposB x = true := decide_eq_true (Int32.not_le.mp hc)
theorem zz_1 {x : UInt64} (hc : ¬ xCmp .ne (Op.cmpValue (FP.dcmp x FP.dconst0) .l) 0) : zzerB x = true := decide_eq_true (Decidable.of_not_not hc)
theorem zz_2 {x : UInt64} (hc : xCmp .ne (Op.cmpValue (FP.dcmp x FP.dconst0) .l) 0) : zzerB x = false := decide_eq_false hc
theorem zbq1 {b : Bool} (h : xCmp .eq (zB b) 0) : b = false := Eq.mp zB0 h
theorem zbq2 {b : Bool} (h : ¬ xCmp .eq (zB b) 0) : b = true := zbt h
theorem zbq3 {b : Bool} (h : xCmp .ne (zB b) 0) : b = true := zbt h
theorem zbq4 {b : Bool} (h : ¬ xCmp .ne (zB b) 0) : b = false := Eq.mp zB0 (Decidable.of_not_not h)
theorem zbinj {a b : Bool} (h : zB a = zB b) : a = b := by cases a <;> cases b <;> first | rfl | exact absurd h (by decide)
theorem zNoN1 {o : Int} {x y : UInt64} (h : o ∈ ([43] : List Int)) : zNoN o x y = ((zinfB x && zinfB y) && !decide (zposB x = zposB y)) := if_pos h
theorem zNoN2 {o : Int} {x y : UInt64} (h1 : o ∉ ([43] : List Int)) (h : o ∈ ([45] : List Int)) : zNoN o x y = ((zinfB x && zinfB y) && decide (zposB x = zposB y)) := (if_neg h1).trans (if_pos h)
theorem zNoN3 {o : Int} {x y : UInt64} (h1 : o ∉ ([43] : List Int)) (h2 : o ∉ ([45] : List Int)) (h : o ∈ ([42] : List Int)) : zNoN o x y = ((zzerB x && zinfB y) || (zinfB x && zzerB y)) := (if_neg h1).trans ((if_neg h2).trans (if_pos h))
theorem zNoN4 {o : Int} {x y : UInt64} (h1 : o ∉ ([43] : List Int)) (h2 : o ∉ ([45] : List Int)) (h : o ∉ ([42] : List Int)) : zNoN o x y = ((zinfB x && zinfB y) || (zzerB x && zzerB y)) := (if_neg h1).trans ((if_neg h2).trans (if_neg h))
set_option maxHeartbeats 400000 in
set_option maxRecDepth 20000 in
theorem c_noN {κ : zK} (hκ : zKg κ) {o : Int32} {x y : UInt64} (h : zH) : zRet κ 64 [zi o, zd x, zd y] h (some (zi (zB (zNoN o.toInt x y)))) h 0 0 := by
  refine zRet_of hκ (by decide) (by decide +kernel) (Nat.le_of_ble_eq_true rfl) fun ω C hK he => ?_
  have k96 : ∀ v : Int32, v = zB (decide (zposB x = zposB y)) → ZG ω 64 96 [(0, zi o), (1, zd x), (3, zd y), (5, zd zGr), (7, zi (zB (zinfB x))), (8, zi (zB (zinfB y))), (9, zi (zB (zinfB x && zinfB y)))] [zi v] h 0 0 := by
    intro v hv
    subst hv
    refine z_istore C rfl ?_
    refine z_iloadn C rfl rfl ?_
    by_cases hs1 : (o).toInt ∈ ([43] : List Int)
    · skip
      refine z_tsE C _ hs1 rfl (by decide) (off := 29) (by decide +kernel) (tgt := 128) (by decide) ?_
      refine z_iload C rfl rfl ?_
      refine z_if C rfl (fun hc1 => ?_) (fun hc1 => ?_)
      · skip
        skip
        refine z_iconst C rfl ?_
        exact z_zreturn C rfl (zER_eq he (by (first | rw [zNoN1 hs1] | rw [zNoN2 hs1 hs2] | rw [zNoN3 hs1 hs2 hs3] | rw [zNoN4 hs1 hs2 hs3]); (try rw [zbq1 hc1]); (try rw [zbq2 hc1]); (try rw [zbq3 hc1]); (try rw [zbq4 hc1]); (try rw [zz_1 hc1]); (try rw [zz_2 hc1]); (try rw [zbq1 hc2]); (try rw [zbq2 hc2]); (try rw [zbq3 hc2]); (try rw [zbq4 hc2]); (try rw [zz_1 hc2]); (try rw [zz_2 hc2]); (try rw [zbq1 hc3]); (try rw [zbq2 hc3]); (try rw [zbq3 hc3]); (try rw [zbq4 hc3]); (try rw [zz_1 hc3]); (try rw [zz_2 hc3]); (try rw [zbq1 hc4]); (try rw [zbq2 hc4]); (try rw [zbq3 hc4]); (try rw [zbq4 hc4]); (try rw [zz_1 hc4]); (try rw [zz_2 hc4]); (try rw [zbq1 hc5]); (try rw [zbq2 hc5]); (try rw [zbq3 hc5]); (try rw [zbq4 hc5]); (try rw [zz_1 hc5]); (try rw [zz_2 hc5]); (try rw [zbq1 hc6]); (try rw [zbq2 hc6]); (try rw [zbq3 hc6]); (try rw [zbq4 hc6]); (try rw [zz_1 hc6]); (try rw [zz_2 hc6]); (try rw [zbq1 hc7]); (try rw [zbq2 hc7]); (try rw [zbq3 hc7]); (try rw [zbq4 hc7]); (try rw [zz_1 hc7]); (try rw [zz_2 hc7]); (try rw [zbq1 hc8]); (try rw [zbq2 hc8]); (try rw [zbq3 hc8]); (try rw [zbq4 hc8]); (try rw [zz_1 hc8]); (try rw [zz_2 hc8]); (try rw [zbq1 hc9]); (try rw [zbq2 hc9]); (try rw [zbq3 hc9]); (try rw [zbq4 hc9]); (try rw [zz_1 hc9]); (try rw [zz_2 hc9]); (try rw [zbq1 hc10]); (try rw [zbq2 hc10]); (try rw [zbq3 hc10]); (try rw [zbq4 hc10]); (try rw [zz_1 hc10]); (try rw [zz_2 hc10]); (try rw [zbq1 hc11]); (try rw [zbq2 hc11]); (try rw [zbq3 hc11]); (try rw [zbq4 hc11]); (try rw [zz_1 hc11]); (try rw [zz_2 hc11]); (try rw [zbq1 hc12]); (try rw [zbq2 hc12]); (try rw [zbq3 hc12]); (try rw [zbq4 hc12]); (try rw [zz_1 hc12]); (try rw [zz_2 hc12]); (try rw [zbq1 hc13]); (try rw [zbq2 hc13]); (try rw [zbq3 hc13]); (try rw [zbq4 hc13]); (try rw [zz_1 hc13]); (try rw [zz_2 hc13]); (try rw [zbq1 hc14]); (try rw [zbq2 hc14]); (try rw [zbq3 hc14]); (try rw [zbq4 hc14]); (try rw [zz_1 hc14]); (try rw [zz_2 hc14]); (try rw [zbq1 hc15]); (try rw [zbq2 hc15]); (try rw [zbq3 hc15]); (try rw [zbq4 hc15]); (try rw [zz_1 hc15]); (try rw [zz_2 hc15]); first | rfl | (simp only [Bool.false_and, Bool.and_false, Bool.or_false, Bool.false_or, Bool.true_and, Bool.and_true, Bool.true_or, Bool.or_true]; rfl)) rfl) ⟨Nat.le_refl _, Nat.le_refl _⟩ rfl (by first | rfl | exact znB)
      · skip
        skip
        refine z_iload C rfl rfl ?_
        refine z_if C rfl (fun hc2 => ?_) (fun hc2 => ?_)
        · skip
          skip
          refine z_iconst C rfl ?_
          exact z_zreturn C rfl (zER_eq he (by (first | rw [zNoN1 hs1] | rw [zNoN2 hs1 hs2] | rw [zNoN3 hs1 hs2 hs3] | rw [zNoN4 hs1 hs2 hs3]); (try rw [zbq1 hc1]); (try rw [zbq2 hc1]); (try rw [zbq3 hc1]); (try rw [zbq4 hc1]); (try rw [zz_1 hc1]); (try rw [zz_2 hc1]); (try rw [zbq1 hc2]); (try rw [zbq2 hc2]); (try rw [zbq3 hc2]); (try rw [zbq4 hc2]); (try rw [zz_1 hc2]); (try rw [zz_2 hc2]); (try rw [zbq1 hc3]); (try rw [zbq2 hc3]); (try rw [zbq3 hc3]); (try rw [zbq4 hc3]); (try rw [zz_1 hc3]); (try rw [zz_2 hc3]); (try rw [zbq1 hc4]); (try rw [zbq2 hc4]); (try rw [zbq3 hc4]); (try rw [zbq4 hc4]); (try rw [zz_1 hc4]); (try rw [zz_2 hc4]); (try rw [zbq1 hc5]); (try rw [zbq2 hc5]); (try rw [zbq3 hc5]); (try rw [zbq4 hc5]); (try rw [zz_1 hc5]); (try rw [zz_2 hc5]); (try rw [zbq1 hc6]); (try rw [zbq2 hc6]); (try rw [zbq3 hc6]); (try rw [zbq4 hc6]); (try rw [zz_1 hc6]); (try rw [zz_2 hc6]); (try rw [zbq1 hc7]); (try rw [zbq2 hc7]); (try rw [zbq3 hc7]); (try rw [zbq4 hc7]); (try rw [zz_1 hc7]); (try rw [zz_2 hc7]); (try rw [zbq1 hc8]); (try rw [zbq2 hc8]); (try rw [zbq3 hc8]); (try rw [zbq4 hc8]); (try rw [zz_1 hc8]); (try rw [zz_2 hc8]); (try rw [zbq1 hc9]); (try rw [zbq2 hc9]); (try rw [zbq3 hc9]); (try rw [zbq4 hc9]); (try rw [zz_1 hc9]); (try rw [zz_2 hc9]); (try rw [zbq1 hc10]); (try rw [zbq2 hc10]); (try rw [zbq3 hc10]); (try rw [zbq4 hc10]); (try rw [zz_1 hc10]); (try rw [zz_2 hc10]); (try rw [zbq1 hc11]); (try rw [zbq2 hc11]); (try rw [zbq3 hc11]); (try rw [zbq4 hc11]); (try rw [zz_1 hc11]); (try rw [zz_2 hc11]); (try rw [zbq1 hc12]); (try rw [zbq2 hc12]); (try rw [zbq3 hc12]); (try rw [zbq4 hc12]); (try rw [zz_1 hc12]); (try rw [zz_2 hc12]); (try rw [zbq1 hc13]); (try rw [zbq2 hc13]); (try rw [zbq3 hc13]); (try rw [zbq4 hc13]); (try rw [zz_1 hc13]); (try rw [zz_2 hc13]); (try rw [zbq1 hc14]); (try rw [zbq2 hc14]); (try rw [zbq3 hc14]); (try rw [zbq4 hc14]); (try rw [zz_1 hc14]); (try rw [zz_2 hc14]); (try rw [zbq1 hc15]); (try rw [zbq2 hc15]); (try rw [zbq3 hc15]); (try rw [zbq4 hc15]); (try rw [zz_1 hc15]); (try rw [zz_2 hc15]); first | rfl | (simp only [Bool.false_and, Bool.and_false, Bool.or_false, Bool.false_or, Bool.true_and, Bool.and_true, Bool.true_or, Bool.or_true]; rfl)) rfl) ⟨Nat.le_refl _, Nat.le_refl _⟩ rfl (by first | rfl | exact znB)
        · skip
          skip
          refine z_iconst C rfl ?_
          refine z_goto C rfl ?_
          exact z_zreturn C rfl (zER_eq he (by (first | rw [zNoN1 hs1] | rw [zNoN2 hs1 hs2] | rw [zNoN3 hs1 hs2 hs3] | rw [zNoN4 hs1 hs2 hs3]); (try rw [zbq1 hc1]); (try rw [zbq2 hc1]); (try rw [zbq3 hc1]); (try rw [zbq4 hc1]); (try rw [zz_1 hc1]); (try rw [zz_2 hc1]); (try rw [zbq1 hc2]); (try rw [zbq2 hc2]); (try rw [zbq3 hc2]); (try rw [zbq4 hc2]); (try rw [zz_1 hc2]); (try rw [zz_2 hc2]); (try rw [zbq1 hc3]); (try rw [zbq2 hc3]); (try rw [zbq3 hc3]); (try rw [zbq4 hc3]); (try rw [zz_1 hc3]); (try rw [zz_2 hc3]); (try rw [zbq1 hc4]); (try rw [zbq2 hc4]); (try rw [zbq3 hc4]); (try rw [zbq4 hc4]); (try rw [zz_1 hc4]); (try rw [zz_2 hc4]); (try rw [zbq1 hc5]); (try rw [zbq2 hc5]); (try rw [zbq3 hc5]); (try rw [zbq4 hc5]); (try rw [zz_1 hc5]); (try rw [zz_2 hc5]); (try rw [zbq1 hc6]); (try rw [zbq2 hc6]); (try rw [zbq3 hc6]); (try rw [zbq4 hc6]); (try rw [zz_1 hc6]); (try rw [zz_2 hc6]); (try rw [zbq1 hc7]); (try rw [zbq2 hc7]); (try rw [zbq3 hc7]); (try rw [zbq4 hc7]); (try rw [zz_1 hc7]); (try rw [zz_2 hc7]); (try rw [zbq1 hc8]); (try rw [zbq2 hc8]); (try rw [zbq3 hc8]); (try rw [zbq4 hc8]); (try rw [zz_1 hc8]); (try rw [zz_2 hc8]); (try rw [zbq1 hc9]); (try rw [zbq2 hc9]); (try rw [zbq3 hc9]); (try rw [zbq4 hc9]); (try rw [zz_1 hc9]); (try rw [zz_2 hc9]); (try rw [zbq1 hc10]); (try rw [zbq2 hc10]); (try rw [zbq3 hc10]); (try rw [zbq4 hc10]); (try rw [zz_1 hc10]); (try rw [zz_2 hc10]); (try rw [zbq1 hc11]); (try rw [zbq2 hc11]); (try rw [zbq3 hc11]); (try rw [zbq4 hc11]); (try rw [zz_1 hc11]); (try rw [zz_2 hc11]); (try rw [zbq1 hc12]); (try rw [zbq2 hc12]); (try rw [zbq3 hc12]); (try rw [zbq4 hc12]); (try rw [zz_1 hc12]); (try rw [zz_2 hc12]); (try rw [zbq1 hc13]); (try rw [zbq2 hc13]); (try rw [zbq3 hc13]); (try rw [zbq4 hc13]); (try rw [zz_1 hc13]); (try rw [zz_2 hc13]); (try rw [zbq1 hc14]); (try rw [zbq2 hc14]); (try rw [zbq3 hc14]); (try rw [zbq4 hc14]); (try rw [zz_1 hc14]); (try rw [zz_2 hc14]); (try rw [zbq1 hc15]); (try rw [zbq2 hc15]); (try rw [zbq3 hc15]); (try rw [zbq4 hc15]); (try rw [zz_1 hc15]); (try rw [zz_2 hc15]); first | rfl | (simp only [Bool.false_and, Bool.and_false, Bool.or_false, Bool.false_or, Bool.true_and, Bool.and_true, Bool.true_or, Bool.or_true]; rfl)) rfl) ⟨Nat.le_refl _, Nat.le_refl _⟩ rfl (by first | rfl | exact znB)
    · skip
      by_cases hs2 : (o).toInt ∈ ([45] : List Int)
      · skip
        refine z_tsE C _ hs2 rfl (by decide) (off := 45) (by decide +kernel) (tgt := 144) (by decide) ?_
        refine z_iload C rfl rfl ?_
        refine z_if C rfl (fun hc3 => ?_) (fun hc3 => ?_)
        · skip
          skip
          refine z_iconst C rfl ?_
          exact z_zreturn C rfl (zER_eq he (by (first | rw [zNoN1 hs1] | rw [zNoN2 hs1 hs2] | rw [zNoN3 hs1 hs2 hs3] | rw [zNoN4 hs1 hs2 hs3]); (try rw [zbq1 hc1]); (try rw [zbq2 hc1]); (try rw [zbq3 hc1]); (try rw [zbq4 hc1]); (try rw [zz_1 hc1]); (try rw [zz_2 hc1]); (try rw [zbq1 hc2]); (try rw [zbq2 hc2]); (try rw [zbq3 hc2]); (try rw [zbq4 hc2]); (try rw [zz_1 hc2]); (try rw [zz_2 hc2]); (try rw [zbq1 hc3]); (try rw [zbq2 hc3]); (try rw [zbq3 hc3]); (try rw [zbq4 hc3]); (try rw [zz_1 hc3]); (try rw [zz_2 hc3]); (try rw [zbq1 hc4]); (try rw [zbq2 hc4]); (try rw [zbq3 hc4]); (try rw [zbq4 hc4]); (try rw [zz_1 hc4]); (try rw [zz_2 hc4]); (try rw [zbq1 hc5]); (try rw [zbq2 hc5]); (try rw [zbq3 hc5]); (try rw [zbq4 hc5]); (try rw [zz_1 hc5]); (try rw [zz_2 hc5]); (try rw [zbq1 hc6]); (try rw [zbq2 hc6]); (try rw [zbq3 hc6]); (try rw [zbq4 hc6]); (try rw [zz_1 hc6]); (try rw [zz_2 hc6]); (try rw [zbq1 hc7]); (try rw [zbq2 hc7]); (try rw [zbq3 hc7]); (try rw [zbq4 hc7]); (try rw [zz_1 hc7]); (try rw [zz_2 hc7]); (try rw [zbq1 hc8]); (try rw [zbq2 hc8]); (try rw [zbq3 hc8]); (try rw [zbq4 hc8]); (try rw [zz_1 hc8]); (try rw [zz_2 hc8]); (try rw [zbq1 hc9]); (try rw [zbq2 hc9]); (try rw [zbq3 hc9]); (try rw [zbq4 hc9]); (try rw [zz_1 hc9]); (try rw [zz_2 hc9]); (try rw [zbq1 hc10]); (try rw [zbq2 hc10]); (try rw [zbq3 hc10]); (try rw [zbq4 hc10]); (try rw [zz_1 hc10]); (try rw [zz_2 hc10]); (try rw [zbq1 hc11]); (try rw [zbq2 hc11]); (try rw [zbq3 hc11]); (try rw [zbq4 hc11]); (try rw [zz_1 hc11]); (try rw [zz_2 hc11]); (try rw [zbq1 hc12]); (try rw [zbq2 hc12]); (try rw [zbq3 hc12]); (try rw [zbq4 hc12]); (try rw [zz_1 hc12]); (try rw [zz_2 hc12]); (try rw [zbq1 hc13]); (try rw [zbq2 hc13]); (try rw [zbq3 hc13]); (try rw [zbq4 hc13]); (try rw [zz_1 hc13]); (try rw [zz_2 hc13]); (try rw [zbq1 hc14]); (try rw [zbq2 hc14]); (try rw [zbq3 hc14]); (try rw [zbq4 hc14]); (try rw [zz_1 hc14]); (try rw [zz_2 hc14]); (try rw [zbq1 hc15]); (try rw [zbq2 hc15]); (try rw [zbq3 hc15]); (try rw [zbq4 hc15]); (try rw [zz_1 hc15]); (try rw [zz_2 hc15]); first | rfl | (simp only [Bool.false_and, Bool.and_false, Bool.or_false, Bool.false_or, Bool.true_and, Bool.and_true, Bool.true_or, Bool.or_true]; rfl)) rfl) ⟨Nat.le_refl _, Nat.le_refl _⟩ rfl (by first | rfl | exact znB)
        · skip
          skip
          refine z_iload C rfl rfl ?_
          refine z_if C rfl (fun hc4 => ?_) (fun hc4 => ?_)
          · skip
            skip
            refine z_iconst C rfl ?_
            exact z_zreturn C rfl (zER_eq he (by (first | rw [zNoN1 hs1] | rw [zNoN2 hs1 hs2] | rw [zNoN3 hs1 hs2 hs3] | rw [zNoN4 hs1 hs2 hs3]); (try rw [zbq1 hc1]); (try rw [zbq2 hc1]); (try rw [zbq3 hc1]); (try rw [zbq4 hc1]); (try rw [zz_1 hc1]); (try rw [zz_2 hc1]); (try rw [zbq1 hc2]); (try rw [zbq2 hc2]); (try rw [zbq3 hc2]); (try rw [zbq4 hc2]); (try rw [zz_1 hc2]); (try rw [zz_2 hc2]); (try rw [zbq1 hc3]); (try rw [zbq2 hc3]); (try rw [zbq3 hc3]); (try rw [zbq4 hc3]); (try rw [zz_1 hc3]); (try rw [zz_2 hc3]); (try rw [zbq1 hc4]); (try rw [zbq2 hc4]); (try rw [zbq3 hc4]); (try rw [zbq4 hc4]); (try rw [zz_1 hc4]); (try rw [zz_2 hc4]); (try rw [zbq1 hc5]); (try rw [zbq2 hc5]); (try rw [zbq3 hc5]); (try rw [zbq4 hc5]); (try rw [zz_1 hc5]); (try rw [zz_2 hc5]); (try rw [zbq1 hc6]); (try rw [zbq2 hc6]); (try rw [zbq3 hc6]); (try rw [zbq4 hc6]); (try rw [zz_1 hc6]); (try rw [zz_2 hc6]); (try rw [zbq1 hc7]); (try rw [zbq2 hc7]); (try rw [zbq3 hc7]); (try rw [zbq4 hc7]); (try rw [zz_1 hc7]); (try rw [zz_2 hc7]); (try rw [zbq1 hc8]); (try rw [zbq2 hc8]); (try rw [zbq3 hc8]); (try rw [zbq4 hc8]); (try rw [zz_1 hc8]); (try rw [zz_2 hc8]); (try rw [zbq1 hc9]); (try rw [zbq2 hc9]); (try rw [zbq3 hc9]); (try rw [zbq4 hc9]); (try rw [zz_1 hc9]); (try rw [zz_2 hc9]); (try rw [zbq1 hc10]); (try rw [zbq2 hc10]); (try rw [zbq3 hc10]); (try rw [zbq4 hc10]); (try rw [zz_1 hc10]); (try rw [zz_2 hc10]); (try rw [zbq1 hc11]); (try rw [zbq2 hc11]); (try rw [zbq3 hc11]); (try rw [zbq4 hc11]); (try rw [zz_1 hc11]); (try rw [zz_2 hc11]); (try rw [zbq1 hc12]); (try rw [zbq2 hc12]); (try rw [zbq3 hc12]); (try rw [zbq4 hc12]); (try rw [zz_1 hc12]); (try rw [zz_2 hc12]); (try rw [zbq1 hc13]); (try rw [zbq2 hc13]); (try rw [zbq3 hc13]); (try rw [zbq4 hc13]); (try rw [zz_1 hc13]); (try rw [zz_2 hc13]); (try rw [zbq1 hc14]); (try rw [zbq2 hc14]); (try rw [zbq3 hc14]); (try rw [zbq4 hc14]); (try rw [zz_1 hc14]); (try rw [zz_2 hc14]); (try rw [zbq1 hc15]); (try rw [zbq2 hc15]); (try rw [zbq3 hc15]); (try rw [zbq4 hc15]); (try rw [zz_1 hc15]); (try rw [zz_2 hc15]); first | rfl | (simp only [Bool.false_and, Bool.and_false, Bool.or_false, Bool.false_or, Bool.true_and, Bool.and_true, Bool.true_or, Bool.or_true]; rfl)) rfl) ⟨Nat.le_refl _, Nat.le_refl _⟩ rfl (by first | rfl | exact znB)
          · skip
            skip
            refine z_iconst C rfl ?_
            refine z_goto C rfl ?_
            exact z_zreturn C rfl (zER_eq he (by (first | rw [zNoN1 hs1] | rw [zNoN2 hs1 hs2] | rw [zNoN3 hs1 hs2 hs3] | rw [zNoN4 hs1 hs2 hs3]); (try rw [zbq1 hc1]); (try rw [zbq2 hc1]); (try rw [zbq3 hc1]); (try rw [zbq4 hc1]); (try rw [zz_1 hc1]); (try rw [zz_2 hc1]); (try rw [zbq1 hc2]); (try rw [zbq2 hc2]); (try rw [zbq3 hc2]); (try rw [zbq4 hc2]); (try rw [zz_1 hc2]); (try rw [zz_2 hc2]); (try rw [zbq1 hc3]); (try rw [zbq2 hc3]); (try rw [zbq3 hc3]); (try rw [zbq4 hc3]); (try rw [zz_1 hc3]); (try rw [zz_2 hc3]); (try rw [zbq1 hc4]); (try rw [zbq2 hc4]); (try rw [zbq3 hc4]); (try rw [zbq4 hc4]); (try rw [zz_1 hc4]); (try rw [zz_2 hc4]); (try rw [zbq1 hc5]); (try rw [zbq2 hc5]); (try rw [zbq3 hc5]); (try rw [zbq4 hc5]); (try rw [zz_1 hc5]); (try rw [zz_2 hc5]); (try rw [zbq1 hc6]); (try rw [zbq2 hc6]); (try rw [zbq3 hc6]); (try rw [zbq4 hc6]); (try rw [zz_1 hc6]); (try rw [zz_2 hc6]); (try rw [zbq1 hc7]); (try rw [zbq2 hc7]); (try rw [zbq3 hc7]); (try rw [zbq4 hc7]); (try rw [zz_1 hc7]); (try rw [zz_2 hc7]); (try rw [zbq1 hc8]); (try rw [zbq2 hc8]); (try rw [zbq3 hc8]); (try rw [zbq4 hc8]); (try rw [zz_1 hc8]); (try rw [zz_2 hc8]); (try rw [zbq1 hc9]); (try rw [zbq2 hc9]); (try rw [zbq3 hc9]); (try rw [zbq4 hc9]); (try rw [zz_1 hc9]); (try rw [zz_2 hc9]); (try rw [zbq1 hc10]); (try rw [zbq2 hc10]); (try rw [zbq3 hc10]); (try rw [zbq4 hc10]); (try rw [zz_1 hc10]); (try rw [zz_2 hc10]); (try rw [zbq1 hc11]); (try rw [zbq2 hc11]); (try rw [zbq3 hc11]); (try rw [zbq4 hc11]); (try rw [zz_1 hc11]); (try rw [zz_2 hc11]); (try rw [zbq1 hc12]); (try rw [zbq2 hc12]); (try rw [zbq3 hc12]); (try rw [zbq4 hc12]); (try rw [zz_1 hc12]); (try rw [zz_2 hc12]); (try rw [zbq1 hc13]); (try rw [zbq2 hc13]); (try rw [zbq3 hc13]); (try rw [zbq4 hc13]); (try rw [zz_1 hc13]); (try rw [zz_2 hc13]); (try rw [zbq1 hc14]); (try rw [zbq2 hc14]); (try rw [zbq3 hc14]); (try rw [zbq4 hc14]); (try rw [zz_1 hc14]); (try rw [zz_2 hc14]); (try rw [zbq1 hc15]); (try rw [zbq2 hc15]); (try rw [zbq3 hc15]); (try rw [zbq4 hc15]); (try rw [zz_1 hc15]); (try rw [zz_2 hc15]); first | rfl | (simp only [Bool.false_and, Bool.and_false, Bool.or_false, Bool.false_or, Bool.true_and, Bool.and_true, Bool.true_or, Bool.or_true]; rfl)) rfl) ⟨Nat.le_refl _, Nat.le_refl _⟩ rfl (by first | rfl | exact znB)
      · skip
        by_cases hs3 : (o).toInt ∈ ([42] : List Int)
        · skip
          refine z_tsE C _ hs3 rfl (by decide) (off := 61) (by decide +kernel) (tgt := 160) (by decide) ?_
          refine z_dloadn C rfl rfl ?_
          refine z_dconst0 C rfl ?_
          refine z_dcmp C rfl ?_
          refine z_if C rfl (fun hc5 => ?_) (fun hc5 => ?_)
          · skip
            skip
            refine z_iload C rfl rfl ?_
            refine z_if C rfl (fun hc6 => ?_) (fun hc6 => ?_)
            · skip
              skip
              refine z_iconst C rfl ?_
              exact z_zreturn C rfl (zER_eq he (by (first | rw [zNoN1 hs1] | rw [zNoN2 hs1 hs2] | rw [zNoN3 hs1 hs2 hs3] | rw [zNoN4 hs1 hs2 hs3]); (try rw [zbq1 hc1]); (try rw [zbq2 hc1]); (try rw [zbq3 hc1]); (try rw [zbq4 hc1]); (try rw [zz_1 hc1]); (try rw [zz_2 hc1]); (try rw [zbq1 hc2]); (try rw [zbq2 hc2]); (try rw [zbq3 hc2]); (try rw [zbq4 hc2]); (try rw [zz_1 hc2]); (try rw [zz_2 hc2]); (try rw [zbq1 hc3]); (try rw [zbq2 hc3]); (try rw [zbq3 hc3]); (try rw [zbq4 hc3]); (try rw [zz_1 hc3]); (try rw [zz_2 hc3]); (try rw [zbq1 hc4]); (try rw [zbq2 hc4]); (try rw [zbq3 hc4]); (try rw [zbq4 hc4]); (try rw [zz_1 hc4]); (try rw [zz_2 hc4]); (try rw [zbq1 hc5]); (try rw [zbq2 hc5]); (try rw [zbq3 hc5]); (try rw [zbq4 hc5]); (try rw [zz_1 hc5]); (try rw [zz_2 hc5]); (try rw [zbq1 hc6]); (try rw [zbq2 hc6]); (try rw [zbq3 hc6]); (try rw [zbq4 hc6]); (try rw [zz_1 hc6]); (try rw [zz_2 hc6]); (try rw [zbq1 hc7]); (try rw [zbq2 hc7]); (try rw [zbq3 hc7]); (try rw [zbq4 hc7]); (try rw [zz_1 hc7]); (try rw [zz_2 hc7]); (try rw [zbq1 hc8]); (try rw [zbq2 hc8]); (try rw [zbq3 hc8]); (try rw [zbq4 hc8]); (try rw [zz_1 hc8]); (try rw [zz_2 hc8]); (try rw [zbq1 hc9]); (try rw [zbq2 hc9]); (try rw [zbq3 hc9]); (try rw [zbq4 hc9]); (try rw [zz_1 hc9]); (try rw [zz_2 hc9]); (try rw [zbq1 hc10]); (try rw [zbq2 hc10]); (try rw [zbq3 hc10]); (try rw [zbq4 hc10]); (try rw [zz_1 hc10]); (try rw [zz_2 hc10]); (try rw [zbq1 hc11]); (try rw [zbq2 hc11]); (try rw [zbq3 hc11]); (try rw [zbq4 hc11]); (try rw [zz_1 hc11]); (try rw [zz_2 hc11]); (try rw [zbq1 hc12]); (try rw [zbq2 hc12]); (try rw [zbq3 hc12]); (try rw [zbq4 hc12]); (try rw [zz_1 hc12]); (try rw [zz_2 hc12]); (try rw [zbq1 hc13]); (try rw [zbq2 hc13]); (try rw [zbq3 hc13]); (try rw [zbq4 hc13]); (try rw [zz_1 hc13]); (try rw [zz_2 hc13]); (try rw [zbq1 hc14]); (try rw [zbq2 hc14]); (try rw [zbq3 hc14]); (try rw [zbq4 hc14]); (try rw [zz_1 hc14]); (try rw [zz_2 hc14]); (try rw [zbq1 hc15]); (try rw [zbq2 hc15]); (try rw [zbq3 hc15]); (try rw [zbq4 hc15]); (try rw [zz_1 hc15]); (try rw [zz_2 hc15]); first | rfl | (simp only [Bool.false_and, Bool.and_false, Bool.or_false, Bool.false_or, Bool.true_and, Bool.and_true, Bool.true_or, Bool.or_true]; rfl)) rfl) ⟨Nat.le_refl _, Nat.le_refl _⟩ rfl (by first | rfl | exact znB)
            · skip
              skip
              refine z_dloadn C rfl rfl ?_
              refine z_dconst0 C rfl ?_
              refine z_dcmp C rfl ?_
              refine z_if C rfl (fun hc7 => ?_) (fun hc7 => ?_)
              · skip
                skip
                refine z_iconst C rfl ?_
                exact z_zreturn C rfl (zER_eq he (by (first | rw [zNoN1 hs1] | rw [zNoN2 hs1 hs2] | rw [zNoN3 hs1 hs2 hs3] | rw [zNoN4 hs1 hs2 hs3]); (try rw [zbq1 hc1]); (try rw [zbq2 hc1]); (try rw [zbq3 hc1]); (try rw [zbq4 hc1]); (try rw [zz_1 hc1]); (try rw [zz_2 hc1]); (try rw [zbq1 hc2]); (try rw [zbq2 hc2]); (try rw [zbq3 hc2]); (try rw [zbq4 hc2]); (try rw [zz_1 hc2]); (try rw [zz_2 hc2]); (try rw [zbq1 hc3]); (try rw [zbq2 hc3]); (try rw [zbq3 hc3]); (try rw [zbq4 hc3]); (try rw [zz_1 hc3]); (try rw [zz_2 hc3]); (try rw [zbq1 hc4]); (try rw [zbq2 hc4]); (try rw [zbq3 hc4]); (try rw [zbq4 hc4]); (try rw [zz_1 hc4]); (try rw [zz_2 hc4]); (try rw [zbq1 hc5]); (try rw [zbq2 hc5]); (try rw [zbq3 hc5]); (try rw [zbq4 hc5]); (try rw [zz_1 hc5]); (try rw [zz_2 hc5]); (try rw [zbq1 hc6]); (try rw [zbq2 hc6]); (try rw [zbq3 hc6]); (try rw [zbq4 hc6]); (try rw [zz_1 hc6]); (try rw [zz_2 hc6]); (try rw [zbq1 hc7]); (try rw [zbq2 hc7]); (try rw [zbq3 hc7]); (try rw [zbq4 hc7]); (try rw [zz_1 hc7]); (try rw [zz_2 hc7]); (try rw [zbq1 hc8]); (try rw [zbq2 hc8]); (try rw [zbq3 hc8]); (try rw [zbq4 hc8]); (try rw [zz_1 hc8]); (try rw [zz_2 hc8]); (try rw [zbq1 hc9]); (try rw [zbq2 hc9]); (try rw [zbq3 hc9]); (try rw [zbq4 hc9]); (try rw [zz_1 hc9]); (try rw [zz_2 hc9]); (try rw [zbq1 hc10]); (try rw [zbq2 hc10]); (try rw [zbq3 hc10]); (try rw [zbq4 hc10]); (try rw [zz_1 hc10]); (try rw [zz_2 hc10]); (try rw [zbq1 hc11]); (try rw [zbq2 hc11]); (try rw [zbq3 hc11]); (try rw [zbq4 hc11]); (try rw [zz_1 hc11]); (try rw [zz_2 hc11]); (try rw [zbq1 hc12]); (try rw [zbq2 hc12]); (try rw [zbq3 hc12]); (try rw [zbq4 hc12]); (try rw [zz_1 hc12]); (try rw [zz_2 hc12]); (try rw [zbq1 hc13]); (try rw [zbq2 hc13]); (try rw [zbq3 hc13]); (try rw [zbq4 hc13]); (try rw [zz_1 hc13]); (try rw [zz_2 hc13]); (try rw [zbq1 hc14]); (try rw [zbq2 hc14]); (try rw [zbq3 hc14]); (try rw [zbq4 hc14]); (try rw [zz_1 hc14]); (try rw [zz_2 hc14]); (try rw [zbq1 hc15]); (try rw [zbq2 hc15]); (try rw [zbq3 hc15]); (try rw [zbq4 hc15]); (try rw [zz_1 hc15]); (try rw [zz_2 hc15]); first | rfl | (simp only [Bool.false_and, Bool.and_false, Bool.or_false, Bool.false_or, Bool.true_and, Bool.and_true, Bool.true_or, Bool.or_true]; rfl)) rfl) ⟨Nat.le_refl _, Nat.le_refl _⟩ rfl (by first | rfl | exact znB)
              · skip
                skip
                refine z_iconst C rfl ?_
                refine z_goto C rfl ?_
                exact z_zreturn C rfl (zER_eq he (by (first | rw [zNoN1 hs1] | rw [zNoN2 hs1 hs2] | rw [zNoN3 hs1 hs2 hs3] | rw [zNoN4 hs1 hs2 hs3]); (try rw [zbq1 hc1]); (try rw [zbq2 hc1]); (try rw [zbq3 hc1]); (try rw [zbq4 hc1]); (try rw [zz_1 hc1]); (try rw [zz_2 hc1]); (try rw [zbq1 hc2]); (try rw [zbq2 hc2]); (try rw [zbq3 hc2]); (try rw [zbq4 hc2]); (try rw [zz_1 hc2]); (try rw [zz_2 hc2]); (try rw [zbq1 hc3]); (try rw [zbq2 hc3]); (try rw [zbq3 hc3]); (try rw [zbq4 hc3]); (try rw [zz_1 hc3]); (try rw [zz_2 hc3]); (try rw [zbq1 hc4]); (try rw [zbq2 hc4]); (try rw [zbq3 hc4]); (try rw [zbq4 hc4]); (try rw [zz_1 hc4]); (try rw [zz_2 hc4]); (try rw [zbq1 hc5]); (try rw [zbq2 hc5]); (try rw [zbq3 hc5]); (try rw [zbq4 hc5]); (try rw [zz_1 hc5]); (try rw [zz_2 hc5]); (try rw [zbq1 hc6]); (try rw [zbq2 hc6]); (try rw [zbq3 hc6]); (try rw [zbq4 hc6]); (try rw [zz_1 hc6]); (try rw [zz_2 hc6]); (try rw [zbq1 hc7]); (try rw [zbq2 hc7]); (try rw [zbq3 hc7]); (try rw [zbq4 hc7]); (try rw [zz_1 hc7]); (try rw [zz_2 hc7]); (try rw [zbq1 hc8]); (try rw [zbq2 hc8]); (try rw [zbq3 hc8]); (try rw [zbq4 hc8]); (try rw [zz_1 hc8]); (try rw [zz_2 hc8]); (try rw [zbq1 hc9]); (try rw [zbq2 hc9]); (try rw [zbq3 hc9]); (try rw [zbq4 hc9]); (try rw [zz_1 hc9]); (try rw [zz_2 hc9]); (try rw [zbq1 hc10]); (try rw [zbq2 hc10]); (try rw [zbq3 hc10]); (try rw [zbq4 hc10]); (try rw [zz_1 hc10]); (try rw [zz_2 hc10]); (try rw [zbq1 hc11]); (try rw [zbq2 hc11]); (try rw [zbq3 hc11]); (try rw [zbq4 hc11]); (try rw [zz_1 hc11]); (try rw [zz_2 hc11]); (try rw [zbq1 hc12]); (try rw [zbq2 hc12]); (try rw [zbq3 hc12]); (try rw [zbq4 hc12]); (try rw [zz_1 hc12]); (try rw [zz_2 hc12]); (try rw [zbq1 hc13]); (try rw [zbq2 hc13]); (try rw [zbq3 hc13]); (try rw [zbq4 hc13]); (try rw [zz_1 hc13]); (try rw [zz_2 hc13]); (try rw [zbq1 hc14]); (try rw [zbq2 hc14]); (try rw [zbq3 hc14]); (try rw [zbq4 hc14]); (try rw [zz_1 hc14]); (try rw [zz_2 hc14]); (try rw [zbq1 hc15]); (try rw [zbq2 hc15]); (try rw [zbq3 hc15]); (try rw [zbq4 hc15]); (try rw [zz_1 hc15]); (try rw [zz_2 hc15]); first | rfl | (simp only [Bool.false_and, Bool.and_false, Bool.or_false, Bool.false_or, Bool.true_and, Bool.and_true, Bool.true_or, Bool.or_true]; rfl)) rfl) ⟨Nat.le_refl _, Nat.le_refl _⟩ rfl (by first | rfl | exact znB)
          · skip
            skip
            refine z_iload C rfl rfl ?_
            refine z_if C rfl (fun hc8 => ?_) (fun hc8 => ?_)
            · skip
              skip
              refine z_iconst C rfl ?_
              refine z_goto C rfl ?_
              exact z_zreturn C rfl (zER_eq he (by (first | rw [zNoN1 hs1] | rw [zNoN2 hs1 hs2] | rw [zNoN3 hs1 hs2 hs3] | rw [zNoN4 hs1 hs2 hs3]); (try rw [zbq1 hc1]); (try rw [zbq2 hc1]); (try rw [zbq3 hc1]); (try rw [zbq4 hc1]); (try rw [zz_1 hc1]); (try rw [zz_2 hc1]); (try rw [zbq1 hc2]); (try rw [zbq2 hc2]); (try rw [zbq3 hc2]); (try rw [zbq4 hc2]); (try rw [zz_1 hc2]); (try rw [zz_2 hc2]); (try rw [zbq1 hc3]); (try rw [zbq2 hc3]); (try rw [zbq3 hc3]); (try rw [zbq4 hc3]); (try rw [zz_1 hc3]); (try rw [zz_2 hc3]); (try rw [zbq1 hc4]); (try rw [zbq2 hc4]); (try rw [zbq3 hc4]); (try rw [zbq4 hc4]); (try rw [zz_1 hc4]); (try rw [zz_2 hc4]); (try rw [zbq1 hc5]); (try rw [zbq2 hc5]); (try rw [zbq3 hc5]); (try rw [zbq4 hc5]); (try rw [zz_1 hc5]); (try rw [zz_2 hc5]); (try rw [zbq1 hc6]); (try rw [zbq2 hc6]); (try rw [zbq3 hc6]); (try rw [zbq4 hc6]); (try rw [zz_1 hc6]); (try rw [zz_2 hc6]); (try rw [zbq1 hc7]); (try rw [zbq2 hc7]); (try rw [zbq3 hc7]); (try rw [zbq4 hc7]); (try rw [zz_1 hc7]); (try rw [zz_2 hc7]); (try rw [zbq1 hc8]); (try rw [zbq2 hc8]); (try rw [zbq3 hc8]); (try rw [zbq4 hc8]); (try rw [zz_1 hc8]); (try rw [zz_2 hc8]); (try rw [zbq1 hc9]); (try rw [zbq2 hc9]); (try rw [zbq3 hc9]); (try rw [zbq4 hc9]); (try rw [zz_1 hc9]); (try rw [zz_2 hc9]); (try rw [zbq1 hc10]); (try rw [zbq2 hc10]); (try rw [zbq3 hc10]); (try rw [zbq4 hc10]); (try rw [zz_1 hc10]); (try rw [zz_2 hc10]); (try rw [zbq1 hc11]); (try rw [zbq2 hc11]); (try rw [zbq3 hc11]); (try rw [zbq4 hc11]); (try rw [zz_1 hc11]); (try rw [zz_2 hc11]); (try rw [zbq1 hc12]); (try rw [zbq2 hc12]); (try rw [zbq3 hc12]); (try rw [zbq4 hc12]); (try rw [zz_1 hc12]); (try rw [zz_2 hc12]); (try rw [zbq1 hc13]); (try rw [zbq2 hc13]); (try rw [zbq3 hc13]); (try rw [zbq4 hc13]); (try rw [zz_1 hc13]); (try rw [zz_2 hc13]); (try rw [zbq1 hc14]); (try rw [zbq2 hc14]); (try rw [zbq3 hc14]); (try rw [zbq4 hc14]); (try rw [zz_1 hc14]); (try rw [zz_2 hc14]); (try rw [zbq1 hc15]); (try rw [zbq2 hc15]); (try rw [zbq3 hc15]); (try rw [zbq4 hc15]); (try rw [zz_1 hc15]); (try rw [zz_2 hc15]); first | rfl | (simp only [Bool.false_and, Bool.and_false, Bool.or_false, Bool.false_or, Bool.true_and, Bool.and_true, Bool.true_or, Bool.or_true]; rfl)) rfl) ⟨Nat.le_refl _, Nat.le_refl _⟩ rfl (by first | rfl | exact znB)
            · skip
              skip
              refine z_iload C rfl rfl ?_
              refine z_if C rfl (fun hc9 => ?_) (fun hc9 => ?_)
              · skip
                skip
                refine z_iconst C rfl ?_
                exact z_zreturn C rfl (zER_eq he (by (first | rw [zNoN1 hs1] | rw [zNoN2 hs1 hs2] | rw [zNoN3 hs1 hs2 hs3] | rw [zNoN4 hs1 hs2 hs3]); (try rw [zbq1 hc1]); (try rw [zbq2 hc1]); (try rw [zbq3 hc1]); (try rw [zbq4 hc1]); (try rw [zz_1 hc1]); (try rw [zz_2 hc1]); (try rw [zbq1 hc2]); (try rw [zbq2 hc2]); (try rw [zbq3 hc2]); (try rw [zbq4 hc2]); (try rw [zz_1 hc2]); (try rw [zz_2 hc2]); (try rw [zbq1 hc3]); (try rw [zbq2 hc3]); (try rw [zbq3 hc3]); (try rw [zbq4 hc3]); (try rw [zz_1 hc3]); (try rw [zz_2 hc3]); (try rw [zbq1 hc4]); (try rw [zbq2 hc4]); (try rw [zbq3 hc4]); (try rw [zbq4 hc4]); (try rw [zz_1 hc4]); (try rw [zz_2 hc4]); (try rw [zbq1 hc5]); (try rw [zbq2 hc5]); (try rw [zbq3 hc5]); (try rw [zbq4 hc5]); (try rw [zz_1 hc5]); (try rw [zz_2 hc5]); (try rw [zbq1 hc6]); (try rw [zbq2 hc6]); (try rw [zbq3 hc6]); (try rw [zbq4 hc6]); (try rw [zz_1 hc6]); (try rw [zz_2 hc6]); (try rw [zbq1 hc7]); (try rw [zbq2 hc7]); (try rw [zbq3 hc7]); (try rw [zbq4 hc7]); (try rw [zz_1 hc7]); (try rw [zz_2 hc7]); (try rw [zbq1 hc8]); (try rw [zbq2 hc8]); (try rw [zbq3 hc8]); (try rw [zbq4 hc8]); (try rw [zz_1 hc8]); (try rw [zz_2 hc8]); (try rw [zbq1 hc9]); (try rw [zbq2 hc9]); (try rw [zbq3 hc9]); (try rw [zbq4 hc9]); (try rw [zz_1 hc9]); (try rw [zz_2 hc9]); (try rw [zbq1 hc10]); (try rw [zbq2 hc10]); (try rw [zbq3 hc10]); (try rw [zbq4 hc10]); (try rw [zz_1 hc10]); (try rw [zz_2 hc10]); (try rw [zbq1 hc11]); (try rw [zbq2 hc11]); (try rw [zbq3 hc11]); (try rw [zbq4 hc11]); (try rw [zz_1 hc11]); (try rw [zz_2 hc11]); (try rw [zbq1 hc12]); (try rw [zbq2 hc12]); (try rw [zbq3 hc12]); (try rw [zbq4 hc12]); (try rw [zz_1 hc12]); (try rw [zz_2 hc12]); (try rw [zbq1 hc13]); (try rw [zbq2 hc13]); (try rw [zbq3 hc13]); (try rw [zbq4 hc13]); (try rw [zz_1 hc13]); (try rw [zz_2 hc13]); (try rw [zbq1 hc14]); (try rw [zbq2 hc14]); (try rw [zbq3 hc14]); (try rw [zbq4 hc14]); (try rw [zz_1 hc14]); (try rw [zz_2 hc14]); (try rw [zbq1 hc15]); (try rw [zbq2 hc15]); (try rw [zbq3 hc15]); (try rw [zbq4 hc15]); (try rw [zz_1 hc15]); (try rw [zz_2 hc15]); first | rfl | (simp only [Bool.false_and, Bool.and_false, Bool.or_false, Bool.false_or, Bool.true_and, Bool.and_true, Bool.true_or, Bool.or_true]; rfl)) rfl) ⟨Nat.le_refl _, Nat.le_refl _⟩ rfl (by first | rfl | exact znB)
              · skip
                skip
                refine z_dloadn C rfl rfl ?_
                refine z_dconst0 C rfl ?_
                refine z_dcmp C rfl ?_
                refine z_if C rfl (fun hc10 => ?_) (fun hc10 => ?_)
                · skip
                  skip
                  refine z_iconst C rfl ?_
                  exact z_zreturn C rfl (zER_eq he (by (first | rw [zNoN1 hs1] | rw [zNoN2 hs1 hs2] | rw [zNoN3 hs1 hs2 hs3] | rw [zNoN4 hs1 hs2 hs3]); (try rw [zbq1 hc1]); (try rw [zbq2 hc1]); (try rw [zbq3 hc1]); (try rw [zbq4 hc1]); (try rw [zz_1 hc1]); (try rw [zz_2 hc1]); (try rw [zbq1 hc2]); (try rw [zbq2 hc2]); (try rw [zbq3 hc2]); (try rw [zbq4 hc2]); (try rw [zz_1 hc2]); (try rw [zz_2 hc2]); (try rw [zbq1 hc3]); (try rw [zbq2 hc3]); (try rw [zbq3 hc3]); (try rw [zbq4 hc3]); (try rw [zz_1 hc3]); (try rw [zz_2 hc3]); (try rw [zbq1 hc4]); (try rw [zbq2 hc4]); (try rw [zbq3 hc4]); (try rw [zbq4 hc4]); (try rw [zz_1 hc4]); (try rw [zz_2 hc4]); (try rw [zbq1 hc5]); (try rw [zbq2 hc5]); (try rw [zbq3 hc5]); (try rw [zbq4 hc5]); (try rw [zz_1 hc5]); (try rw [zz_2 hc5]); (try rw [zbq1 hc6]); (try rw [zbq2 hc6]); (try rw [zbq3 hc6]); (try rw [zbq4 hc6]); (try rw [zz_1 hc6]); (try rw [zz_2 hc6]); (try rw [zbq1 hc7]); (try rw [zbq2 hc7]); (try rw [zbq3 hc7]); (try rw [zbq4 hc7]); (try rw [zz_1 hc7]); (try rw [zz_2 hc7]); (try rw [zbq1 hc8]); (try rw [zbq2 hc8]); (try rw [zbq3 hc8]); (try rw [zbq4 hc8]); (try rw [zz_1 hc8]); (try rw [zz_2 hc8]); (try rw [zbq1 hc9]); (try rw [zbq2 hc9]); (try rw [zbq3 hc9]); (try rw [zbq4 hc9]); (try rw [zz_1 hc9]); (try rw [zz_2 hc9]); (try rw [zbq1 hc10]); (try rw [zbq2 hc10]); (try rw [zbq3 hc10]); (try rw [zbq4 hc10]); (try rw [zz_1 hc10]); (try rw [zz_2 hc10]); (try rw [zbq1 hc11]); (try rw [zbq2 hc11]); (try rw [zbq3 hc11]); (try rw [zbq4 hc11]); (try rw [zz_1 hc11]); (try rw [zz_2 hc11]); (try rw [zbq1 hc12]); (try rw [zbq2 hc12]); (try rw [zbq3 hc12]); (try rw [zbq4 hc12]); (try rw [zz_1 hc12]); (try rw [zz_2 hc12]); (try rw [zbq1 hc13]); (try rw [zbq2 hc13]); (try rw [zbq3 hc13]); (try rw [zbq4 hc13]); (try rw [zz_1 hc13]); (try rw [zz_2 hc13]); (try rw [zbq1 hc14]); (try rw [zbq2 hc14]); (try rw [zbq3 hc14]); (try rw [zbq4 hc14]); (try rw [zz_1 hc14]); (try rw [zz_2 hc14]); (try rw [zbq1 hc15]); (try rw [zbq2 hc15]); (try rw [zbq3 hc15]); (try rw [zbq4 hc15]); (try rw [zz_1 hc15]); (try rw [zz_2 hc15]); first | rfl | (simp only [Bool.false_and, Bool.and_false, Bool.or_false, Bool.false_or, Bool.true_and, Bool.and_true, Bool.true_or, Bool.or_true]; rfl)) rfl) ⟨Nat.le_refl _, Nat.le_refl _⟩ rfl (by first | rfl | exact znB)
                · skip
                  skip
                  refine z_iconst C rfl ?_
                  refine z_goto C rfl ?_
                  exact z_zreturn C rfl (zER_eq he (by (first | rw [zNoN1 hs1] | rw [zNoN2 hs1 hs2] | rw [zNoN3 hs1 hs2 hs3] | rw [zNoN4 hs1 hs2 hs3]); (try rw [zbq1 hc1]); (try rw [zbq2 hc1]); (try rw [zbq3 hc1]); (try rw [zbq4 hc1]); (try rw [zz_1 hc1]); (try rw [zz_2 hc1]); (try rw [zbq1 hc2]); (try rw [zbq2 hc2]); (try rw [zbq3 hc2]); (try rw [zbq4 hc2]); (try rw [zz_1 hc2]); (try rw [zz_2 hc2]); (try rw [zbq1 hc3]); (try rw [zbq2 hc3]); (try rw [zbq3 hc3]); (try rw [zbq4 hc3]); (try rw [zz_1 hc3]); (try rw [zz_2 hc3]); (try rw [zbq1 hc4]); (try rw [zbq2 hc4]); (try rw [zbq3 hc4]); (try rw [zbq4 hc4]); (try rw [zz_1 hc4]); (try rw [zz_2 hc4]); (try rw [zbq1 hc5]); (try rw [zbq2 hc5]); (try rw [zbq3 hc5]); (try rw [zbq4 hc5]); (try rw [zz_1 hc5]); (try rw [zz_2 hc5]); (try rw [zbq1 hc6]); (try rw [zbq2 hc6]); (try rw [zbq3 hc6]); (try rw [zbq4 hc6]); (try rw [zz_1 hc6]); (try rw [zz_2 hc6]); (try rw [zbq1 hc7]); (try rw [zbq2 hc7]); (try rw [zbq3 hc7]); (try rw [zbq4 hc7]); (try rw [zz_1 hc7]); (try rw [zz_2 hc7]); (try rw [zbq1 hc8]); (try rw [zbq2 hc8]); (try rw [zbq3 hc8]); (try rw [zbq4 hc8]); (try rw [zz_1 hc8]); (try rw [zz_2 hc8]); (try rw [zbq1 hc9]); (try rw [zbq2 hc9]); (try rw [zbq3 hc9]); (try rw [zbq4 hc9]); (try rw [zz_1 hc9]); (try rw [zz_2 hc9]); (try rw [zbq1 hc10]); (try rw [zbq2 hc10]); (try rw [zbq3 hc10]); (try rw [zbq4 hc10]); (try rw [zz_1 hc10]); (try rw [zz_2 hc10]); (try rw [zbq1 hc11]); (try rw [zbq2 hc11]); (try rw [zbq3 hc11]); (try rw [zbq4 hc11]); (try rw [zz_1 hc11]); (try rw [zz_2 hc11]); (try rw [zbq1 hc12]); (try rw [zbq2 hc12]); (try rw [zbq3 hc12]); (try rw [zbq4 hc12]); (try rw [zz_1 hc12]); (try rw [zz_2 hc12]); (try rw [zbq1 hc13]); (try rw [zbq2 hc13]); (try rw [zbq3 hc13]); (try rw [zbq4 hc13]); (try rw [zz_1 hc13]); (try rw [zz_2 hc13]); (try rw [zbq1 hc14]); (try rw [zbq2 hc14]); (try rw [zbq3 hc14]); (try rw [zbq4 hc14]); (try rw [zz_1 hc14]); (try rw [zz_2 hc14]); (try rw [zbq1 hc15]); (try rw [zbq2 hc15]); (try rw [zbq3 hc15]); (try rw [zbq4 hc15]); (try rw [zz_1 hc15]); (try rw [zz_2 hc15]); first | rfl | (simp only [Bool.false_and, Bool.and_false, Bool.or_false, Bool.false_or, Bool.true_and, Bool.and_true, Bool.true_or, Bool.or_true]; rfl)) rfl) ⟨Nat.le_refl _, Nat.le_refl _⟩ rfl (by first | rfl | exact znB)
        · skip
          refine z_tsD C _ (znm hs1 (znm hs2 (znm hs3 znm0))) rfl (by decide) (by decide +kernel) (tgt := 188) (by decide) ?_
          refine z_iload C rfl rfl ?_
          refine z_if C rfl (fun hc11 => ?_) (fun hc11 => ?_)
          · skip
            skip
            refine z_iconst C rfl ?_
            refine z_goto C rfl ?_
            exact z_zreturn C rfl (zER_eq he (by (first | rw [zNoN1 hs1] | rw [zNoN2 hs1 hs2] | rw [zNoN3 hs1 hs2 hs3] | rw [zNoN4 hs1 hs2 hs3]); (try rw [zbq1 hc1]); (try rw [zbq2 hc1]); (try rw [zbq3 hc1]); (try rw [zbq4 hc1]); (try rw [zz_1 hc1]); (try rw [zz_2 hc1]); (try rw [zbq1 hc2]); (try rw [zbq2 hc2]); (try rw [zbq3 hc2]); (try rw [zbq4 hc2]); (try rw [zz_1 hc2]); (try rw [zz_2 hc2]); (try rw [zbq1 hc3]); (try rw [zbq2 hc3]); (try rw [zbq3 hc3]); (try rw [zbq4 hc3]); (try rw [zz_1 hc3]); (try rw [zz_2 hc3]); (try rw [zbq1 hc4]); (try rw [zbq2 hc4]); (try rw [zbq3 hc4]); (try rw [zbq4 hc4]); (try rw [zz_1 hc4]); (try rw [zz_2 hc4]); (try rw [zbq1 hc5]); (try rw [zbq2 hc5]); (try rw [zbq3 hc5]); (try rw [zbq4 hc5]); (try rw [zz_1 hc5]); (try rw [zz_2 hc5]); (try rw [zbq1 hc6]); (try rw [zbq2 hc6]); (try rw [zbq3 hc6]); (try rw [zbq4 hc6]); (try rw [zz_1 hc6]); (try rw [zz_2 hc6]); (try rw [zbq1 hc7]); (try rw [zbq2 hc7]); (try rw [zbq3 hc7]); (try rw [zbq4 hc7]); (try rw [zz_1 hc7]); (try rw [zz_2 hc7]); (try rw [zbq1 hc8]); (try rw [zbq2 hc8]); (try rw [zbq3 hc8]); (try rw [zbq4 hc8]); (try rw [zz_1 hc8]); (try rw [zz_2 hc8]); (try rw [zbq1 hc9]); (try rw [zbq2 hc9]); (try rw [zbq3 hc9]); (try rw [zbq4 hc9]); (try rw [zz_1 hc9]); (try rw [zz_2 hc9]); (try rw [zbq1 hc10]); (try rw [zbq2 hc10]); (try rw [zbq3 hc10]); (try rw [zbq4 hc10]); (try rw [zz_1 hc10]); (try rw [zz_2 hc10]); (try rw [zbq1 hc11]); (try rw [zbq2 hc11]); (try rw [zbq3 hc11]); (try rw [zbq4 hc11]); (try rw [zz_1 hc11]); (try rw [zz_2 hc11]); (try rw [zbq1 hc12]); (try rw [zbq2 hc12]); (try rw [zbq3 hc12]); (try rw [zbq4 hc12]); (try rw [zz_1 hc12]); (try rw [zz_2 hc12]); (try rw [zbq1 hc13]); (try rw [zbq2 hc13]); (try rw [zbq3 hc13]); (try rw [zbq4 hc13]); (try rw [zz_1 hc13]); (try rw [zz_2 hc13]); (try rw [zbq1 hc14]); (try rw [zbq2 hc14]); (try rw [zbq3 hc14]); (try rw [zbq4 hc14]); (try rw [zz_1 hc14]); (try rw [zz_2 hc14]); (try rw [zbq1 hc15]); (try rw [zbq2 hc15]); (try rw [zbq3 hc15]); (try rw [zbq4 hc15]); (try rw [zz_1 hc15]); (try rw [zz_2 hc15]); first | rfl | (simp only [Bool.false_and, Bool.and_false, Bool.or_false, Bool.false_or, Bool.true_and, Bool.and_true, Bool.true_or, Bool.or_true]; rfl)) rfl) ⟨Nat.le_refl _, Nat.le_refl _⟩ rfl (by first | rfl | exact znB)
          · skip
            skip
            refine z_dloadn C rfl rfl ?_
            refine z_dconst0 C rfl ?_
            refine z_dcmp C rfl ?_
            refine z_if C rfl (fun hc12 => ?_) (fun hc12 => ?_)
            · skip
              skip
              refine z_iconst C rfl ?_
              exact z_zreturn C rfl (zER_eq he (by (first | rw [zNoN1 hs1] | rw [zNoN2 hs1 hs2] | rw [zNoN3 hs1 hs2 hs3] | rw [zNoN4 hs1 hs2 hs3]); (try rw [zbq1 hc1]); (try rw [zbq2 hc1]); (try rw [zbq3 hc1]); (try rw [zbq4 hc1]); (try rw [zz_1 hc1]); (try rw [zz_2 hc1]); (try rw [zbq1 hc2]); (try rw [zbq2 hc2]); (try rw [zbq3 hc2]); (try rw [zbq4 hc2]); (try rw [zz_1 hc2]); (try rw [zz_2 hc2]); (try rw [zbq1 hc3]); (try rw [zbq2 hc3]); (try rw [zbq3 hc3]); (try rw [zbq4 hc3]); (try rw [zz_1 hc3]); (try rw [zz_2 hc3]); (try rw [zbq1 hc4]); (try rw [zbq2 hc4]); (try rw [zbq3 hc4]); (try rw [zbq4 hc4]); (try rw [zz_1 hc4]); (try rw [zz_2 hc4]); (try rw [zbq1 hc5]); (try rw [zbq2 hc5]); (try rw [zbq3 hc5]); (try rw [zbq4 hc5]); (try rw [zz_1 hc5]); (try rw [zz_2 hc5]); (try rw [zbq1 hc6]); (try rw [zbq2 hc6]); (try rw [zbq3 hc6]); (try rw [zbq4 hc6]); (try rw [zz_1 hc6]); (try rw [zz_2 hc6]); (try rw [zbq1 hc7]); (try rw [zbq2 hc7]); (try rw [zbq3 hc7]); (try rw [zbq4 hc7]); (try rw [zz_1 hc7]); (try rw [zz_2 hc7]); (try rw [zbq1 hc8]); (try rw [zbq2 hc8]); (try rw [zbq3 hc8]); (try rw [zbq4 hc8]); (try rw [zz_1 hc8]); (try rw [zz_2 hc8]); (try rw [zbq1 hc9]); (try rw [zbq2 hc9]); (try rw [zbq3 hc9]); (try rw [zbq4 hc9]); (try rw [zz_1 hc9]); (try rw [zz_2 hc9]); (try rw [zbq1 hc10]); (try rw [zbq2 hc10]); (try rw [zbq3 hc10]); (try rw [zbq4 hc10]); (try rw [zz_1 hc10]); (try rw [zz_2 hc10]); (try rw [zbq1 hc11]); (try rw [zbq2 hc11]); (try rw [zbq3 hc11]); (try rw [zbq4 hc11]); (try rw [zz_1 hc11]); (try rw [zz_2 hc11]); (try rw [zbq1 hc12]); (try rw [zbq2 hc12]); (try rw [zbq3 hc12]); (try rw [zbq4 hc12]); (try rw [zz_1 hc12]); (try rw [zz_2 hc12]); (try rw [zbq1 hc13]); (try rw [zbq2 hc13]); (try rw [zbq3 hc13]); (try rw [zbq4 hc13]); (try rw [zz_1 hc13]); (try rw [zz_2 hc13]); (try rw [zbq1 hc14]); (try rw [zbq2 hc14]); (try rw [zbq3 hc14]); (try rw [zbq4 hc14]); (try rw [zz_1 hc14]); (try rw [zz_2 hc14]); (try rw [zbq1 hc15]); (try rw [zbq2 hc15]); (try rw [zbq3 hc15]); (try rw [zbq4 hc15]); (try rw [zz_1 hc15]); (try rw [zz_2 hc15]); first | rfl | (simp only [Bool.false_and, Bool.and_false, Bool.or_false, Bool.false_or, Bool.true_and, Bool.and_true, Bool.true_or, Bool.or_true]; rfl)) rfl) ⟨Nat.le_refl _, Nat.le_refl _⟩ rfl (by first | rfl | exact znB)
            · skip
              skip
              refine z_dloadn C rfl rfl ?_
              refine z_dconst0 C rfl ?_
              refine z_dcmp C rfl ?_
              refine z_if C rfl (fun hc13 => ?_) (fun hc13 => ?_)
              · skip
                skip
                refine z_iconst C rfl ?_
                exact z_zreturn C rfl (zER_eq he (by (first | rw [zNoN1 hs1] | rw [zNoN2 hs1 hs2] | rw [zNoN3 hs1 hs2 hs3] | rw [zNoN4 hs1 hs2 hs3]); (try rw [zbq1 hc1]); (try rw [zbq2 hc1]); (try rw [zbq3 hc1]); (try rw [zbq4 hc1]); (try rw [zz_1 hc1]); (try rw [zz_2 hc1]); (try rw [zbq1 hc2]); (try rw [zbq2 hc2]); (try rw [zbq3 hc2]); (try rw [zbq4 hc2]); (try rw [zz_1 hc2]); (try rw [zz_2 hc2]); (try rw [zbq1 hc3]); (try rw [zbq2 hc3]); (try rw [zbq3 hc3]); (try rw [zbq4 hc3]); (try rw [zz_1 hc3]); (try rw [zz_2 hc3]); (try rw [zbq1 hc4]); (try rw [zbq2 hc4]); (try rw [zbq3 hc4]); (try rw [zbq4 hc4]); (try rw [zz_1 hc4]); (try rw [zz_2 hc4]); (try rw [zbq1 hc5]); (try rw [zbq2 hc5]); (try rw [zbq3 hc5]); (try rw [zbq4 hc5]); (try rw [zz_1 hc5]); (try rw [zz_2 hc5]); (try rw [zbq1 hc6]); (try rw [zbq2 hc6]); (try rw [zbq3 hc6]); (try rw [zbq4 hc6]); (try rw [zz_1 hc6]); (try rw [zz_2 hc6]); (try rw [zbq1 hc7]); (try rw [zbq2 hc7]); (try rw [zbq3 hc7]); (try rw [zbq4 hc7]); (try rw [zz_1 hc7]); (try rw [zz_2 hc7]); (try rw [zbq1 hc8]); (try rw [zbq2 hc8]); (try rw [zbq3 hc8]); (try rw [zbq4 hc8]); (try rw [zz_1 hc8]); (try rw [zz_2 hc8]); (try rw [zbq1 hc9]); (try rw [zbq2 hc9]); (try rw [zbq3 hc9]); (try rw [zbq4 hc9]); (try rw [zz_1 hc9]); (try rw [zz_2 hc9]); (try rw [zbq1 hc10]); (try rw [zbq2 hc10]); (try rw [zbq3 hc10]); (try rw [zbq4 hc10]); (try rw [zz_1 hc10]); (try rw [zz_2 hc10]); (try rw [zbq1 hc11]); (try rw [zbq2 hc11]); (try rw [zbq3 hc11]); (try rw [zbq4 hc11]); (try rw [zz_1 hc11]); (try rw [zz_2 hc11]); (try rw [zbq1 hc12]); (try rw [zbq2 hc12]); (try rw [zbq3 hc12]); (try rw [zbq4 hc12]); (try rw [zz_1 hc12]); (try rw [zz_2 hc12]); (try rw [zbq1 hc13]); (try rw [zbq2 hc13]); (try rw [zbq3 hc13]); (try rw [zbq4 hc13]); (try rw [zz_1 hc13]); (try rw [zz_2 hc13]); (try rw [zbq1 hc14]); (try rw [zbq2 hc14]); (try rw [zbq3 hc14]); (try rw [zbq4 hc14]); (try rw [zz_1 hc14]); (try rw [zz_2 hc14]); (try rw [zbq1 hc15]); (try rw [zbq2 hc15]); (try rw [zbq3 hc15]); (try rw [zbq4 hc15]); (try rw [zz_1 hc15]); (try rw [zz_2 hc15]); first | rfl | (simp only [Bool.false_and, Bool.and_false, Bool.or_false, Bool.false_or, Bool.true_and, Bool.and_true, Bool.true_or, Bool.or_true]; rfl)) rfl) ⟨Nat.le_refl _, Nat.le_refl _⟩ rfl (by first | rfl | exact znB)
              · skip
                skip
                refine z_iconst C rfl ?_
                refine z_goto C rfl ?_
                exact z_zreturn C rfl (zER_eq he (by (first | rw [zNoN1 hs1] | rw [zNoN2 hs1 hs2] | rw [zNoN3 hs1 hs2 hs3] | rw [zNoN4 hs1 hs2 hs3]); (try rw [zbq1 hc1]); (try rw [zbq2 hc1]); (try rw [zbq3 hc1]); (try rw [zbq4 hc1]); (try rw [zz_1 hc1]); (try rw [zz_2 hc1]); (try rw [zbq1 hc2]); (try rw [zbq2 hc2]); (try rw [zbq3 hc2]); (try rw [zbq4 hc2]); (try rw [zz_1 hc2]); (try rw [zz_2 hc2]); (try rw [zbq1 hc3]); (try rw [zbq2 hc3]); (try rw [zbq3 hc3]); (try rw [zbq4 hc3]); (try rw [zz_1 hc3]); (try rw [zz_2 hc3]); (try rw [zbq1 hc4]); (try rw [zbq2 hc4]); (try rw [zbq3 hc4]); (try rw [zbq4 hc4]); (try rw [zz_1 hc4]); (try rw [zz_2 hc4]); (try rw [zbq1 hc5]); (try rw [zbq2 hc5]); (try rw [zbq3 hc5]); (try rw [zbq4 hc5]); (try rw [zz_1 hc5]); (try rw [zz_2 hc5]); (try rw [zbq1 hc6]); (try rw [zbq2 hc6]); (try rw [zbq3 hc6]); (try rw [zbq4 hc6]); (try rw [zz_1 hc6]); (try rw [zz_2 hc6]); (try rw [zbq1 hc7]); (try rw [zbq2 hc7]); (try rw [zbq3 hc7]); (try rw [zbq4 hc7]); (try rw [zz_1 hc7]); (try rw [zz_2 hc7]); (try rw [zbq1 hc8]); (try rw [zbq2 hc8]); (try rw [zbq3 hc8]); (try rw [zbq4 hc8]); (try rw [zz_1 hc8]); (try rw [zz_2 hc8]); (try rw [zbq1 hc9]); (try rw [zbq2 hc9]); (try rw [zbq3 hc9]); (try rw [zbq4 hc9]); (try rw [zz_1 hc9]); (try rw [zz_2 hc9]); (try rw [zbq1 hc10]); (try rw [zbq2 hc10]); (try rw [zbq3 hc10]); (try rw [zbq4 hc10]); (try rw [zz_1 hc10]); (try rw [zz_2 hc10]); (try rw [zbq1 hc11]); (try rw [zbq2 hc11]); (try rw [zbq3 hc11]); (try rw [zbq4 hc11]); (try rw [zz_1 hc11]); (try rw [zz_2 hc11]); (try rw [zbq1 hc12]); (try rw [zbq2 hc12]); (try rw [zbq3 hc12]); (try rw [zbq4 hc12]); (try rw [zz_1 hc12]); (try rw [zz_2 hc12]); (try rw [zbq1 hc13]); (try rw [zbq2 hc13]); (try rw [zbq3 hc13]); (try rw [zbq4 hc13]); (try rw [zz_1 hc13]); (try rw [zz_2 hc13]); (try rw [zbq1 hc14]); (try rw [zbq2 hc14]); (try rw [zbq3 hc14]); (try rw [zbq4 hc14]); (try rw [zz_1 hc14]); (try rw [zz_2 hc14]); (try rw [zbq1 hc15]); (try rw [zbq2 hc15]); (try rw [zbq3 hc15]); (try rw [zbq4 hc15]); (try rw [zz_1 hc15]); (try rw [zz_2 hc15]); first | rfl | (simp only [Bool.false_and, Bool.and_false, Bool.or_false, Bool.false_or, Bool.true_and, Bool.and_true, Bool.true_or, Bool.or_true]; rfl)) rfl) ⟨Nat.le_refl _, Nat.le_refl _⟩ rfl (by first | rfl | exact znB)
  have k88 : ∀ v : Int32, v = zB (zposB y) → ZG ω 64 88 [(0, zi o), (1, zd x), (3, zd y), (5, zd zGr), (7, zi (zB (zinfB x))), (8, zi (zB (zinfB y))), (9, zi (zB (zinfB x && zinfB y)))] [zi v, zi (zB (zposB x))] h 0 0 := by
    intro v hv
    subst hv
    refine z_icmp C rfl (fun hc1 => ?_) (fun hc1 => ?_)
    · skip
      skip
      refine z_iconst C rfl ?_
      exact z_ll [(0, zi o), (1, zd x), (3, zd y), (5, zd zGr), (7, zi (zB (zinfB x))), (8, zi (zB (zinfB y))), (9, zi (zB (zinfB x && zinfB y)))] ⟨rfl, rfl, rfl, rfl, rfl, rfl, rfl, trivial⟩ (k96 _ (by first | (rw [decide_eq_false (fun q => hc1 (congrArg zB q))]; rfl) | (rw [decide_eq_true (zbinj (Decidable.of_not_not hc1))]; rfl)))
    · skip
      skip
      refine z_iconst C rfl ?_
      refine z_goto C rfl ?_
      exact z_ll [(0, zi o), (1, zd x), (3, zd y), (5, zd zGr), (7, zi (zB (zinfB x))), (8, zi (zB (zinfB y))), (9, zi (zB (zinfB x && zinfB y)))] ⟨rfl, rfl, rfl, rfl, rfl, rfl, rfl, trivial⟩ (k96 _ (by first | (rw [decide_eq_false (fun q => hc1 (congrArg zB q))]; rfl) | (rw [decide_eq_true (zbinj (Decidable.of_not_not hc1))]; rfl)))
  have k77 : ∀ v : Int32, v = zB (zposB x) → ZG ω 64 77 [(0, zi o), (1, zd x), (3, zd y), (5, zd zGr), (7, zi (zB (zinfB x))), (8, zi (zB (zinfB y))), (9, zi (zB (zinfB x && zinfB y)))] [zi v] h 0 0 := by
    intro v hv
    subst hv
    refine z_dloadn C rfl rfl ?_
    refine z_dconst0 C rfl ?_
    refine z_dcmp C rfl ?_
    refine z_if C rfl (fun hc1 => ?_) (fun hc1 => ?_)
    · skip
      skip
      refine z_iconst C rfl ?_
      exact z_ll [(0, zi o), (1, zd x), (3, zd y), (5, zd zGr), (7, zi (zB (zinfB x))), (8, zi (zB (zinfB y))), (9, zi (zB (zinfB x && zinfB y)))] ⟨rfl, rfl, rfl, rfl, rfl, rfl, rfl, trivial⟩ (k88 _ (by first | (rw [zp_1 hc1]; rfl) | (rw [zp_2 hc1]; rfl)))
    · skip
      skip
      refine z_iconst C rfl ?_
      refine z_goto C rfl ?_
      exact z_ll [(0, zi o), (1, zd x), (3, zd y), (5, zd zGr), (7, zi (zB (zinfB x))), (8, zi (zB (zinfB y))), (9, zi (zB (zinfB x && zinfB y)))] ⟨rfl, rfl, rfl, rfl, rfl, rfl, rfl, trivial⟩ (k88 _ (by first | (rw [zp_1 hc1]; rfl) | (rw [zp_2 hc1]; rfl)))
  have k64 : ∀ v : Int32, v = zB (zinfB x && zinfB y) → ZG ω 64 64 [(0, zi o), (1, zd x), (3, zd y), (5, zd zGr), (7, zi (zB (zinfB x))), (8, zi (zB (zinfB y)))] [zi v] h 0 0 := by
    intro v hv
    subst hv
    refine z_istore C rfl ?_
    refine z_dloadn C rfl rfl ?_
    refine z_dconst0 C rfl ?_
    refine z_dcmp C rfl ?_
    refine z_if C rfl (fun hc1 => ?_) (fun hc1 => ?_)
    · skip
      skip
      refine z_iconst C rfl ?_
      exact z_ll [(0, zi o), (1, zd x), (3, zd y), (5, zd zGr), (7, zi (zB (zinfB x))), (8, zi (zB (zinfB y))), (9, zi (zB (zinfB x && zinfB y)))] ⟨rfl, rfl, rfl, rfl, rfl, rfl, rfl, trivial⟩ (k77 _ (by first | (rw [zp_1 hc1]; rfl) | (rw [zp_2 hc1]; rfl)))
    · skip
      skip
      refine z_iconst C rfl ?_
      refine z_goto C rfl ?_
      exact z_ll [(0, zi o), (1, zd x), (3, zd y), (5, zd zGr), (7, zi (zB (zinfB x))), (8, zi (zB (zinfB y))), (9, zi (zB (zinfB x && zinfB y)))] ⟨rfl, rfl, rfl, rfl, rfl, rfl, rfl, trivial⟩ (k77 _ (by first | (rw [zp_1 hc1]; rfl) | (rw [zp_2 hc1]; rfl)))
  have k47 : ∀ v : Int32, v = zB (zinfB y) → ZG ω 64 47 [(0, zi o), (1, zd x), (3, zd y), (5, zd zGr), (7, zi (zB (zinfB x)))] [zi v] h 0 0 := by
    intro v hv
    subst hv
    refine z_istore C rfl ?_
    refine z_iload C rfl rfl ?_
    refine z_if C rfl (fun hc1 => ?_) (fun hc1 => ?_)
    · skip
      skip
      refine z_iconst C rfl ?_
      exact z_ll [(0, zi o), (1, zd x), (3, zd y), (5, zd zGr), (7, zi (zB (zinfB x))), (8, zi (zB (zinfB y)))] ⟨rfl, rfl, rfl, rfl, rfl, rfl, trivial⟩ (k64 _ (by first | (rw [zbq1 hc1]; rfl) | (rw [zbq2 hc1, zbq1 hc2]; rfl) | (rw [zbq2 hc1, zbq2 hc2]; rfl)))
    · skip
      skip
      refine z_iload C rfl rfl ?_
      refine z_if C rfl (fun hc2 => ?_) (fun hc2 => ?_)
      · skip
        skip
        refine z_iconst C rfl ?_
        exact z_ll [(0, zi o), (1, zd x), (3, zd y), (5, zd zGr), (7, zi (zB (zinfB x))), (8, zi (zB (zinfB y)))] ⟨rfl, rfl, rfl, rfl, rfl, rfl, trivial⟩ (k64 _ (by first | (rw [zbq1 hc1]; rfl) | (rw [zbq2 hc1, zbq1 hc2]; rfl) | (rw [zbq2 hc1, zbq2 hc2]; rfl)))
      · skip
        skip
        refine z_iconst C rfl ?_
        refine z_goto C rfl ?_
        exact z_ll [(0, zi o), (1, zd x), (3, zd y), (5, zd zGr), (7, zi (zB (zinfB x))), (8, zi (zB (zinfB y)))] ⟨rfl, rfl, rfl, rfl, rfl, rfl, trivial⟩ (k64 _ (by first | (rw [zbq1 hc1]; rfl) | (rw [zbq2 hc1, zbq1 hc2]; rfl) | (rw [zbq2 hc1, zbq2 hc2]; rfl)))
  have k25 : ∀ v : Int32, v = zB (zinfB x) → ZG ω 64 25 [(0, zi o), (1, zd x), (3, zd y), (5, zd zGr)] [zi v] h 0 0 := by
    intro v hv
    subst hv
    refine z_istore C rfl ?_
    refine z_dloadn C rfl rfl ?_
    refine z_dload C rfl rfl ?_
    refine z_dcmp C rfl ?_
    refine z_if C rfl (fun hc1 => ?_) (fun hc1 => ?_)
    · skip
      skip
      refine z_iconst C rfl ?_
      refine z_goto C rfl ?_
      exact z_ll [(0, zi o), (1, zd x), (3, zd y), (5, zd zGr), (7, zi (zB (zinfB x)))] ⟨rfl, rfl, rfl, rfl, rfl, trivial⟩ (k47 _ (by first | (rw [zi_1 hc1]; rfl) | (rw [zi_2 hc2]; rfl) | (rw [zi_3 hc1 hc2]; rfl)))
    · skip
      skip
      refine z_dloadn C rfl rfl ?_
      refine z_dload C rfl rfl ?_
      refine z_dneg C rfl ?_
      refine z_dcmp C rfl ?_
      refine z_if C rfl (fun hc2 => ?_) (fun hc2 => ?_)
      · skip
        skip
        refine z_iconst C rfl ?_
        exact z_ll [(0, zi o), (1, zd x), (3, zd y), (5, zd zGr), (7, zi (zB (zinfB x)))] ⟨rfl, rfl, rfl, rfl, rfl, trivial⟩ (k47 _ (by first | (rw [zi_1 hc1]; rfl) | (rw [zi_2 hc2]; rfl) | (rw [zi_3 hc1 hc2]; rfl)))
      · skip
        skip
        refine z_iconst C rfl ?_
        refine z_goto C rfl ?_
        exact z_ll [(0, zi o), (1, zd x), (3, zd y), (5, zd zGr), (7, zi (zB (zinfB x)))] ⟨rfl, rfl, rfl, rfl, rfl, trivial⟩ (k47 _ (by first | (rw [zi_1 hc1]; rfl) | (rw [zi_2 hc2]; rfl) | (rw [zi_3 hc1 hc2]; rfl)))
  refine z_ldcd C (v := zGr) (by decide +kernel) kd52 ?_
  refine z_dstore C rfl ?_
  refine z_dloadn C rfl rfl ?_
  refine z_dload C rfl rfl ?_
  refine z_dcmp C rfl ?_
  refine z_if C rfl (fun hc1 => ?_) (fun hc1 => ?_)
  · skip
    skip
    refine z_iconst C rfl ?_
    refine z_goto C rfl ?_
    exact z_ll [(0, zi o), (1, zd x), (3, zd y), (5, zd zGr)] ⟨rfl, rfl, rfl, rfl, trivial⟩ (k25 _ (by first | (rw [zi_1 hc1]; rfl) | (rw [zi_2 hc2]; rfl) | (rw [zi_3 hc1 hc2]; rfl)))
  · skip
    skip
    refine z_dloadn C rfl rfl ?_
    refine z_dload C rfl rfl ?_
    refine z_dneg C rfl ?_
    refine z_dcmp C rfl ?_
    refine z_if C rfl (fun hc2 => ?_) (fun hc2 => ?_)
    · skip
      skip
      refine z_iconst C rfl ?_
      exact z_ll [(0, zi o), (1, zd x), (3, zd y), (5, zd zGr)] ⟨rfl, rfl, rfl, rfl, trivial⟩ (k25 _ (by first | (rw [zi_1 hc1]; rfl) | (rw [zi_2 hc2]; rfl) | (rw [zi_3 hc1 hc2]; rfl)))
    · skip
      skip
      refine z_iconst C rfl ?_
      refine z_goto C rfl ?_
      exact z_ll [(0, zi o), (1, zd x), (3, zd y), (5, zd zGr)] ⟨rfl, rfl, rfl, rfl, trivial⟩ (k25 _ (by first | (rw [zi_1 hc1]; rfl) | (rw [zi_2 hc2]; rfl) | (rw [zi_3 hc1 hc2]; rfl)))

set_option maxHeartbeats 400000 in
set_option maxRecDepth 20000 in
theorem q_ofW {κ : zK} (hκ : zKg κ) {o : Int32} {x y : Int64} (h : zH) : zRq κ 62 [zi o, zj x, zj y] h (fun v h' => h' = h ∧ ∃ z, v = some (zj z)) 0 0 := by
  refine zRq_of hκ (by decide) (by decide +kernel) (Nat.le_of_ble_eq_true rfl) fun ω C hK he => ?_
  refine z_iloadn C rfl rfl ?_
  by_cases hs1 : (o).toInt ∈ ([43] : List Int)
  · skip
    refine z_tsE C _ hs1 rfl (by decide) (off := 31) (by decide +kernel) (tgt := 32) (by decide) ?_
    refine z_lloadn C rfl rfl ?_
    refine z_lloadn C rfl rfl ?_
    refine z_ladd C rfl ?_
    exact z_lreturnq C rfl he ⟨Nat.le_refl _, Nat.le_refl _⟩ rfl ⟨rfl, _, rfl⟩
  · skip
    by_cases hs2 : (o).toInt ∈ ([45] : List Int)
    · skip
      refine z_tsE C _ hs2 rfl (by decide) (off := 35) (by decide +kernel) (tgt := 36) (by decide) ?_
      refine z_lloadn C rfl rfl ?_
      refine z_lloadn C rfl rfl ?_
      refine z_lsub C rfl ?_
      exact z_lreturnq C rfl he ⟨Nat.le_refl _, Nat.le_refl _⟩ rfl ⟨rfl, _, rfl⟩
    · skip
      by_cases hs3 : (o).toInt ∈ ([42] : List Int)
      · skip
        refine z_tsE C _ hs3 rfl (by decide) (off := 39) (by decide +kernel) (tgt := 40) (by decide) ?_
        refine z_lloadn C rfl rfl ?_
        refine z_lloadn C rfl rfl ?_
        refine z_lmul C rfl ?_
        exact z_lreturnq C rfl he ⟨Nat.le_refl _, Nat.le_refl _⟩ rfl ⟨rfl, _, rfl⟩
      · skip
        refine z_tsD C _ (znm hs1 (znm hs2 (znm hs3 znm0))) rfl (by decide) (by decide +kernel) (tgt := 44) (by decide) ?_
        refine z_lloadn C rfl rfl ?_
        refine z_lconst C rfl ?_
        refine z_lcmp C rfl ?_
        refine z_if C rfl (fun hc1 => ?_) (fun hc1 => ?_)
        · skip
          skip
          refine z_lloadn C rfl rfl ?_
          refine z_lloadn C rfl rfl ?_
          refine z_ldiv C rfl (fun q => (hc1 : ¬ lg_cmp y 0 = 0) (by rw [zlc0]; exact q)) ?_
          exact z_lreturnq C rfl he ⟨Nat.le_refl _, Nat.le_refl _⟩ rfl ⟨rfl, _, rfl⟩
        · skip
          skip
          refine z_lconst C rfl ?_
          refine z_goto C rfl ?_
          exact z_lreturnq C rfl he ⟨Nat.le_refl _, Nat.le_refl _⟩ rfl ⟨rfl, _, rfl⟩

/-- no double in a value is a NaN -/
def zNn (h : zH) : Prop := ∀ k, zS k = (0, 6, 6) → vf_n64 (h.2.2.1 k 1)
theorem zasD_n {h : zH} (hn : zNn h) {k : Nat} (hS : zS k = (0, 6, 6)) : vf_n64 (zasD h k) := by
  unfold zasD
  split
  · exact hn k hS
  · exact zn_l2d
set_option maxHeartbeats 400000 in
set_option maxRecDepth 20000 in
theorem q_atr {κ : zK} (hκ : zKg κ) {o : Int32} {k l : Nat} (hS : zS k = (0, 6, 6)) (hS2 : zS l = (0, 6, 6)) (h : zH) (hn : zNn h) : zRq κ 63 [zi o, zr (some k), zr (some l)] h (fun v h' => v = none ∧ (h' = zbStrange h k ∨ ∃ z, vf_n64 z ∧ h' = zbReal h k z)) 0 0 := by
  refine zRq_of hκ (by decide) (by decide +kernel) (Nat.le_of_ble_eq_true rfl) fun ω C hK he => ?_
  refine z_aloadn C rfl rfl ?_
  refine z_callv C rfl ⟨by decide, by decide⟩ hS (c_asDouble (zKg_of C) hS _) rfl rfl (Nat.le_of_ble_eq_true rfl) ⟨Nat.le_of_ble_eq_true rfl, Nat.le_of_ble_eq_true rfl⟩ ?_
  refine z_dstoren C rfl ?_
  refine z_aloadn C rfl rfl ?_
  refine z_callv C rfl ⟨by decide, by decide⟩ hS2 (c_asDouble (zKg_of C) hS2 _) rfl rfl (Nat.le_of_ble_eq_true rfl) ⟨(Nat.le_of_ble_eq_true rfl), (Nat.le_of_ble_eq_true rfl)⟩ ?_
  refine z_dstore C rfl ?_
  refine z_aloadn C rfl rfl ?_
  refine z_geti C rfl hS rfl ?_
  refine z_if C rfl (fun hc1 => ?_) (fun hc1 => ?_)
  · skip
    skip
    refine z_aloadn C rfl rfl ?_
    refine z_callv C rfl ⟨by decide, by decide⟩ hS (c_becomeStrange (zKg_of C) hS _) rfl rfl (Nat.le_of_ble_eq_true rfl) ⟨Nat.le_of_ble_eq_true rfl, Nat.le_of_ble_eq_true rfl⟩ ?_
    exact z_returnq C rfl he ⟨Nat.le_refl _, Nat.le_refl _⟩ rfl ⟨rfl, by first | exact Or.inl rfl | exact Or.inr ⟨_, zNoN_add (zasD_n hn hS) (zasD_n hn hS2) (List.mem_singleton.mp hs1 ▸ zbq1 hc3), rfl⟩ | exact Or.inr ⟨_, zNoN_sub (zasD_n hn hS) (zasD_n hn hS2) (List.mem_singleton.mp hs2 ▸ zbq1 hc3), rfl⟩ | exact Or.inr ⟨_, zNoN_mul (zasD_n hn hS) (zasD_n hn hS2) (List.mem_singleton.mp hs3 ▸ zbq1 hc3), rfl⟩ | exact Or.inr ⟨_, zNoN_div (zasD_n hn hS) (zasD_n hn hS2) hs1 hs2 hs3 (zbq1 hc3), rfl⟩⟩
  · skip
    skip
    refine z_aloadn C rfl rfl ?_
    refine z_geti C rfl hS2 rfl ?_
    refine z_if C rfl (fun hc2 => ?_) (fun hc2 => ?_)
    · skip
      skip
      refine z_aloadn C rfl rfl ?_
      refine z_callv C rfl ⟨by decide, by decide⟩ hS (c_becomeStrange (zKg_of C) hS _) rfl rfl (Nat.le_of_ble_eq_true rfl) ⟨Nat.le_of_ble_eq_true rfl, Nat.le_of_ble_eq_true rfl⟩ ?_
      exact z_returnq C rfl he ⟨Nat.le_refl _, Nat.le_refl _⟩ rfl ⟨rfl, by first | exact Or.inl rfl | exact Or.inr ⟨_, zNoN_add (zasD_n hn hS) (zasD_n hn hS2) (List.mem_singleton.mp hs1 ▸ zbq1 hc3), rfl⟩ | exact Or.inr ⟨_, zNoN_sub (zasD_n hn hS) (zasD_n hn hS2) (List.mem_singleton.mp hs2 ▸ zbq1 hc3), rfl⟩ | exact Or.inr ⟨_, zNoN_mul (zasD_n hn hS) (zasD_n hn hS2) (List.mem_singleton.mp hs3 ▸ zbq1 hc3), rfl⟩ | exact Or.inr ⟨_, zNoN_div (zasD_n hn hS) (zasD_n hn hS2) hs1 hs2 hs3 (zbq1 hc3), rfl⟩⟩
    · skip
      skip
      refine z_iloadn C rfl rfl ?_
      refine z_dloadn C rfl rfl ?_
      refine z_dload C rfl rfl ?_
      refine z_calls C rfl ⟨by decide, by decide, by decide⟩ (c_noN (zKg_of C) _) rfl rfl (Nat.le_of_ble_eq_true rfl) ⟨Nat.le_of_ble_eq_true rfl, Nat.le_of_ble_eq_true rfl⟩ ?_
      refine z_if C rfl (fun hc3 => ?_) (fun hc3 => ?_)
      · skip
        skip
        refine z_iloadn C rfl rfl ?_
        by_cases hs1 : (o).toInt ∈ ([43] : List Int)
        · skip
          refine z_tsE C _ hs1 rfl (by decide) (off := 31) (by decide +kernel) (tgt := 72) (by decide) ?_
          refine z_aloadn C rfl rfl ?_
          refine z_dloadn C rfl rfl ?_
          refine z_dload C rfl rfl ?_
          refine z_dadd C rfl (zNoN_add (zasD_n hn hS) (zasD_n hn hS2) (List.mem_singleton.mp hs1 ▸ zbq1 hc3)) ?_
          refine z_callv C rfl ⟨by decide, by decide⟩ hS (c_becomeReal (zKg_of C) hS _) rfl rfl (Nat.le_of_ble_eq_true rfl) ⟨Nat.le_of_ble_eq_true rfl, Nat.le_of_ble_eq_true rfl⟩ ?_
          refine z_goto C rfl ?_
          exact z_returnq C rfl he ⟨Nat.le_refl _, Nat.le_refl _⟩ rfl ⟨rfl, by first | exact Or.inl rfl | exact Or.inr ⟨_, zNoN_add (zasD_n hn hS) (zasD_n hn hS2) (List.mem_singleton.mp hs1 ▸ zbq1 hc3), rfl⟩ | exact Or.inr ⟨_, zNoN_sub (zasD_n hn hS) (zasD_n hn hS2) (List.mem_singleton.mp hs2 ▸ zbq1 hc3), rfl⟩ | exact Or.inr ⟨_, zNoN_mul (zasD_n hn hS) (zasD_n hn hS2) (List.mem_singleton.mp hs3 ▸ zbq1 hc3), rfl⟩ | exact Or.inr ⟨_, zNoN_div (zasD_n hn hS) (zasD_n hn hS2) hs1 hs2 hs3 (zbq1 hc3), rfl⟩⟩
        · skip
          by_cases hs2 : (o).toInt ∈ ([45] : List Int)
          · skip
            refine z_tsE C _ hs2 rfl (by decide) (off := 42) (by decide +kernel) (tgt := 83) (by decide) ?_
            refine z_aloadn C rfl rfl ?_
            refine z_dloadn C rfl rfl ?_
            refine z_dload C rfl rfl ?_
            refine z_dsub C rfl (zNoN_sub (zasD_n hn hS) (zasD_n hn hS2) (List.mem_singleton.mp hs2 ▸ zbq1 hc3)) ?_
            refine z_callv C rfl ⟨by decide, by decide⟩ hS (c_becomeReal (zKg_of C) hS _) rfl rfl (Nat.le_of_ble_eq_true rfl) ⟨Nat.le_of_ble_eq_true rfl, Nat.le_of_ble_eq_true rfl⟩ ?_
            refine z_goto C rfl ?_
            exact z_returnq C rfl he ⟨Nat.le_refl _, Nat.le_refl _⟩ rfl ⟨rfl, by first | exact Or.inl rfl | exact Or.inr ⟨_, zNoN_add (zasD_n hn hS) (zasD_n hn hS2) (List.mem_singleton.mp hs1 ▸ zbq1 hc3), rfl⟩ | exact Or.inr ⟨_, zNoN_sub (zasD_n hn hS) (zasD_n hn hS2) (List.mem_singleton.mp hs2 ▸ zbq1 hc3), rfl⟩ | exact Or.inr ⟨_, zNoN_mul (zasD_n hn hS) (zasD_n hn hS2) (List.mem_singleton.mp hs3 ▸ zbq1 hc3), rfl⟩ | exact Or.inr ⟨_, zNoN_div (zasD_n hn hS) (zasD_n hn hS2) hs1 hs2 hs3 (zbq1 hc3), rfl⟩⟩
          · skip
            by_cases hs3 : (o).toInt ∈ ([42] : List Int)
            · skip
              refine z_tsE C _ hs3 rfl (by decide) (off := 53) (by decide +kernel) (tgt := 94) (by decide) ?_
              refine z_aloadn C rfl rfl ?_
              refine z_dloadn C rfl rfl ?_
              refine z_dload C rfl rfl ?_
              refine z_dmul C rfl (zNoN_mul (zasD_n hn hS) (zasD_n hn hS2) (List.mem_singleton.mp hs3 ▸ zbq1 hc3)) ?_
              refine z_callv C rfl ⟨by decide, by decide⟩ hS (c_becomeReal (zKg_of C) hS _) rfl rfl (Nat.le_of_ble_eq_true rfl) ⟨Nat.le_of_ble_eq_true rfl, Nat.le_of_ble_eq_true rfl⟩ ?_
              refine z_goto C rfl ?_
              exact z_returnq C rfl he ⟨Nat.le_refl _, Nat.le_refl _⟩ rfl ⟨rfl, by first | exact Or.inl rfl | exact Or.inr ⟨_, zNoN_add (zasD_n hn hS) (zasD_n hn hS2) (List.mem_singleton.mp hs1 ▸ zbq1 hc3), rfl⟩ | exact Or.inr ⟨_, zNoN_sub (zasD_n hn hS) (zasD_n hn hS2) (List.mem_singleton.mp hs2 ▸ zbq1 hc3), rfl⟩ | exact Or.inr ⟨_, zNoN_mul (zasD_n hn hS) (zasD_n hn hS2) (List.mem_singleton.mp hs3 ▸ zbq1 hc3), rfl⟩ | exact Or.inr ⟨_, zNoN_div (zasD_n hn hS) (zasD_n hn hS2) hs1 hs2 hs3 (zbq1 hc3), rfl⟩⟩
            · skip
              refine z_tsD C _ (znm hs1 (znm hs2 (znm hs3 znm0))) rfl (by decide) (by decide +kernel) (tgt := 105) (by decide) ?_
              refine z_aloadn C rfl rfl ?_
              refine z_dloadn C rfl rfl ?_
              refine z_dload C rfl rfl ?_
              refine z_ddiv C rfl (zNoN_div (zasD_n hn hS) (zasD_n hn hS2) hs1 hs2 hs3 (zbq1 hc3)) ?_
              refine z_callv C rfl ⟨by decide, by decide⟩ hS (c_becomeReal (zKg_of C) hS _) rfl rfl (Nat.le_of_ble_eq_true rfl) ⟨Nat.le_of_ble_eq_true rfl, Nat.le_of_ble_eq_true rfl⟩ ?_
              exact z_returnq C rfl he ⟨Nat.le_refl _, Nat.le_refl _⟩ rfl ⟨rfl, by first | exact Or.inl rfl | exact Or.inr ⟨_, zNoN_add (zasD_n hn hS) (zasD_n hn hS2) (List.mem_singleton.mp hs1 ▸ zbq1 hc3), rfl⟩ | exact Or.inr ⟨_, zNoN_sub (zasD_n hn hS) (zasD_n hn hS2) (List.mem_singleton.mp hs2 ▸ zbq1 hc3), rfl⟩ | exact Or.inr ⟨_, zNoN_mul (zasD_n hn hS) (zasD_n hn hS2) (List.mem_singleton.mp hs3 ▸ zbq1 hc3), rfl⟩ | exact Or.inr ⟨_, zNoN_div (zasD_n hn hS) (zasD_n hn hS2) hs1 hs2 hs3 (zbq1 hc3), rfl⟩⟩
      · skip
        skip
        refine z_aloadn C rfl rfl ?_
        refine z_callv C rfl ⟨by decide, by decide⟩ hS (c_becomeStrange (zKg_of C) hS _) rfl rfl (Nat.le_of_ble_eq_true rfl) ⟨Nat.le_of_ble_eq_true rfl, Nat.le_of_ble_eq_true rfl⟩ ?_
        exact z_returnq C rfl he ⟨Nat.le_refl _, Nat.le_refl _⟩ rfl ⟨rfl, by first | exact Or.inl rfl | exact Or.inr ⟨_, zNoN_add (zasD_n hn hS) (zasD_n hn hS2) (List.mem_singleton.mp hs1 ▸ zbq1 hc3), rfl⟩ | exact Or.inr ⟨_, zNoN_sub (zasD_n hn hS) (zasD_n hn hS2) (List.mem_singleton.mp hs2 ▸ zbq1 hc3), rfl⟩ | exact Or.inr ⟨_, zNoN_mul (zasD_n hn hS) (zasD_n hn hS2) (List.mem_singleton.mp hs3 ▸ zbq1 hc3), rfl⟩ | exact Or.inr ⟨_, zNoN_div (zasD_n hn hS) (zasD_n hn hS2) hs1 hs2 hs3 (zbq1 hc3), rfl⟩⟩

set_option maxHeartbeats 400000 in
set_option maxRecDepth 20000 in
theorem q_apply {κ : zK} (hκ : zKg κ) {o : Int32} {k l : Nat} (hS : zS k = (0, 6, 6)) (hS2 : zS l = (0, 6, 6)) (h : zH) (hw : zWk h) (hn : zNn h) : zRq κ 61 [zi o, zr (some k), zr (some l)] h (fun v h' => (∃ f, v = some (zi f) ∧ f ≠ 9) ∧ (h' = h ∨ h' = zbStrange h k ∨ (∃ z, vf_n64 z ∧ h' = zbReal h k z) ∨ ∃ x, h' = zbWhole h k (h.1 k 0) x)) 0 0 := by
  refine zRq_of hκ (by decide) (by decide +kernel) (Nat.le_of_ble_eq_true rfl) fun ω C hK he => ?_
  refine z_aloadn C rfl rfl ?_
  refine z_geti C rfl hS rfl ?_
  refine z_bipush C rfl ?_
  refine z_icmp C rfl (fun hc1 => ?_) (fun hc1 => ?_)
  · skip
    skip
    refine z_iloadn C rfl rfl ?_
    refine z_aloadn C rfl rfl ?_
    refine z_aloadn C rfl rfl ?_
    refine z_callsq C rfl ⟨by decide, by decide, by decide⟩ (q_atr (zKg_of C) hS hS2 _ hn) rfl rfl (Nat.le_of_ble_eq_true rfl) ⟨Nat.le_of_ble_eq_true rfl, Nat.le_of_ble_eq_true rfl⟩ fun v2 g2 q2 => ?_
    obtain ⟨rfl, hq⟩ := q2
    refine z_iconst C rfl ?_
    exact z_ireturnq C rfl he ⟨Nat.le_refl _, Nat.le_refl _⟩ rfl ⟨⟨_, rfl, by decide⟩, hq.elim (fun e => Or.inr (Or.inl e)) (fun e => Or.inr (Or.inr (Or.inl e)))⟩
  · skip
    skip
    refine z_aloadn C rfl rfl ?_
    refine z_geti C rfl hS2 rfl ?_
    refine z_bipush C rfl ?_
    refine z_icmp C rfl (fun hc3 => ?_) (fun hc3 => ?_)
    · skip
      skip
      refine z_iloadn C rfl rfl ?_
      refine z_bipush C rfl ?_
      refine z_icmp C rfl (fun hc4 => ?_) (fun hc4 => ?_)
      · skip
        skip
        refine z_iloadn C rfl rfl ?_
        refine z_aloadn C rfl rfl ?_
        refine z_getj C rfl hS rfl ?_
        refine z_aloadn C rfl rfl ?_
        refine z_getj C rfl hS2 rfl ?_
        refine z_callsq C rfl ⟨by decide, by decide, by decide⟩ (q_ofW (zKg_of C) _) rfl rfl (Nat.le_of_ble_eq_true rfl) ⟨Nat.le_of_ble_eq_true rfl, Nat.le_of_ble_eq_true rfl⟩ fun v5 g5 q5 => ?_
        obtain ⟨rfl, z, rfl⟩ := q5
        refine z_lstoren C rfl ?_
        refine z_aloadn C rfl rfl ?_
        refine z_geti C rfl hS rfl ?_
        refine z_bipush C rfl ?_
        refine z_icmp C rfl (fun hc6 => ?_) (fun hc6 => ?_)
        · skip
          skip
          refine z_aloadn C rfl rfl ?_
          refine z_aloadn C rfl rfl ?_
          refine z_geti C rfl hS rfl ?_
          refine z_lloadn C rfl rfl ?_
          refine z_callv C rfl ⟨by decide, by decide⟩ hS (c_becomeWhole (zKg_of C) hS ⟨_, rfl, (hw.2.1 k hS).1.1, (hw.2.1 k hS).1.2⟩ _) rfl rfl (Nat.le_of_ble_eq_true rfl) ⟨Nat.le_of_ble_eq_true rfl, Nat.le_of_ble_eq_true rfl⟩ ?_
          refine z_iconst C rfl ?_
          exact z_ireturnq C rfl he ⟨Nat.le_refl _, Nat.le_refl _⟩ rfl ⟨⟨_, rfl, by decide⟩, Or.inr (Or.inr (Or.inr ⟨_, rfl⟩))⟩
        · skip
          skip
          refine z_lloadn C rfl rfl ?_
          refine z_l2i C rfl ?_
          refine z_i2l C rfl ?_
          refine z_lloadn C rfl rfl ?_
          refine z_lcmp C rfl ?_
          refine z_if C rfl (fun hc7 => ?_) (fun hc7 => ?_)
          · skip
            skip
            refine z_aloadn C rfl rfl ?_
            refine z_aloadn C rfl rfl ?_
            refine z_geti C rfl hS rfl ?_
            refine z_lloadn C rfl rfl ?_
            refine z_callv C rfl ⟨by decide, by decide⟩ hS (c_becomeWhole (zKg_of C) hS ⟨_, rfl, (hw.2.1 k hS).1.1, (hw.2.1 k hS).1.2⟩ _) rfl rfl (Nat.le_of_ble_eq_true rfl) ⟨Nat.le_of_ble_eq_true rfl, Nat.le_of_ble_eq_true rfl⟩ ?_
            refine z_iconst C rfl ?_
            exact z_ireturnq C rfl he ⟨Nat.le_refl _, Nat.le_refl _⟩ rfl ⟨⟨_, rfl, by decide⟩, Or.inr (Or.inr (Or.inr ⟨_, rfl⟩))⟩
          · skip
            skip
            refine z_iconst C rfl ?_
            exact z_ireturnq C rfl he ⟨Nat.le_refl _, Nat.le_refl _⟩ rfl ⟨⟨_, rfl, by decide⟩, Or.inl rfl⟩
      · skip
        skip
        refine z_aloadn C rfl rfl ?_
        refine z_getj C rfl hS2 rfl ?_
        refine z_lconst C rfl ?_
        refine z_lcmp C rfl ?_
        refine z_if C rfl (fun hc8 => ?_) (fun hc8 => ?_)
        · skip
          skip
          refine z_iloadn C rfl rfl ?_
          refine z_aloadn C rfl rfl ?_
          refine z_getj C rfl hS rfl ?_
          refine z_aloadn C rfl rfl ?_
          refine z_getj C rfl hS2 rfl ?_
          refine z_callsq C rfl ⟨by decide, by decide, by decide⟩ (q_ofW (zKg_of C) _) rfl rfl (Nat.le_of_ble_eq_true rfl) ⟨Nat.le_of_ble_eq_true rfl, Nat.le_of_ble_eq_true rfl⟩ fun v9 g9 q9 => ?_
          obtain ⟨rfl, z, rfl⟩ := q9
          refine z_lstoren C rfl ?_
          refine z_aloadn C rfl rfl ?_
          refine z_geti C rfl hS rfl ?_
          refine z_bipush C rfl ?_
          refine z_icmp C rfl (fun hc10 => ?_) (fun hc10 => ?_)
          · skip
            skip
            refine z_aloadn C rfl rfl ?_
            refine z_aloadn C rfl rfl ?_
            refine z_geti C rfl hS rfl ?_
            refine z_lloadn C rfl rfl ?_
            refine z_callv C rfl ⟨by decide, by decide⟩ hS (c_becomeWhole (zKg_of C) hS ⟨_, rfl, (hw.2.1 k hS).1.1, (hw.2.1 k hS).1.2⟩ _) rfl rfl (Nat.le_of_ble_eq_true rfl) ⟨Nat.le_of_ble_eq_true rfl, Nat.le_of_ble_eq_true rfl⟩ ?_
            refine z_iconst C rfl ?_
            exact z_ireturnq C rfl he ⟨Nat.le_refl _, Nat.le_refl _⟩ rfl ⟨⟨_, rfl, by decide⟩, Or.inr (Or.inr (Or.inr ⟨_, rfl⟩))⟩
          · skip
            skip
            refine z_lloadn C rfl rfl ?_
            refine z_l2i C rfl ?_
            refine z_i2l C rfl ?_
            refine z_lloadn C rfl rfl ?_
            refine z_lcmp C rfl ?_
            refine z_if C rfl (fun hc11 => ?_) (fun hc11 => ?_)
            · skip
              skip
              refine z_aloadn C rfl rfl ?_
              refine z_aloadn C rfl rfl ?_
              refine z_geti C rfl hS rfl ?_
              refine z_lloadn C rfl rfl ?_
              refine z_callv C rfl ⟨by decide, by decide⟩ hS (c_becomeWhole (zKg_of C) hS ⟨_, rfl, (hw.2.1 k hS).1.1, (hw.2.1 k hS).1.2⟩ _) rfl rfl (Nat.le_of_ble_eq_true rfl) ⟨Nat.le_of_ble_eq_true rfl, Nat.le_of_ble_eq_true rfl⟩ ?_
              refine z_iconst C rfl ?_
              exact z_ireturnq C rfl he ⟨Nat.le_refl _, Nat.le_refl _⟩ rfl ⟨⟨_, rfl, by decide⟩, Or.inr (Or.inr (Or.inr ⟨_, rfl⟩))⟩
            · skip
              skip
              refine z_iconst C rfl ?_
              exact z_ireturnq C rfl he ⟨Nat.le_refl _, Nat.le_refl _⟩ rfl ⟨⟨_, rfl, by decide⟩, Or.inl rfl⟩
        · skip
          skip
          refine z_iconst C rfl ?_
          exact z_ireturnq C rfl he ⟨Nat.le_refl _, Nat.le_refl _⟩ rfl ⟨⟨_, rfl, by decide⟩, Or.inl rfl⟩
    · skip
      skip
      refine z_iloadn C rfl rfl ?_
      refine z_aloadn C rfl rfl ?_
      refine z_aloadn C rfl rfl ?_
      refine z_callsq C rfl ⟨by decide, by decide, by decide⟩ (q_atr (zKg_of C) hS hS2 _ hn) rfl rfl (Nat.le_of_ble_eq_true rfl) ⟨Nat.le_of_ble_eq_true rfl, Nat.le_of_ble_eq_true rfl⟩ fun v12 g12 q12 => ?_
      obtain ⟨rfl, hq⟩ := q12
      refine z_iconst C rfl ?_
      exact z_ireturnq C rfl he ⟨Nat.le_refl _, Nat.le_refl _⟩ rfl ⟨⟨_, rfl, by decide⟩, hq.elim (fun e => Or.inr (Or.inl e)) (fun e => Or.inr (Or.inr (Or.inl e)))⟩

