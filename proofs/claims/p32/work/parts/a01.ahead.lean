/-! which code, and what it needs -/
def zmv (o : Int) : Bool := if o ∈ ([99, 101, 106, 107, 114, 116, 122] : List Int) then true else false
theorem zmv1 {o : Int} (h1 : o ∈ ([99, 101, 106, 107, 114, 116, 122] : List Int)) : zmv o = true := if_pos h1
theorem zmv2 {o : Int} (h1 : o ∉ ([99, 101, 106, 107, 114, 116, 122] : List Int)) : zmv o = false := if_neg h1
set_option maxHeartbeats 400000 in
set_option maxRecDepth 20000 in
theorem c_isMv {κ : zK} (hκ : zKg κ) {o : Int32} (h : zH) : zRet κ 40 [zi o] h (some (zi (zB (zmv o.toInt)))) h 0 0 := by
  refine zRet_of hκ (by decide) (by decide +kernel) (Nat.le_of_ble_eq_true rfl) fun ω C hK he => ?_
  refine z_iloadn C rfl rfl ?_
  by_cases hs1 : (o).toInt ∈ ([99, 101, 106, 107, 114, 116, 122] : List Int)
  · skip
    refine z_tsE C _ hs1 rfl (by decide) (off := 111) (by decide +kernel) (tgt := 112) (by decide) ?_
    refine z_iconst C rfl ?_
    exact z_zreturn C rfl (zER_eq he (by (first | rw [zmv1 hs1] | rw [zmv2 hs1]); all_goals rfl) rfl) ⟨Nat.le_refl _, Nat.le_refl _⟩ rfl rfl
  · skip
    refine z_tsD C _ (znm hs1 znm0) rfl (by decide) (by decide +kernel) (tgt := 114) (by decide) ?_
    refine z_iconst C rfl ?_
    exact z_zreturn C rfl (zER_eq he (by (first | rw [zmv1 hs1] | rw [zmv2 hs1]); all_goals rfl) rfl) ⟨Nat.le_refl _, Nat.le_refl _⟩ rfl rfl

def zpops (h : zH) (o : Int) (n : Int32) : Int32 := if o ∈ ([102, 112, 114, 115, 116, 122] : List Int) then 1 else if o ∈ ([42, 43, 45, 47, 60, 61, 101, 113] : List Int) then 2 else if o ∈ ([99] : List Int) then (if zwithin n (h.1 1 2) = true then h.1 (751 + 3 * n.toNatClampNeg) 1 else 0) else 0
theorem zpops1 {h : zH} {o : Int} {n : Int32} (h1 : o ∈ ([102, 112, 114, 115, 116, 122] : List Int)) : zpops h o n = 1 := if_pos h1
theorem zpops2 {h : zH} {o : Int} {n : Int32} (h1 : o ∉ ([102, 112, 114, 115, 116, 122] : List Int)) (h2 : o ∈ ([42, 43, 45, 47, 60, 61, 101, 113] : List Int)) : zpops h o n = 2 := (if_neg h1).trans (if_pos h2)
theorem zpops3 {h : zH} {o : Int} {n : Int32} (h1 : o ∉ ([102, 112, 114, 115, 116, 122] : List Int)) (h2 : o ∉ ([42, 43, 45, 47, 60, 61, 101, 113] : List Int)) (h3 : o ∈ ([99] : List Int)) : zpops h o n = (if zwithin n (h.1 1 2) = true then h.1 (751 + 3 * n.toNatClampNeg) 1 else 0) := (if_neg h1).trans ((if_neg h2).trans (if_pos h3))
theorem zpops4 {h : zH} {o : Int} {n : Int32} (h1 : o ∉ ([102, 112, 114, 115, 116, 122] : List Int)) (h2 : o ∉ ([42, 43, 45, 47, 60, 61, 101, 113] : List Int)) (h3 : o ∉ ([99] : List Int)) : zpops h o n = 0 := (if_neg h1).trans ((if_neg h2).trans (if_neg h3))
set_option maxHeartbeats 400000 in
set_option maxRecDepth 20000 in
theorem c_pops {κ : zK} (hκ : zKg κ) {o n : Int32} (h : zH) (hw : zWk h) (hfn : zFn h) : zRet κ 44 [zr (some 1), zi o, zi n] h (some (zi (zpops h o.toInt n))) h 0 0 := by
  refine zRet_of hκ (by decide) (by decide +kernel) (Nat.le_of_ble_eq_true rfl) fun ω C hK he => ?_
  refine z_iloadn C rfl rfl ?_
  by_cases hs1 : (o).toInt ∈ ([102, 112, 114, 115, 116, 122] : List Int)
  · skip
    refine z_lsE C _ hs1 rfl (by decide +kernel) (off := 131) (by decide +kernel) (tgt := 132) (by decide) ?_
    refine z_iconst C rfl ?_
    exact z_ireturn C rfl (zER_eq he (by (first | rw [zpops1 hs1] | rw [zpops2 hs1 hs2] | rw [zpops3 hs1 hs2 hs3] | rw [zpops4 hs1 hs2 hs3]); all_goals first | rfl | (rw [if_neg (fun q => by rw [zbq1 hc1] at q; cases q)]; try rfl) | (rw [if_pos (zbq2 hc1), hj]; try rfl)) rfl) ⟨Nat.le_refl _, Nat.le_refl _⟩ rfl
  · skip
    by_cases hs2 : (o).toInt ∈ ([42, 43, 45, 47, 60, 61, 101, 113] : List Int)
    · skip
      refine z_lsE C _ hs2 rfl (by decide +kernel) (off := 133) (by decide +kernel) (tgt := 134) (by decide) ?_
      refine z_iconst C rfl ?_
      exact z_ireturn C rfl (zER_eq he (by (first | rw [zpops1 hs1] | rw [zpops2 hs1 hs2] | rw [zpops3 hs1 hs2 hs3] | rw [zpops4 hs1 hs2 hs3]); all_goals first | rfl | (rw [if_neg (fun q => by rw [zbq1 hc1] at q; cases q)]; try rfl) | (rw [if_pos (zbq2 hc1), hj]; try rfl)) rfl) ⟨Nat.le_refl _, Nat.le_refl _⟩ rfl
    · skip
      by_cases hs3 : (o).toInt ∈ ([99] : List Int)
      · skip
        refine z_lsE C _ hs3 rfl (by decide +kernel) (off := 135) (by decide +kernel) (tgt := 136) (by decide) ?_
        refine z_iloadn C rfl rfl ?_
        refine z_aloadn C rfl rfl ?_
        refine z_geti C rfl zS_1 rfl ?_
        refine z_calls C rfl ⟨by decide, by decide, by decide⟩ (c_isWithin (zKg_of C) _) rfl rfl (Nat.le_of_ble_eq_true rfl) ⟨(Nat.le_of_ble_eq_true rfl), (Nat.le_of_ble_eq_true rfl)⟩ ?_
        refine z_if C rfl (fun hc1 => ?_) (fun hc1 => ?_)
        · skip
          skip
          refine z_iconst C rfl ?_
          exact z_ireturn C rfl (zER_eq he (by (first | rw [zpops1 hs1] | rw [zpops2 hs1 hs2] | rw [zpops3 hs1 hs2 hs3] | rw [zpops4 hs1 hs2 hs3]); all_goals first | rfl | (rw [if_neg (fun q => by rw [zbq1 hc1] at q; cases q)]; try rfl) | (rw [if_pos (zbq2 hc1), hj]; try rfl)) rfl) ⟨Nat.le_refl _, Nat.le_refl _⟩ rfl
        · skip
          skip
          refine z_aloadn C rfl rfl ?_
          obtain ⟨c, hc9, hcn⟩ := hfn.2.1
          have hwn := zbq2 hc1
          rw [hcn] at hwn
          obtain ⟨j, hj9, rfl⟩ := zwi (n := c) (by omega) hwn
          have hj : (nI j).toNatClampNeg = j := nI_clamp (by omega)
          refine z_gets C rfl zS_1 rfl hw.1.1.2.1.2.1 ?_
          refine z_iloadn C rfl rfl ?_
          refine z_aalds C rfl zS_330 (by decide) (by decide) (zin (n := 9) (by omega) (by decide)) (by rw [zclamp (n := 9) (by omega) (by decide)]; exact hw.1.1.2.2.2.2.2.2.1 j (by omega)) ?_
          refine z_geti C rfl (zS_fun j (by omega)) rfl ?_
          refine z_goto C rfl ?_
          exact z_ireturn C rfl (zER_eq he (by (first | rw [zpops1 hs1] | rw [zpops2 hs1 hs2] | rw [zpops3 hs1 hs2 hs3] | rw [zpops4 hs1 hs2 hs3]); all_goals first | rfl | (rw [if_neg (fun q => by rw [zbq1 hc1] at q; cases q)]; try rfl) | (rw [if_pos (zbq2 hc1), hj]; try rfl)) rfl) ⟨Nat.le_refl _, Nat.le_refl _⟩ rfl
      · skip
        refine z_lsD C _ (znm hs1 (znm hs2 (znm hs3 znm0))) rfl (by decide +kernel) (by decide +kernel) (tgt := 161) (by decide) ?_
        refine z_iconst C rfl ?_
        exact z_ireturn C rfl (zER_eq he (by (first | rw [zpops1 hs1] | rw [zpops2 hs1 hs2] | rw [zpops3 hs1 hs2 hs3] | rw [zpops4 hs1 hs2 hs3]); all_goals first | rfl | (rw [if_neg (fun q => by rw [zbq1 hc1] at q; cases q)]; try rfl) | (rw [if_pos (zbq2 hc1), hj]; try rfl)) rfl) ⟨Nat.le_refl _, Nat.le_refl _⟩ rfl

def zNT (h : zH) (t : Nat) (o : Int) (n : Int32) : Bool := if o ∈ ([104] : List Int) then decide (h.1 t 0 = 2) else if o ∈ ([101] : List Int) then !decide (h.1 t 0 = 2) else if o ∈ ([107] : List Int) then (!decide (h.1 t 0 = 2) || !zhasP h t n) else if o ∈ ([106, 122] : List Int) then !zhasP h t n else if o ∈ ([108, 115] : List Int) then !zwithin n (Int32.ofInt (Int.ofNat 4)) else if o ∈ ([103, 112] : List Int) then !zwithin n (Int32.ofInt (Int.ofNat 8)) else if o ∈ ([102, 113] : List Int) then !zwithin n (Int32.ofInt (Int.ofNat 3)) else if o ∈ ([99] : List Int) then !zwithin n (h.1 1 2) else false
theorem zNT1 {h : zH} {t : Nat} {o : Int} {n : Int32} (h1 : o ∈ ([104] : List Int)) : zNT h t o n = decide (h.1 t 0 = 2) := if_pos h1
theorem zNT2 {h : zH} {t : Nat} {o : Int} {n : Int32} (h1 : o ∉ ([104] : List Int)) (h2 : o ∈ ([101] : List Int)) : zNT h t o n = !decide (h.1 t 0 = 2) := (if_neg h1).trans (if_pos h2)
theorem zNT3 {h : zH} {t : Nat} {o : Int} {n : Int32} (h1 : o ∉ ([104] : List Int)) (h2 : o ∉ ([101] : List Int)) (h3 : o ∈ ([107] : List Int)) : zNT h t o n = (!decide (h.1 t 0 = 2) || !zhasP h t n) := (if_neg h1).trans ((if_neg h2).trans (if_pos h3))
theorem zNT4 {h : zH} {t : Nat} {o : Int} {n : Int32} (h1 : o ∉ ([104] : List Int)) (h2 : o ∉ ([101] : List Int)) (h3 : o ∉ ([107] : List Int)) (h4 : o ∈ ([106, 122] : List Int)) : zNT h t o n = !zhasP h t n := (if_neg h1).trans ((if_neg h2).trans ((if_neg h3).trans (if_pos h4)))
theorem zNT5 {h : zH} {t : Nat} {o : Int} {n : Int32} (h1 : o ∉ ([104] : List Int)) (h2 : o ∉ ([101] : List Int)) (h3 : o ∉ ([107] : List Int)) (h4 : o ∉ ([106, 122] : List Int)) (h5 : o ∈ ([108, 115] : List Int)) : zNT h t o n = !zwithin n (Int32.ofInt (Int.ofNat 4)) := (if_neg h1).trans ((if_neg h2).trans ((if_neg h3).trans ((if_neg h4).trans (if_pos h5))))
theorem zNT6 {h : zH} {t : Nat} {o : Int} {n : Int32} (h1 : o ∉ ([104] : List Int)) (h2 : o ∉ ([101] : List Int)) (h3 : o ∉ ([107] : List Int)) (h4 : o ∉ ([106, 122] : List Int)) (h5 : o ∉ ([108, 115] : List Int)) (h6 : o ∈ ([103, 112] : List Int)) : zNT h t o n = !zwithin n (Int32.ofInt (Int.ofNat 8)) := (if_neg h1).trans ((if_neg h2).trans ((if_neg h3).trans ((if_neg h4).trans ((if_neg h5).trans (if_pos h6)))))
theorem zNT7 {h : zH} {t : Nat} {o : Int} {n : Int32} (h1 : o ∉ ([104] : List Int)) (h2 : o ∉ ([101] : List Int)) (h3 : o ∉ ([107] : List Int)) (h4 : o ∉ ([106, 122] : List Int)) (h5 : o ∉ ([108, 115] : List Int)) (h6 : o ∉ ([103, 112] : List Int)) (h7 : o ∈ ([102, 113] : List Int)) : zNT h t o n = !zwithin n (Int32.ofInt (Int.ofNat 3)) := (if_neg h1).trans ((if_neg h2).trans ((if_neg h3).trans ((if_neg h4).trans ((if_neg h5).trans ((if_neg h6).trans (if_pos h7))))))
theorem zNT8 {h : zH} {t : Nat} {o : Int} {n : Int32} (h1 : o ∉ ([104] : List Int)) (h2 : o ∉ ([101] : List Int)) (h3 : o ∉ ([107] : List Int)) (h4 : o ∉ ([106, 122] : List Int)) (h5 : o ∉ ([108, 115] : List Int)) (h6 : o ∉ ([103, 112] : List Int)) (h7 : o ∉ ([102, 113] : List Int)) (h8 : o ∈ ([99] : List Int)) : zNT h t o n = !zwithin n (h.1 1 2) := (if_neg h1).trans ((if_neg h2).trans ((if_neg h3).trans ((if_neg h4).trans ((if_neg h5).trans ((if_neg h6).trans ((if_neg h7).trans (if_pos h8)))))))
theorem zNT9 {h : zH} {t : Nat} {o : Int} {n : Int32} (h1 : o ∉ ([104] : List Int)) (h2 : o ∉ ([101] : List Int)) (h3 : o ∉ ([107] : List Int)) (h4 : o ∉ ([106, 122] : List Int)) (h5 : o ∉ ([108, 115] : List Int)) (h6 : o ∉ ([103, 112] : List Int)) (h7 : o ∉ ([102, 113] : List Int)) (h8 : o ∉ ([99] : List Int)) : zNT h t o n = false := (if_neg h1).trans ((if_neg h2).trans ((if_neg h3).trans ((if_neg h4).trans ((if_neg h5).trans ((if_neg h6).trans ((if_neg h7).trans (if_neg h8)))))))
set_option maxHeartbeats 400000 in
set_option maxRecDepth 20000 in
theorem c_isNT {κ : zK} (hκ : zKg κ) {f : Nat} (hf : f < 10) {o n : Int32} (h : zH) : zRet κ 43 [zr (some 1), zr (some (751 + 3 * f)), zi o, zi n] h (some (zi (zB (zNT h (751 + 3 * f) o.toInt n)))) h 0 0 := by
  refine zRet_of hκ (by decide) (by decide +kernel) (Nat.le_of_ble_eq_true rfl) fun ω C hK he => ?_
  have k13 : ∀ v : Int32, v = zB (decide (h.1 (751 + 3 * f) 0 = 2)) → ZG ω 43 13 [(0, zr (some 1)), (1, zr (some (751 + 3 * f))), (2, zi o), (3, zi n)] [zi v] h 0 0 := by
    intro v hv
    subst hv
    refine z_istore C rfl ?_
    refine z_iloadn C rfl rfl ?_
    by_cases hs1 : (o).toInt ∈ ([104] : List Int)
    · skip
      refine z_tsE C _ hs1 rfl (by decide) (off := 112) (by decide +kernel) (tgt := 128) (by decide) ?_
      refine z_iload C rfl rfl ?_
      exact z_zreturn C rfl (zER_eq he (by (first | rw [zNT1 hs1] | rw [zNT2 hs1 hs2] | rw [zNT3 hs1 hs2 hs3] | rw [zNT4 hs1 hs2 hs3 hs4] | rw [zNT5 hs1 hs2 hs3 hs4 hs5] | rw [zNT6 hs1 hs2 hs3 hs4 hs5 hs6] | rw [zNT7 hs1 hs2 hs3 hs4 hs5 hs6 hs7] | rw [zNT8 hs1 hs2 hs3 hs4 hs5 hs6 hs7 hs8] | rw [zNT9 hs1 hs2 hs3 hs4 hs5 hs6 hs7 hs8]); all_goals ((try rw [zbq1 hc1]); (try rw [zbq2 hc1]); (try rw [zbq3 hc1]); (try rw [zbq4 hc1]); (try rw [zbq1 hc2]); (try rw [zbq2 hc2]); (try rw [zbq3 hc2]); (try rw [zbq4 hc2]); (try rw [zbq1 hc3]); (try rw [zbq2 hc3]); (try rw [zbq3 hc3]); (try rw [zbq4 hc3]); (try rw [zbq1 hc4]); (try rw [zbq2 hc4]); (try rw [zbq3 hc4]); (try rw [zbq4 hc4]); (try rw [zbq1 hc5]); (try rw [zbq2 hc5]); (try rw [zbq3 hc5]); (try rw [zbq4 hc5]); (try rw [zbq1 hc6]); (try rw [zbq2 hc6]); (try rw [zbq3 hc6]); (try rw [zbq4 hc6]); (try rw [zbq1 hc7]); (try rw [zbq2 hc7]); (try rw [zbq3 hc7]); (try rw [zbq4 hc7]); (try rw [zbq1 hc8]); (try rw [zbq2 hc8]); (try rw [zbq3 hc8]); (try rw [zbq4 hc8]); (try rw [zbq1 hc9]); (try rw [zbq2 hc9]); (try rw [zbq3 hc9]); (try rw [zbq4 hc9]); (try rw [zbq1 hc10]); (try rw [zbq2 hc10]); (try rw [zbq3 hc10]); (try rw [zbq4 hc10]); (try rw [zbq1 hc11]); (try rw [zbq2 hc11]); (try rw [zbq3 hc11]); (try rw [zbq4 hc11]); (try rw [zbq1 hc12]); (try rw [zbq2 hc12]); (try rw [zbq3 hc12]); (try rw [zbq4 hc12]); (try rw [zbq1 hc13]); (try rw [zbq2 hc13]); (try rw [zbq3 hc13]); (try rw [zbq4 hc13]); first | rfl | (simp only [Bool.false_or, Bool.true_or, Bool.or_true, Bool.or_false, Bool.not_true, Bool.not_false]; rfl))) rfl) ⟨Nat.le_refl _, Nat.le_refl _⟩ rfl (by first | rfl | exact znB)
    · skip
      by_cases hs2 : (o).toInt ∈ ([101] : List Int)
      · skip
        refine z_tsE C _ hs2 rfl (by decide) (off := 115) (by decide +kernel) (tgt := 131) (by decide) ?_
        refine z_iload C rfl rfl ?_
        refine z_if C rfl (fun hc1 => ?_) (fun hc1 => ?_)
        · skip
          skip
          refine z_iconst C rfl ?_
          exact z_zreturn C rfl (zER_eq he (by (first | rw [zNT1 hs1] | rw [zNT2 hs1 hs2] | rw [zNT3 hs1 hs2 hs3] | rw [zNT4 hs1 hs2 hs3 hs4] | rw [zNT5 hs1 hs2 hs3 hs4 hs5] | rw [zNT6 hs1 hs2 hs3 hs4 hs5 hs6] | rw [zNT7 hs1 hs2 hs3 hs4 hs5 hs6 hs7] | rw [zNT8 hs1 hs2 hs3 hs4 hs5 hs6 hs7 hs8] | rw [zNT9 hs1 hs2 hs3 hs4 hs5 hs6 hs7 hs8]); all_goals ((try rw [zbq1 hc1]); (try rw [zbq2 hc1]); (try rw [zbq3 hc1]); (try rw [zbq4 hc1]); (try rw [zbq1 hc2]); (try rw [zbq2 hc2]); (try rw [zbq3 hc2]); (try rw [zbq4 hc2]); (try rw [zbq1 hc3]); (try rw [zbq2 hc3]); (try rw [zbq3 hc3]); (try rw [zbq4 hc3]); (try rw [zbq1 hc4]); (try rw [zbq2 hc4]); (try rw [zbq3 hc4]); (try rw [zbq4 hc4]); (try rw [zbq1 hc5]); (try rw [zbq2 hc5]); (try rw [zbq3 hc5]); (try rw [zbq4 hc5]); (try rw [zbq1 hc6]); (try rw [zbq2 hc6]); (try rw [zbq3 hc6]); (try rw [zbq4 hc6]); (try rw [zbq1 hc7]); (try rw [zbq2 hc7]); (try rw [zbq3 hc7]); (try rw [zbq4 hc7]); (try rw [zbq1 hc8]); (try rw [zbq2 hc8]); (try rw [zbq3 hc8]); (try rw [zbq4 hc8]); (try rw [zbq1 hc9]); (try rw [zbq2 hc9]); (try rw [zbq3 hc9]); (try rw [zbq4 hc9]); (try rw [zbq1 hc10]); (try rw [zbq2 hc10]); (try rw [zbq3 hc10]); (try rw [zbq4 hc10]); (try rw [zbq1 hc11]); (try rw [zbq2 hc11]); (try rw [zbq3 hc11]); (try rw [zbq4 hc11]); (try rw [zbq1 hc12]); (try rw [zbq2 hc12]); (try rw [zbq3 hc12]); (try rw [zbq4 hc12]); (try rw [zbq1 hc13]); (try rw [zbq2 hc13]); (try rw [zbq3 hc13]); (try rw [zbq4 hc13]); first | rfl | (simp only [Bool.false_or, Bool.true_or, Bool.or_true, Bool.or_false, Bool.not_true, Bool.not_false]; rfl))) rfl) ⟨Nat.le_refl _, Nat.le_refl _⟩ rfl (by first | rfl | exact znB)
        · skip
          skip
          refine z_iconst C rfl ?_
          refine z_goto C rfl ?_
          exact z_zreturn C rfl (zER_eq he (by (first | rw [zNT1 hs1] | rw [zNT2 hs1 hs2] | rw [zNT3 hs1 hs2 hs3] | rw [zNT4 hs1 hs2 hs3 hs4] | rw [zNT5 hs1 hs2 hs3 hs4 hs5] | rw [zNT6 hs1 hs2 hs3 hs4 hs5 hs6] | rw [zNT7 hs1 hs2 hs3 hs4 hs5 hs6 hs7] | rw [zNT8 hs1 hs2 hs3 hs4 hs5 hs6 hs7 hs8] | rw [zNT9 hs1 hs2 hs3 hs4 hs5 hs6 hs7 hs8]); all_goals ((try rw [zbq1 hc1]); (try rw [zbq2 hc1]); (try rw [zbq3 hc1]); (try rw [zbq4 hc1]); (try rw [zbq1 hc2]); (try rw [zbq2 hc2]); (try rw [zbq3 hc2]); (try rw [zbq4 hc2]); (try rw [zbq1 hc3]); (try rw [zbq2 hc3]); (try rw [zbq3 hc3]); (try rw [zbq4 hc3]); (try rw [zbq1 hc4]); (try rw [zbq2 hc4]); (try rw [zbq3 hc4]); (try rw [zbq4 hc4]); (try rw [zbq1 hc5]); (try rw [zbq2 hc5]); (try rw [zbq3 hc5]); (try rw [zbq4 hc5]); (try rw [zbq1 hc6]); (try rw [zbq2 hc6]); (try rw [zbq3 hc6]); (try rw [zbq4 hc6]); (try rw [zbq1 hc7]); (try rw [zbq2 hc7]); (try rw [zbq3 hc7]); (try rw [zbq4 hc7]); (try rw [zbq1 hc8]); (try rw [zbq2 hc8]); (try rw [zbq3 hc8]); (try rw [zbq4 hc8]); (try rw [zbq1 hc9]); (try rw [zbq2 hc9]); (try rw [zbq3 hc9]); (try rw [zbq4 hc9]); (try rw [zbq1 hc10]); (try rw [zbq2 hc10]); (try rw [zbq3 hc10]); (try rw [zbq4 hc10]); (try rw [zbq1 hc11]); (try rw [zbq2 hc11]); (try rw [zbq3 hc11]); (try rw [zbq4 hc11]); (try rw [zbq1 hc12]); (try rw [zbq2 hc12]); (try rw [zbq3 hc12]); (try rw [zbq4 hc12]); (try rw [zbq1 hc13]); (try rw [zbq2 hc13]); (try rw [zbq3 hc13]); (try rw [zbq4 hc13]); first | rfl | (simp only [Bool.false_or, Bool.true_or, Bool.or_true, Bool.or_false, Bool.not_true, Bool.not_false]; rfl))) rfl) ⟨Nat.le_refl _, Nat.le_refl _⟩ rfl (by first | rfl | exact znB)
      · skip
        by_cases hs3 : (o).toInt ∈ ([107] : List Int)
        · skip
          refine z_tsE C _ hs3 rfl (by decide) (off := 126) (by decide +kernel) (tgt := 142) (by decide) ?_
          refine z_iload C rfl rfl ?_
          refine z_if C rfl (fun hc2 => ?_) (fun hc2 => ?_)
          · skip
            skip
            refine z_iconst C rfl ?_
            refine z_goto C rfl ?_
            exact z_zreturn C rfl (zER_eq he (by (first | rw [zNT1 hs1] | rw [zNT2 hs1 hs2] | rw [zNT3 hs1 hs2 hs3] | rw [zNT4 hs1 hs2 hs3 hs4] | rw [zNT5 hs1 hs2 hs3 hs4 hs5] | rw [zNT6 hs1 hs2 hs3 hs4 hs5 hs6] | rw [zNT7 hs1 hs2 hs3 hs4 hs5 hs6 hs7] | rw [zNT8 hs1 hs2 hs3 hs4 hs5 hs6 hs7 hs8] | rw [zNT9 hs1 hs2 hs3 hs4 hs5 hs6 hs7 hs8]); all_goals ((try rw [zbq1 hc1]); (try rw [zbq2 hc1]); (try rw [zbq3 hc1]); (try rw [zbq4 hc1]); (try rw [zbq1 hc2]); (try rw [zbq2 hc2]); (try rw [zbq3 hc2]); (try rw [zbq4 hc2]); (try rw [zbq1 hc3]); (try rw [zbq2 hc3]); (try rw [zbq3 hc3]); (try rw [zbq4 hc3]); (try rw [zbq1 hc4]); (try rw [zbq2 hc4]); (try rw [zbq3 hc4]); (try rw [zbq4 hc4]); (try rw [zbq1 hc5]); (try rw [zbq2 hc5]); (try rw [zbq3 hc5]); (try rw [zbq4 hc5]); (try rw [zbq1 hc6]); (try rw [zbq2 hc6]); (try rw [zbq3 hc6]); (try rw [zbq4 hc6]); (try rw [zbq1 hc7]); (try rw [zbq2 hc7]); (try rw [zbq3 hc7]); (try rw [zbq4 hc7]); (try rw [zbq1 hc8]); (try rw [zbq2 hc8]); (try rw [zbq3 hc8]); (try rw [zbq4 hc8]); (try rw [zbq1 hc9]); (try rw [zbq2 hc9]); (try rw [zbq3 hc9]); (try rw [zbq4 hc9]); (try rw [zbq1 hc10]); (try rw [zbq2 hc10]); (try rw [zbq3 hc10]); (try rw [zbq4 hc10]); (try rw [zbq1 hc11]); (try rw [zbq2 hc11]); (try rw [zbq3 hc11]); (try rw [zbq4 hc11]); (try rw [zbq1 hc12]); (try rw [zbq2 hc12]); (try rw [zbq3 hc12]); (try rw [zbq4 hc12]); (try rw [zbq1 hc13]); (try rw [zbq2 hc13]); (try rw [zbq3 hc13]); (try rw [zbq4 hc13]); first | rfl | (simp only [Bool.false_or, Bool.true_or, Bool.or_true, Bool.or_false, Bool.not_true, Bool.not_false]; rfl))) rfl) ⟨Nat.le_refl _, Nat.le_refl _⟩ rfl (by first | rfl | exact znB)
          · skip
            skip
            refine z_aloadn C rfl rfl ?_
            refine z_iloadn C rfl rfl ?_
            refine z_callv C rfl ⟨by decide, by decide⟩ (zS_fun f hf) (c_hasPlace (zKg_of C) hf _) rfl rfl (Nat.le_of_ble_eq_true rfl) ⟨(Nat.le_of_ble_eq_true rfl), (Nat.le_of_ble_eq_true rfl)⟩ ?_
            refine z_if C rfl (fun hc3 => ?_) (fun hc3 => ?_)
            · skip
              skip
              refine z_iconst C rfl ?_
              exact z_zreturn C rfl (zER_eq he (by (first | rw [zNT1 hs1] | rw [zNT2 hs1 hs2] | rw [zNT3 hs1 hs2 hs3] | rw [zNT4 hs1 hs2 hs3 hs4] | rw [zNT5 hs1 hs2 hs3 hs4 hs5] | rw [zNT6 hs1 hs2 hs3 hs4 hs5 hs6] | rw [zNT7 hs1 hs2 hs3 hs4 hs5 hs6 hs7] | rw [zNT8 hs1 hs2 hs3 hs4 hs5 hs6 hs7 hs8] | rw [zNT9 hs1 hs2 hs3 hs4 hs5 hs6 hs7 hs8]); all_goals ((try rw [zbq1 hc1]); (try rw [zbq2 hc1]); (try rw [zbq3 hc1]); (try rw [zbq4 hc1]); (try rw [zbq1 hc2]); (try rw [zbq2 hc2]); (try rw [zbq3 hc2]); (try rw [zbq4 hc2]); (try rw [zbq1 hc3]); (try rw [zbq2 hc3]); (try rw [zbq3 hc3]); (try rw [zbq4 hc3]); (try rw [zbq1 hc4]); (try rw [zbq2 hc4]); (try rw [zbq3 hc4]); (try rw [zbq4 hc4]); (try rw [zbq1 hc5]); (try rw [zbq2 hc5]); (try rw [zbq3 hc5]); (try rw [zbq4 hc5]); (try rw [zbq1 hc6]); (try rw [zbq2 hc6]); (try rw [zbq3 hc6]); (try rw [zbq4 hc6]); (try rw [zbq1 hc7]); (try rw [zbq2 hc7]); (try rw [zbq3 hc7]); (try rw [zbq4 hc7]); (try rw [zbq1 hc8]); (try rw [zbq2 hc8]); (try rw [zbq3 hc8]); (try rw [zbq4 hc8]); (try rw [zbq1 hc9]); (try rw [zbq2 hc9]); (try rw [zbq3 hc9]); (try rw [zbq4 hc9]); (try rw [zbq1 hc10]); (try rw [zbq2 hc10]); (try rw [zbq3 hc10]); (try rw [zbq4 hc10]); (try rw [zbq1 hc11]); (try rw [zbq2 hc11]); (try rw [zbq3 hc11]); (try rw [zbq4 hc11]); (try rw [zbq1 hc12]); (try rw [zbq2 hc12]); (try rw [zbq3 hc12]); (try rw [zbq4 hc12]); (try rw [zbq1 hc13]); (try rw [zbq2 hc13]); (try rw [zbq3 hc13]); (try rw [zbq4 hc13]); first | rfl | (simp only [Bool.false_or, Bool.true_or, Bool.or_true, Bool.or_false, Bool.not_true, Bool.not_false]; rfl))) rfl) ⟨Nat.le_refl _, Nat.le_refl _⟩ rfl (by first | rfl | exact znB)
            · skip
              skip
              refine z_iconst C rfl ?_
              refine z_goto C rfl ?_
              exact z_zreturn C rfl (zER_eq he (by (first | rw [zNT1 hs1] | rw [zNT2 hs1 hs2] | rw [zNT3 hs1 hs2 hs3] | rw [zNT4 hs1 hs2 hs3 hs4] | rw [zNT5 hs1 hs2 hs3 hs4 hs5] | rw [zNT6 hs1 hs2 hs3 hs4 hs5 hs6] | rw [zNT7 hs1 hs2 hs3 hs4 hs5 hs6 hs7] | rw [zNT8 hs1 hs2 hs3 hs4 hs5 hs6 hs7 hs8] | rw [zNT9 hs1 hs2 hs3 hs4 hs5 hs6 hs7 hs8]); all_goals ((try rw [zbq1 hc1]); (try rw [zbq2 hc1]); (try rw [zbq3 hc1]); (try rw [zbq4 hc1]); (try rw [zbq1 hc2]); (try rw [zbq2 hc2]); (try rw [zbq3 hc2]); (try rw [zbq4 hc2]); (try rw [zbq1 hc3]); (try rw [zbq2 hc3]); (try rw [zbq3 hc3]); (try rw [zbq4 hc3]); (try rw [zbq1 hc4]); (try rw [zbq2 hc4]); (try rw [zbq3 hc4]); (try rw [zbq4 hc4]); (try rw [zbq1 hc5]); (try rw [zbq2 hc5]); (try rw [zbq3 hc5]); (try rw [zbq4 hc5]); (try rw [zbq1 hc6]); (try rw [zbq2 hc6]); (try rw [zbq3 hc6]); (try rw [zbq4 hc6]); (try rw [zbq1 hc7]); (try rw [zbq2 hc7]); (try rw [zbq3 hc7]); (try rw [zbq4 hc7]); (try rw [zbq1 hc8]); (try rw [zbq2 hc8]); (try rw [zbq3 hc8]); (try rw [zbq4 hc8]); (try rw [zbq1 hc9]); (try rw [zbq2 hc9]); (try rw [zbq3 hc9]); (try rw [zbq4 hc9]); (try rw [zbq1 hc10]); (try rw [zbq2 hc10]); (try rw [zbq3 hc10]); (try rw [zbq4 hc10]); (try rw [zbq1 hc11]); (try rw [zbq2 hc11]); (try rw [zbq3 hc11]); (try rw [zbq4 hc11]); (try rw [zbq1 hc12]); (try rw [zbq2 hc12]); (try rw [zbq3 hc12]); (try rw [zbq4 hc12]); (try rw [zbq1 hc13]); (try rw [zbq2 hc13]); (try rw [zbq3 hc13]); (try rw [zbq4 hc13]); first | rfl | (simp only [Bool.false_or, Bool.true_or, Bool.or_true, Bool.or_false, Bool.not_true, Bool.not_false]; rfl))) rfl) ⟨Nat.le_refl _, Nat.le_refl _⟩ rfl (by first | rfl | exact znB)
        · skip
          by_cases hs4 : (o).toInt ∈ ([106, 122] : List Int)
          · skip
            refine z_tsE C _ hs4 rfl (by decide) (off := 145) (by decide +kernel) (tgt := 161) (by decide) ?_
            refine z_aloadn C rfl rfl ?_
            refine z_iloadn C rfl rfl ?_
            refine z_callv C rfl ⟨by decide, by decide⟩ (zS_fun f hf) (c_hasPlace (zKg_of C) hf _) rfl rfl (Nat.le_of_ble_eq_true rfl) ⟨(Nat.le_of_ble_eq_true rfl), (Nat.le_of_ble_eq_true rfl)⟩ ?_
            refine z_if C rfl (fun hc4 => ?_) (fun hc4 => ?_)
            · skip
              skip
              refine z_iconst C rfl ?_
              exact z_zreturn C rfl (zER_eq he (by (first | rw [zNT1 hs1] | rw [zNT2 hs1 hs2] | rw [zNT3 hs1 hs2 hs3] | rw [zNT4 hs1 hs2 hs3 hs4] | rw [zNT5 hs1 hs2 hs3 hs4 hs5] | rw [zNT6 hs1 hs2 hs3 hs4 hs5 hs6] | rw [zNT7 hs1 hs2 hs3 hs4 hs5 hs6 hs7] | rw [zNT8 hs1 hs2 hs3 hs4 hs5 hs6 hs7 hs8] | rw [zNT9 hs1 hs2 hs3 hs4 hs5 hs6 hs7 hs8]); all_goals ((try rw [zbq1 hc1]); (try rw [zbq2 hc1]); (try rw [zbq3 hc1]); (try rw [zbq4 hc1]); (try rw [zbq1 hc2]); (try rw [zbq2 hc2]); (try rw [zbq3 hc2]); (try rw [zbq4 hc2]); (try rw [zbq1 hc3]); (try rw [zbq2 hc3]); (try rw [zbq3 hc3]); (try rw [zbq4 hc3]); (try rw [zbq1 hc4]); (try rw [zbq2 hc4]); (try rw [zbq3 hc4]); (try rw [zbq4 hc4]); (try rw [zbq1 hc5]); (try rw [zbq2 hc5]); (try rw [zbq3 hc5]); (try rw [zbq4 hc5]); (try rw [zbq1 hc6]); (try rw [zbq2 hc6]); (try rw [zbq3 hc6]); (try rw [zbq4 hc6]); (try rw [zbq1 hc7]); (try rw [zbq2 hc7]); (try rw [zbq3 hc7]); (try rw [zbq4 hc7]); (try rw [zbq1 hc8]); (try rw [zbq2 hc8]); (try rw [zbq3 hc8]); (try rw [zbq4 hc8]); (try rw [zbq1 hc9]); (try rw [zbq2 hc9]); (try rw [zbq3 hc9]); (try rw [zbq4 hc9]); (try rw [zbq1 hc10]); (try rw [zbq2 hc10]); (try rw [zbq3 hc10]); (try rw [zbq4 hc10]); (try rw [zbq1 hc11]); (try rw [zbq2 hc11]); (try rw [zbq3 hc11]); (try rw [zbq4 hc11]); (try rw [zbq1 hc12]); (try rw [zbq2 hc12]); (try rw [zbq3 hc12]); (try rw [zbq4 hc12]); (try rw [zbq1 hc13]); (try rw [zbq2 hc13]); (try rw [zbq3 hc13]); (try rw [zbq4 hc13]); first | rfl | (simp only [Bool.false_or, Bool.true_or, Bool.or_true, Bool.or_false, Bool.not_true, Bool.not_false]; rfl))) rfl) ⟨Nat.le_refl _, Nat.le_refl _⟩ rfl (by first | rfl | exact znB)
            · skip
              skip
              refine z_iconst C rfl ?_
              refine z_goto C rfl ?_
              exact z_zreturn C rfl (zER_eq he (by (first | rw [zNT1 hs1] | rw [zNT2 hs1 hs2] | rw [zNT3 hs1 hs2 hs3] | rw [zNT4 hs1 hs2 hs3 hs4] | rw [zNT5 hs1 hs2 hs3 hs4 hs5] | rw [zNT6 hs1 hs2 hs3 hs4 hs5 hs6] | rw [zNT7 hs1 hs2 hs3 hs4 hs5 hs6 hs7] | rw [zNT8 hs1 hs2 hs3 hs4 hs5 hs6 hs7 hs8] | rw [zNT9 hs1 hs2 hs3 hs4 hs5 hs6 hs7 hs8]); all_goals ((try rw [zbq1 hc1]); (try rw [zbq2 hc1]); (try rw [zbq3 hc1]); (try rw [zbq4 hc1]); (try rw [zbq1 hc2]); (try rw [zbq2 hc2]); (try rw [zbq3 hc2]); (try rw [zbq4 hc2]); (try rw [zbq1 hc3]); (try rw [zbq2 hc3]); (try rw [zbq3 hc3]); (try rw [zbq4 hc3]); (try rw [zbq1 hc4]); (try rw [zbq2 hc4]); (try rw [zbq3 hc4]); (try rw [zbq4 hc4]); (try rw [zbq1 hc5]); (try rw [zbq2 hc5]); (try rw [zbq3 hc5]); (try rw [zbq4 hc5]); (try rw [zbq1 hc6]); (try rw [zbq2 hc6]); (try rw [zbq3 hc6]); (try rw [zbq4 hc6]); (try rw [zbq1 hc7]); (try rw [zbq2 hc7]); (try rw [zbq3 hc7]); (try rw [zbq4 hc7]); (try rw [zbq1 hc8]); (try rw [zbq2 hc8]); (try rw [zbq3 hc8]); (try rw [zbq4 hc8]); (try rw [zbq1 hc9]); (try rw [zbq2 hc9]); (try rw [zbq3 hc9]); (try rw [zbq4 hc9]); (try rw [zbq1 hc10]); (try rw [zbq2 hc10]); (try rw [zbq3 hc10]); (try rw [zbq4 hc10]); (try rw [zbq1 hc11]); (try rw [zbq2 hc11]); (try rw [zbq3 hc11]); (try rw [zbq4 hc11]); (try rw [zbq1 hc12]); (try rw [zbq2 hc12]); (try rw [zbq3 hc12]); (try rw [zbq4 hc12]); (try rw [zbq1 hc13]); (try rw [zbq2 hc13]); (try rw [zbq3 hc13]); (try rw [zbq4 hc13]); first | rfl | (simp only [Bool.false_or, Bool.true_or, Bool.or_true, Bool.or_false, Bool.not_true, Bool.not_false]; rfl))) rfl) ⟨Nat.le_refl _, Nat.le_refl _⟩ rfl (by first | rfl | exact znB)
          · skip
            by_cases hs5 : (o).toInt ∈ ([108, 115] : List Int)
            · skip
              refine z_tsE C _ hs5 rfl (by decide) (off := 159) (by decide +kernel) (tgt := 175) (by decide) ?_
              refine z_iloadn C rfl rfl ?_
              refine z_iconst C rfl ?_
              refine z_calls C rfl ⟨by decide, by decide, by decide⟩ (c_isWithin (zKg_of C) _) rfl rfl (Nat.le_of_ble_eq_true rfl) ⟨(Nat.le_of_ble_eq_true rfl), (Nat.le_of_ble_eq_true rfl)⟩ ?_
              refine z_if C rfl (fun hc5 => ?_) (fun hc5 => ?_)
              · skip
                skip
                refine z_iconst C rfl ?_
                exact z_zreturn C rfl (zER_eq he (by (first | rw [zNT1 hs1] | rw [zNT2 hs1 hs2] | rw [zNT3 hs1 hs2 hs3] | rw [zNT4 hs1 hs2 hs3 hs4] | rw [zNT5 hs1 hs2 hs3 hs4 hs5] | rw [zNT6 hs1 hs2 hs3 hs4 hs5 hs6] | rw [zNT7 hs1 hs2 hs3 hs4 hs5 hs6 hs7] | rw [zNT8 hs1 hs2 hs3 hs4 hs5 hs6 hs7 hs8] | rw [zNT9 hs1 hs2 hs3 hs4 hs5 hs6 hs7 hs8]); all_goals ((try rw [zbq1 hc1]); (try rw [zbq2 hc1]); (try rw [zbq3 hc1]); (try rw [zbq4 hc1]); (try rw [zbq1 hc2]); (try rw [zbq2 hc2]); (try rw [zbq3 hc2]); (try rw [zbq4 hc2]); (try rw [zbq1 hc3]); (try rw [zbq2 hc3]); (try rw [zbq3 hc3]); (try rw [zbq4 hc3]); (try rw [zbq1 hc4]); (try rw [zbq2 hc4]); (try rw [zbq3 hc4]); (try rw [zbq4 hc4]); (try rw [zbq1 hc5]); (try rw [zbq2 hc5]); (try rw [zbq3 hc5]); (try rw [zbq4 hc5]); (try rw [zbq1 hc6]); (try rw [zbq2 hc6]); (try rw [zbq3 hc6]); (try rw [zbq4 hc6]); (try rw [zbq1 hc7]); (try rw [zbq2 hc7]); (try rw [zbq3 hc7]); (try rw [zbq4 hc7]); (try rw [zbq1 hc8]); (try rw [zbq2 hc8]); (try rw [zbq3 hc8]); (try rw [zbq4 hc8]); (try rw [zbq1 hc9]); (try rw [zbq2 hc9]); (try rw [zbq3 hc9]); (try rw [zbq4 hc9]); (try rw [zbq1 hc10]); (try rw [zbq2 hc10]); (try rw [zbq3 hc10]); (try rw [zbq4 hc10]); (try rw [zbq1 hc11]); (try rw [zbq2 hc11]); (try rw [zbq3 hc11]); (try rw [zbq4 hc11]); (try rw [zbq1 hc12]); (try rw [zbq2 hc12]); (try rw [zbq3 hc12]); (try rw [zbq4 hc12]); (try rw [zbq1 hc13]); (try rw [zbq2 hc13]); (try rw [zbq3 hc13]); (try rw [zbq4 hc13]); first | rfl | (simp only [Bool.false_or, Bool.true_or, Bool.or_true, Bool.or_false, Bool.not_true, Bool.not_false]; rfl))) rfl) ⟨Nat.le_refl _, Nat.le_refl _⟩ rfl (by first | rfl | exact znB)
              · skip
                skip
                refine z_iconst C rfl ?_
                refine z_goto C rfl ?_
                exact z_zreturn C rfl (zER_eq he (by (first | rw [zNT1 hs1] | rw [zNT2 hs1 hs2] | rw [zNT3 hs1 hs2 hs3] | rw [zNT4 hs1 hs2 hs3 hs4] | rw [zNT5 hs1 hs2 hs3 hs4 hs5] | rw [zNT6 hs1 hs2 hs3 hs4 hs5 hs6] | rw [zNT7 hs1 hs2 hs3 hs4 hs5 hs6 hs7] | rw [zNT8 hs1 hs2 hs3 hs4 hs5 hs6 hs7 hs8] | rw [zNT9 hs1 hs2 hs3 hs4 hs5 hs6 hs7 hs8]); all_goals ((try rw [zbq1 hc1]); (try rw [zbq2 hc1]); (try rw [zbq3 hc1]); (try rw [zbq4 hc1]); (try rw [zbq1 hc2]); (try rw [zbq2 hc2]); (try rw [zbq3 hc2]); (try rw [zbq4 hc2]); (try rw [zbq1 hc3]); (try rw [zbq2 hc3]); (try rw [zbq3 hc3]); (try rw [zbq4 hc3]); (try rw [zbq1 hc4]); (try rw [zbq2 hc4]); (try rw [zbq3 hc4]); (try rw [zbq4 hc4]); (try rw [zbq1 hc5]); (try rw [zbq2 hc5]); (try rw [zbq3 hc5]); (try rw [zbq4 hc5]); (try rw [zbq1 hc6]); (try rw [zbq2 hc6]); (try rw [zbq3 hc6]); (try rw [zbq4 hc6]); (try rw [zbq1 hc7]); (try rw [zbq2 hc7]); (try rw [zbq3 hc7]); (try rw [zbq4 hc7]); (try rw [zbq1 hc8]); (try rw [zbq2 hc8]); (try rw [zbq3 hc8]); (try rw [zbq4 hc8]); (try rw [zbq1 hc9]); (try rw [zbq2 hc9]); (try rw [zbq3 hc9]); (try rw [zbq4 hc9]); (try rw [zbq1 hc10]); (try rw [zbq2 hc10]); (try rw [zbq3 hc10]); (try rw [zbq4 hc10]); (try rw [zbq1 hc11]); (try rw [zbq2 hc11]); (try rw [zbq3 hc11]); (try rw [zbq4 hc11]); (try rw [zbq1 hc12]); (try rw [zbq2 hc12]); (try rw [zbq3 hc12]); (try rw [zbq4 hc12]); (try rw [zbq1 hc13]); (try rw [zbq2 hc13]); (try rw [zbq3 hc13]); (try rw [zbq4 hc13]); first | rfl | (simp only [Bool.false_or, Bool.true_or, Bool.or_true, Bool.or_false, Bool.not_true, Bool.not_false]; rfl))) rfl) ⟨Nat.le_refl _, Nat.le_refl _⟩ rfl (by first | rfl | exact znB)
            · skip
              by_cases hs6 : (o).toInt ∈ ([103, 112] : List Int)
              · skip
                refine z_tsE C _ hs6 rfl (by decide) (off := 173) (by decide +kernel) (tgt := 189) (by decide) ?_
                refine z_iloadn C rfl rfl ?_
                refine z_bipush C rfl ?_
                refine z_calls C rfl ⟨by decide, by decide, by decide⟩ (c_isWithin (zKg_of C) _) rfl rfl (Nat.le_of_ble_eq_true rfl) ⟨(Nat.le_of_ble_eq_true rfl), (Nat.le_of_ble_eq_true rfl)⟩ ?_
                refine z_if C rfl (fun hc6 => ?_) (fun hc6 => ?_)
                · skip
                  skip
                  refine z_iconst C rfl ?_
                  exact z_zreturn C rfl (zER_eq he (by (first | rw [zNT1 hs1] | rw [zNT2 hs1 hs2] | rw [zNT3 hs1 hs2 hs3] | rw [zNT4 hs1 hs2 hs3 hs4] | rw [zNT5 hs1 hs2 hs3 hs4 hs5] | rw [zNT6 hs1 hs2 hs3 hs4 hs5 hs6] | rw [zNT7 hs1 hs2 hs3 hs4 hs5 hs6 hs7] | rw [zNT8 hs1 hs2 hs3 hs4 hs5 hs6 hs7 hs8] | rw [zNT9 hs1 hs2 hs3 hs4 hs5 hs6 hs7 hs8]); all_goals ((try rw [zbq1 hc1]); (try rw [zbq2 hc1]); (try rw [zbq3 hc1]); (try rw [zbq4 hc1]); (try rw [zbq1 hc2]); (try rw [zbq2 hc2]); (try rw [zbq3 hc2]); (try rw [zbq4 hc2]); (try rw [zbq1 hc3]); (try rw [zbq2 hc3]); (try rw [zbq3 hc3]); (try rw [zbq4 hc3]); (try rw [zbq1 hc4]); (try rw [zbq2 hc4]); (try rw [zbq3 hc4]); (try rw [zbq4 hc4]); (try rw [zbq1 hc5]); (try rw [zbq2 hc5]); (try rw [zbq3 hc5]); (try rw [zbq4 hc5]); (try rw [zbq1 hc6]); (try rw [zbq2 hc6]); (try rw [zbq3 hc6]); (try rw [zbq4 hc6]); (try rw [zbq1 hc7]); (try rw [zbq2 hc7]); (try rw [zbq3 hc7]); (try rw [zbq4 hc7]); (try rw [zbq1 hc8]); (try rw [zbq2 hc8]); (try rw [zbq3 hc8]); (try rw [zbq4 hc8]); (try rw [zbq1 hc9]); (try rw [zbq2 hc9]); (try rw [zbq3 hc9]); (try rw [zbq4 hc9]); (try rw [zbq1 hc10]); (try rw [zbq2 hc10]); (try rw [zbq3 hc10]); (try rw [zbq4 hc10]); (try rw [zbq1 hc11]); (try rw [zbq2 hc11]); (try rw [zbq3 hc11]); (try rw [zbq4 hc11]); (try rw [zbq1 hc12]); (try rw [zbq2 hc12]); (try rw [zbq3 hc12]); (try rw [zbq4 hc12]); (try rw [zbq1 hc13]); (try rw [zbq2 hc13]); (try rw [zbq3 hc13]); (try rw [zbq4 hc13]); first | rfl | (simp only [Bool.false_or, Bool.true_or, Bool.or_true, Bool.or_false, Bool.not_true, Bool.not_false]; rfl))) rfl) ⟨Nat.le_refl _, Nat.le_refl _⟩ rfl (by first | rfl | exact znB)
                · skip
                  skip
                  refine z_iconst C rfl ?_
                  refine z_goto C rfl ?_
                  exact z_zreturn C rfl (zER_eq he (by (first | rw [zNT1 hs1] | rw [zNT2 hs1 hs2] | rw [zNT3 hs1 hs2 hs3] | rw [zNT4 hs1 hs2 hs3 hs4] | rw [zNT5 hs1 hs2 hs3 hs4 hs5] | rw [zNT6 hs1 hs2 hs3 hs4 hs5 hs6] | rw [zNT7 hs1 hs2 hs3 hs4 hs5 hs6 hs7] | rw [zNT8 hs1 hs2 hs3 hs4 hs5 hs6 hs7 hs8] | rw [zNT9 hs1 hs2 hs3 hs4 hs5 hs6 hs7 hs8]); all_goals ((try rw [zbq1 hc1]); (try rw [zbq2 hc1]); (try rw [zbq3 hc1]); (try rw [zbq4 hc1]); (try rw [zbq1 hc2]); (try rw [zbq2 hc2]); (try rw [zbq3 hc2]); (try rw [zbq4 hc2]); (try rw [zbq1 hc3]); (try rw [zbq2 hc3]); (try rw [zbq3 hc3]); (try rw [zbq4 hc3]); (try rw [zbq1 hc4]); (try rw [zbq2 hc4]); (try rw [zbq3 hc4]); (try rw [zbq4 hc4]); (try rw [zbq1 hc5]); (try rw [zbq2 hc5]); (try rw [zbq3 hc5]); (try rw [zbq4 hc5]); (try rw [zbq1 hc6]); (try rw [zbq2 hc6]); (try rw [zbq3 hc6]); (try rw [zbq4 hc6]); (try rw [zbq1 hc7]); (try rw [zbq2 hc7]); (try rw [zbq3 hc7]); (try rw [zbq4 hc7]); (try rw [zbq1 hc8]); (try rw [zbq2 hc8]); (try rw [zbq3 hc8]); (try rw [zbq4 hc8]); (try rw [zbq1 hc9]); (try rw [zbq2 hc9]); (try rw [zbq3 hc9]); (try rw [zbq4 hc9]); (try rw [zbq1 hc10]); (try rw [zbq2 hc10]); (try rw [zbq3 hc10]); (try rw [zbq4 hc10]); (try rw [zbq1 hc11]); (try rw [zbq2 hc11]); (try rw [zbq3 hc11]); (try rw [zbq4 hc11]); (try rw [zbq1 hc12]); (try rw [zbq2 hc12]); (try rw [zbq3 hc12]); (try rw [zbq4 hc12]); (try rw [zbq1 hc13]); (try rw [zbq2 hc13]); (try rw [zbq3 hc13]); (try rw [zbq4 hc13]); first | rfl | (simp only [Bool.false_or, Bool.true_or, Bool.or_true, Bool.or_false, Bool.not_true, Bool.not_false]; rfl))) rfl) ⟨Nat.le_refl _, Nat.le_refl _⟩ rfl (by first | rfl | exact znB)
              · skip
                by_cases hs7 : (o).toInt ∈ ([102, 113] : List Int)
                · skip
                  refine z_tsE C _ hs7 rfl (by decide) (off := 188) (by decide +kernel) (tgt := 204) (by decide) ?_
                  refine z_iloadn C rfl rfl ?_
                  refine z_iconst C rfl ?_
                  refine z_calls C rfl ⟨by decide, by decide, by decide⟩ (c_isWithin (zKg_of C) _) rfl rfl (Nat.le_of_ble_eq_true rfl) ⟨(Nat.le_of_ble_eq_true rfl), (Nat.le_of_ble_eq_true rfl)⟩ ?_
                  refine z_if C rfl (fun hc7 => ?_) (fun hc7 => ?_)
                  · skip
                    skip
                    refine z_iconst C rfl ?_
                    exact z_zreturn C rfl (zER_eq he (by (first | rw [zNT1 hs1] | rw [zNT2 hs1 hs2] | rw [zNT3 hs1 hs2 hs3] | rw [zNT4 hs1 hs2 hs3 hs4] | rw [zNT5 hs1 hs2 hs3 hs4 hs5] | rw [zNT6 hs1 hs2 hs3 hs4 hs5 hs6] | rw [zNT7 hs1 hs2 hs3 hs4 hs5 hs6 hs7] | rw [zNT8 hs1 hs2 hs3 hs4 hs5 hs6 hs7 hs8] | rw [zNT9 hs1 hs2 hs3 hs4 hs5 hs6 hs7 hs8]); all_goals ((try rw [zbq1 hc1]); (try rw [zbq2 hc1]); (try rw [zbq3 hc1]); (try rw [zbq4 hc1]); (try rw [zbq1 hc2]); (try rw [zbq2 hc2]); (try rw [zbq3 hc2]); (try rw [zbq4 hc2]); (try rw [zbq1 hc3]); (try rw [zbq2 hc3]); (try rw [zbq3 hc3]); (try rw [zbq4 hc3]); (try rw [zbq1 hc4]); (try rw [zbq2 hc4]); (try rw [zbq3 hc4]); (try rw [zbq4 hc4]); (try rw [zbq1 hc5]); (try rw [zbq2 hc5]); (try rw [zbq3 hc5]); (try rw [zbq4 hc5]); (try rw [zbq1 hc6]); (try rw [zbq2 hc6]); (try rw [zbq3 hc6]); (try rw [zbq4 hc6]); (try rw [zbq1 hc7]); (try rw [zbq2 hc7]); (try rw [zbq3 hc7]); (try rw [zbq4 hc7]); (try rw [zbq1 hc8]); (try rw [zbq2 hc8]); (try rw [zbq3 hc8]); (try rw [zbq4 hc8]); (try rw [zbq1 hc9]); (try rw [zbq2 hc9]); (try rw [zbq3 hc9]); (try rw [zbq4 hc9]); (try rw [zbq1 hc10]); (try rw [zbq2 hc10]); (try rw [zbq3 hc10]); (try rw [zbq4 hc10]); (try rw [zbq1 hc11]); (try rw [zbq2 hc11]); (try rw [zbq3 hc11]); (try rw [zbq4 hc11]); (try rw [zbq1 hc12]); (try rw [zbq2 hc12]); (try rw [zbq3 hc12]); (try rw [zbq4 hc12]); (try rw [zbq1 hc13]); (try rw [zbq2 hc13]); (try rw [zbq3 hc13]); (try rw [zbq4 hc13]); first | rfl | (simp only [Bool.false_or, Bool.true_or, Bool.or_true, Bool.or_false, Bool.not_true, Bool.not_false]; rfl))) rfl) ⟨Nat.le_refl _, Nat.le_refl _⟩ rfl (by first | rfl | exact znB)
                  · skip
                    skip
                    refine z_iconst C rfl ?_
                    refine z_goto C rfl ?_
                    exact z_zreturn C rfl (zER_eq he (by (first | rw [zNT1 hs1] | rw [zNT2 hs1 hs2] | rw [zNT3 hs1 hs2 hs3] | rw [zNT4 hs1 hs2 hs3 hs4] | rw [zNT5 hs1 hs2 hs3 hs4 hs5] | rw [zNT6 hs1 hs2 hs3 hs4 hs5 hs6] | rw [zNT7 hs1 hs2 hs3 hs4 hs5 hs6 hs7] | rw [zNT8 hs1 hs2 hs3 hs4 hs5 hs6 hs7 hs8] | rw [zNT9 hs1 hs2 hs3 hs4 hs5 hs6 hs7 hs8]); all_goals ((try rw [zbq1 hc1]); (try rw [zbq2 hc1]); (try rw [zbq3 hc1]); (try rw [zbq4 hc1]); (try rw [zbq1 hc2]); (try rw [zbq2 hc2]); (try rw [zbq3 hc2]); (try rw [zbq4 hc2]); (try rw [zbq1 hc3]); (try rw [zbq2 hc3]); (try rw [zbq3 hc3]); (try rw [zbq4 hc3]); (try rw [zbq1 hc4]); (try rw [zbq2 hc4]); (try rw [zbq3 hc4]); (try rw [zbq4 hc4]); (try rw [zbq1 hc5]); (try rw [zbq2 hc5]); (try rw [zbq3 hc5]); (try rw [zbq4 hc5]); (try rw [zbq1 hc6]); (try rw [zbq2 hc6]); (try rw [zbq3 hc6]); (try rw [zbq4 hc6]); (try rw [zbq1 hc7]); (try rw [zbq2 hc7]); (try rw [zbq3 hc7]); (try rw [zbq4 hc7]); (try rw [zbq1 hc8]); (try rw [zbq2 hc8]); (try rw [zbq3 hc8]); (try rw [zbq4 hc8]); (try rw [zbq1 hc9]); (try rw [zbq2 hc9]); (try rw [zbq3 hc9]); (try rw [zbq4 hc9]); (try rw [zbq1 hc10]); (try rw [zbq2 hc10]); (try rw [zbq3 hc10]); (try rw [zbq4 hc10]); (try rw [zbq1 hc11]); (try rw [zbq2 hc11]); (try rw [zbq3 hc11]); (try rw [zbq4 hc11]); (try rw [zbq1 hc12]); (try rw [zbq2 hc12]); (try rw [zbq3 hc12]); (try rw [zbq4 hc12]); (try rw [zbq1 hc13]); (try rw [zbq2 hc13]); (try rw [zbq3 hc13]); (try rw [zbq4 hc13]); first | rfl | (simp only [Bool.false_or, Bool.true_or, Bool.or_true, Bool.or_false, Bool.not_true, Bool.not_false]; rfl))) rfl) ⟨Nat.le_refl _, Nat.le_refl _⟩ rfl (by first | rfl | exact znB)
                · skip
                  by_cases hs8 : (o).toInt ∈ ([99] : List Int)
                  · skip
                    refine z_tsE C _ hs8 rfl (by decide) (off := 202) (by decide +kernel) (tgt := 218) (by decide) ?_
                    refine z_iloadn C rfl rfl ?_
                    refine z_aloadn C rfl rfl ?_
                    refine z_geti C rfl zS_1 rfl ?_
                    refine z_calls C rfl ⟨by decide, by decide, by decide⟩ (c_isWithin (zKg_of C) _) rfl rfl (Nat.le_of_ble_eq_true rfl) ⟨(Nat.le_of_ble_eq_true rfl), (Nat.le_of_ble_eq_true rfl)⟩ ?_
                    refine z_if C rfl (fun hc8 => ?_) (fun hc8 => ?_)
                    · skip
                      skip
                      refine z_iconst C rfl ?_
                      exact z_zreturn C rfl (zER_eq he (by (first | rw [zNT1 hs1] | rw [zNT2 hs1 hs2] | rw [zNT3 hs1 hs2 hs3] | rw [zNT4 hs1 hs2 hs3 hs4] | rw [zNT5 hs1 hs2 hs3 hs4 hs5] | rw [zNT6 hs1 hs2 hs3 hs4 hs5 hs6] | rw [zNT7 hs1 hs2 hs3 hs4 hs5 hs6 hs7] | rw [zNT8 hs1 hs2 hs3 hs4 hs5 hs6 hs7 hs8] | rw [zNT9 hs1 hs2 hs3 hs4 hs5 hs6 hs7 hs8]); all_goals ((try rw [zbq1 hc1]); (try rw [zbq2 hc1]); (try rw [zbq3 hc1]); (try rw [zbq4 hc1]); (try rw [zbq1 hc2]); (try rw [zbq2 hc2]); (try rw [zbq3 hc2]); (try rw [zbq4 hc2]); (try rw [zbq1 hc3]); (try rw [zbq2 hc3]); (try rw [zbq3 hc3]); (try rw [zbq4 hc3]); (try rw [zbq1 hc4]); (try rw [zbq2 hc4]); (try rw [zbq3 hc4]); (try rw [zbq4 hc4]); (try rw [zbq1 hc5]); (try rw [zbq2 hc5]); (try rw [zbq3 hc5]); (try rw [zbq4 hc5]); (try rw [zbq1 hc6]); (try rw [zbq2 hc6]); (try rw [zbq3 hc6]); (try rw [zbq4 hc6]); (try rw [zbq1 hc7]); (try rw [zbq2 hc7]); (try rw [zbq3 hc7]); (try rw [zbq4 hc7]); (try rw [zbq1 hc8]); (try rw [zbq2 hc8]); (try rw [zbq3 hc8]); (try rw [zbq4 hc8]); (try rw [zbq1 hc9]); (try rw [zbq2 hc9]); (try rw [zbq3 hc9]); (try rw [zbq4 hc9]); (try rw [zbq1 hc10]); (try rw [zbq2 hc10]); (try rw [zbq3 hc10]); (try rw [zbq4 hc10]); (try rw [zbq1 hc11]); (try rw [zbq2 hc11]); (try rw [zbq3 hc11]); (try rw [zbq4 hc11]); (try rw [zbq1 hc12]); (try rw [zbq2 hc12]); (try rw [zbq3 hc12]); (try rw [zbq4 hc12]); (try rw [zbq1 hc13]); (try rw [zbq2 hc13]); (try rw [zbq3 hc13]); (try rw [zbq4 hc13]); first | rfl | (simp only [Bool.false_or, Bool.true_or, Bool.or_true, Bool.or_false, Bool.not_true, Bool.not_false]; rfl))) rfl) ⟨Nat.le_refl _, Nat.le_refl _⟩ rfl (by first | rfl | exact znB)
                    · skip
                      skip
                      refine z_iconst C rfl ?_
                      refine z_goto C rfl ?_
                      exact z_zreturn C rfl (zER_eq he (by (first | rw [zNT1 hs1] | rw [zNT2 hs1 hs2] | rw [zNT3 hs1 hs2 hs3] | rw [zNT4 hs1 hs2 hs3 hs4] | rw [zNT5 hs1 hs2 hs3 hs4 hs5] | rw [zNT6 hs1 hs2 hs3 hs4 hs5 hs6] | rw [zNT7 hs1 hs2 hs3 hs4 hs5 hs6 hs7] | rw [zNT8 hs1 hs2 hs3 hs4 hs5 hs6 hs7 hs8] | rw [zNT9 hs1 hs2 hs3 hs4 hs5 hs6 hs7 hs8]); all_goals ((try rw [zbq1 hc1]); (try rw [zbq2 hc1]); (try rw [zbq3 hc1]); (try rw [zbq4 hc1]); (try rw [zbq1 hc2]); (try rw [zbq2 hc2]); (try rw [zbq3 hc2]); (try rw [zbq4 hc2]); (try rw [zbq1 hc3]); (try rw [zbq2 hc3]); (try rw [zbq3 hc3]); (try rw [zbq4 hc3]); (try rw [zbq1 hc4]); (try rw [zbq2 hc4]); (try rw [zbq3 hc4]); (try rw [zbq4 hc4]); (try rw [zbq1 hc5]); (try rw [zbq2 hc5]); (try rw [zbq3 hc5]); (try rw [zbq4 hc5]); (try rw [zbq1 hc6]); (try rw [zbq2 hc6]); (try rw [zbq3 hc6]); (try rw [zbq4 hc6]); (try rw [zbq1 hc7]); (try rw [zbq2 hc7]); (try rw [zbq3 hc7]); (try rw [zbq4 hc7]); (try rw [zbq1 hc8]); (try rw [zbq2 hc8]); (try rw [zbq3 hc8]); (try rw [zbq4 hc8]); (try rw [zbq1 hc9]); (try rw [zbq2 hc9]); (try rw [zbq3 hc9]); (try rw [zbq4 hc9]); (try rw [zbq1 hc10]); (try rw [zbq2 hc10]); (try rw [zbq3 hc10]); (try rw [zbq4 hc10]); (try rw [zbq1 hc11]); (try rw [zbq2 hc11]); (try rw [zbq3 hc11]); (try rw [zbq4 hc11]); (try rw [zbq1 hc12]); (try rw [zbq2 hc12]); (try rw [zbq3 hc12]); (try rw [zbq4 hc12]); (try rw [zbq1 hc13]); (try rw [zbq2 hc13]); (try rw [zbq3 hc13]); (try rw [zbq4 hc13]); first | rfl | (simp only [Bool.false_or, Bool.true_or, Bool.or_true, Bool.or_false, Bool.not_true, Bool.not_false]; rfl))) rfl) ⟨Nat.le_refl _, Nat.le_refl _⟩ rfl (by first | rfl | exact znB)
                  · skip
                    refine z_tsD C _ (znm hs1 (znm hs2 (znm hs3 (znm hs4 (znm hs5 (znm hs6 (znm hs7 (znm hs8 znm0)))))))) rfl (by decide) (by decide +kernel) (tgt := 235) (by decide) ?_
                    refine z_iconst C rfl ?_
                    exact z_zreturn C rfl (zER_eq he (by (first | rw [zNT1 hs1] | rw [zNT2 hs1 hs2] | rw [zNT3 hs1 hs2 hs3] | rw [zNT4 hs1 hs2 hs3 hs4] | rw [zNT5 hs1 hs2 hs3 hs4 hs5] | rw [zNT6 hs1 hs2 hs3 hs4 hs5 hs6] | rw [zNT7 hs1 hs2 hs3 hs4 hs5 hs6 hs7] | rw [zNT8 hs1 hs2 hs3 hs4 hs5 hs6 hs7 hs8] | rw [zNT9 hs1 hs2 hs3 hs4 hs5 hs6 hs7 hs8]); all_goals ((try rw [zbq1 hc1]); (try rw [zbq2 hc1]); (try rw [zbq3 hc1]); (try rw [zbq4 hc1]); (try rw [zbq1 hc2]); (try rw [zbq2 hc2]); (try rw [zbq3 hc2]); (try rw [zbq4 hc2]); (try rw [zbq1 hc3]); (try rw [zbq2 hc3]); (try rw [zbq3 hc3]); (try rw [zbq4 hc3]); (try rw [zbq1 hc4]); (try rw [zbq2 hc4]); (try rw [zbq3 hc4]); (try rw [zbq4 hc4]); (try rw [zbq1 hc5]); (try rw [zbq2 hc5]); (try rw [zbq3 hc5]); (try rw [zbq4 hc5]); (try rw [zbq1 hc6]); (try rw [zbq2 hc6]); (try rw [zbq3 hc6]); (try rw [zbq4 hc6]); (try rw [zbq1 hc7]); (try rw [zbq2 hc7]); (try rw [zbq3 hc7]); (try rw [zbq4 hc7]); (try rw [zbq1 hc8]); (try rw [zbq2 hc8]); (try rw [zbq3 hc8]); (try rw [zbq4 hc8]); (try rw [zbq1 hc9]); (try rw [zbq2 hc9]); (try rw [zbq3 hc9]); (try rw [zbq4 hc9]); (try rw [zbq1 hc10]); (try rw [zbq2 hc10]); (try rw [zbq3 hc10]); (try rw [zbq4 hc10]); (try rw [zbq1 hc11]); (try rw [zbq2 hc11]); (try rw [zbq3 hc11]); (try rw [zbq4 hc11]); (try rw [zbq1 hc12]); (try rw [zbq2 hc12]); (try rw [zbq3 hc12]); (try rw [zbq4 hc12]); (try rw [zbq1 hc13]); (try rw [zbq2 hc13]); (try rw [zbq3 hc13]); (try rw [zbq4 hc13]); first | rfl | (simp only [Bool.false_or, Bool.true_or, Bool.or_true, Bool.or_false, Bool.not_true, Bool.not_false]; rfl))) rfl) ⟨Nat.le_refl _, Nat.le_refl _⟩ rfl (by first | rfl | exact znB)
  refine z_aloadn C rfl rfl ?_
  refine z_geti C rfl (zS_fun f hf) rfl ?_
  refine z_iconst C rfl ?_
  refine z_icmp C rfl (fun hc1 => ?_) (fun hc1 => ?_)
  · skip
    skip
    refine z_iconst C rfl ?_
    exact z_ll [(0, zr (some 1)), (1, zr (some (751 + 3 * f))), (2, zi o), (3, zi n)] ⟨rfl, rfl, rfl, rfl, trivial⟩ (k13 _ (by first | (have q1 : ¬ h.1 (751 + 3 * f) 0 = 2 := hc1; rw [decide_eq_false q1]; rfl) | (have q1 : h.1 (751 + 3 * f) 0 = 2 := Decidable.of_not_not hc1; rw [decide_eq_true q1]; rfl)))
  · skip
    skip
    refine z_iconst C rfl ?_
    refine z_goto C rfl ?_
    exact z_ll [(0, zr (some 1)), (1, zr (some (751 + 3 * f))), (2, zi o), (3, zi n)] ⟨rfl, rfl, rfl, rfl, trivial⟩ (k13 _ (by first | (have q1 : ¬ h.1 (751 + 3 * f) 0 = 2 := hc1; rw [decide_eq_false q1]; rfl) | (have q1 : h.1 (751 + 3 * f) 0 = 2 := Decidable.of_not_not hc1; rw [decide_eq_true q1]; rfl)))

set_option maxHeartbeats 400000 in
set_option maxRecDepth 20000 in
theorem q_fault {κ : zK} (hκ : zKg κ) {c f : Nat} (h12 : c < 12) (hf : f < 10) {o n : Int32} (h : zH) (hw : zWk h) (hfn : zFn h) (hcf : h.2.2.2 (781 + 6 * c) 0 = some (751 + 3 * f)) : zRq κ 39 [zr (some 1), zr (some (781 + 6 * c)), zi o, zi n] h (fun v h' => h' = h ∧ ∃ x, v = some (zi x) ∧ x ≠ 9 ∧ (x = 0 → zNT h (751 + 3 * f) o.toInt n = false ∧ zpops h o.toInt n ≤ h.1 332 2 - h.1 (781 + 6 * c) 5)) 0 0 := by
  refine zRq_of hκ (by decide) (by decide +kernel) (Nat.le_of_ble_eq_true rfl) fun ω C hK he => ?_
  refine z_aloadn C rfl rfl ?_
  refine z_aloadn C rfl rfl ?_
  refine z_gets C rfl (zS_call c h12) rfl hcf ?_
  refine z_iloadn C rfl rfl ?_
  refine z_iloadn C rfl rfl ?_
  refine z_callv C rfl ⟨by decide, by decide⟩ zS_1 (c_isNT (zKg_of C) hf _) rfl rfl (Nat.le_of_ble_eq_true rfl) ⟨(Nat.le_of_ble_eq_true rfl), (Nat.le_of_ble_eq_true rfl)⟩ ?_
  refine z_if C rfl (fun hc1 => ?_) (fun hc1 => ?_)
  · skip
    skip
    refine z_aloadn C rfl rfl ?_
    refine z_gets C rfl zS_1 rfl hw.1.1.2.1.2.2.2.1 ?_
    refine z_geti C rfl zS_332 rfl ?_
    refine z_aloadn C rfl rfl ?_
    refine z_geti C rfl (zS_call c h12) rfl ?_
    refine z_isub C rfl ?_
    refine z_aloadn C rfl rfl ?_
    refine z_iloadn C rfl rfl ?_
    refine z_iloadn C rfl rfl ?_
    refine z_callv C rfl ⟨by decide, by decide⟩ zS_1 (c_pops (zKg_of C) _ hw hfn) rfl rfl (Nat.le_of_ble_eq_true rfl) ⟨(Nat.le_of_ble_eq_true rfl), (Nat.le_of_ble_eq_true rfl)⟩ ?_
    refine z_icmp C rfl (fun hc2 => ?_) (fun hc2 => ?_)
    · skip
      skip
      refine z_iconst C rfl ?_
      exact z_ireturnq C rfl he ⟨Nat.le_refl _, Nat.le_refl _⟩ rfl ⟨rfl, _, rfl, by decide, fun e => by first | exact absurd e (by decide) | exact ⟨zbq1 hc1, hc2⟩⟩
    · skip
      skip
      refine z_iconst C rfl ?_
      refine z_goto C rfl ?_
      exact z_ireturnq C rfl he ⟨Nat.le_refl _, Nat.le_refl _⟩ rfl ⟨rfl, _, rfl, by decide, fun e => by first | exact absurd e (by decide) | exact ⟨zbq1 hc1, hc2⟩⟩
  · skip
    skip
    refine z_bipush C rfl ?_
    exact z_ireturnq C rfl he ⟨Nat.le_refl _, Nat.le_refl _⟩ rfl ⟨rfl, _, rfl, by decide, fun e => by first | exact absurd e (by decide) | exact ⟨zbq1 hc1, hc2⟩⟩

