/-! the codes -/
theorem zsubI {s b : Nat} (hs : s ≤ 412) (hb : b ≤ 412) : (nI s - nI b).toInt = (s : Int) - b := by
  rw [Int32.toInt_sub, nI_toInt (by omega), nI_toInt (by omega)]
  have e : (s : Int) - b = ((s : Int) - b) := rfl
  rw [Int.bmod_def]
  split <;> omega
theorem zpop_le {s b k : Nat} (hs : s ≤ 412) (hb : b ≤ 412) (hk : k ≤ 2) (h : nI k ≤ nI s - nI b) : k ≤ s := by
  rw [Int32.le_iff_toInt_le, zsubI hs hb, nI_toInt (by omega)] at h
  omega
theorem zntw {b : Bool} (h : (!b) = false) : b = true := by cases b <;> first | rfl | cases h
theorem zNl {g : zH} {t : Nat} {o : Int} {n : Int32} (hs : o ∈ ([108] : List Int)) (h : zNT g t o n = false) : zwithin n (Int32.ofInt (Int.ofNat 4)) = true := by
  obtain rfl : o = 108 := List.mem_singleton.mp hs
  have e : zNT g t 108 n = !zwithin n (Int32.ofInt (Int.ofNat 4)) := rfl
  rw [e] at h
  exact zntw h
theorem zNs {g : zH} {t : Nat} {o : Int} {n : Int32} (hs : o ∈ ([115] : List Int)) (h : zNT g t o n = false) : zwithin n (Int32.ofInt (Int.ofNat 4)) = true := by
  obtain rfl : o = 115 := List.mem_singleton.mp hs
  have e : zNT g t 115 n = !zwithin n (Int32.ofInt (Int.ofNat 4)) := rfl
  rw [e] at h
  exact zntw h
theorem zNg {g : zH} {t : Nat} {o : Int} {n : Int32} (hs : o ∈ ([103] : List Int)) (h : zNT g t o n = false) : zwithin n (Int32.ofInt (Int.ofNat 8)) = true := by
  obtain rfl : o = 103 := List.mem_singleton.mp hs
  have e : zNT g t 103 n = !zwithin n (Int32.ofInt (Int.ofNat 8)) := rfl
  rw [e] at h
  exact zntw h
theorem zNp {g : zH} {t : Nat} {o : Int} {n : Int32} (hs : o ∈ ([112] : List Int)) (h : zNT g t o n = false) : zwithin n (Int32.ofInt (Int.ofNat 8)) = true := by
  obtain rfl : o = 112 := List.mem_singleton.mp hs
  have e : zNT g t 112 n = !zwithin n (Int32.ofInt (Int.ofNat 8)) := rfl
  rw [e] at h
  exact zntw h
theorem zNf {g : zH} {t : Nat} {o : Int} {n : Int32} (hs : o ∈ ([102] : List Int)) (h : zNT g t o n = false) : zwithin n (Int32.ofInt (Int.ofNat 3)) = true := by
  obtain rfl : o = 102 := List.mem_singleton.mp hs
  have e : zNT g t 102 n = !zwithin n (Int32.ofInt (Int.ofNat 3)) := rfl
  rw [e] at h
  exact zntw h
theorem zNq {g : zH} {t : Nat} {o : Int} {n : Int32} (hs : o ∈ ([113] : List Int)) (h : zNT g t o n = false) : zwithin n (Int32.ofInt (Int.ofNat 3)) = true := by
  obtain rfl : o = 113 := List.mem_singleton.mp hs
  have e : zNT g t 113 n = !zwithin n (Int32.ofInt (Int.ofNat 3)) := rfl
  rw [e] at h
  exact zntw h
theorem zNc {g : zH} {t : Nat} {o : Int} {n : Int32} (hs : o ∈ ([99] : List Int)) (h : zNT g t o n = false) : zwithin n (g.1 1 2) = true := by
  obtain rfl : o = 99 := List.mem_singleton.mp hs
  have e : zNT g t 99 n = !zwithin n (g.1 1 2) := rfl
  rw [e] at h
  exact zntw h
theorem zp1s {g : zH} {o : Int} {n : Int32} (hs : o ∈ ([115] : List Int)) : zpops g o n = nI 1 := by
  simp only [List.mem_cons, List.mem_nil_iff, or_false] at hs
  rcases hs with rfl <;> rfl
theorem zp1p {g : zH} {o : Int} {n : Int32} (hs : o ∈ ([112] : List Int)) : zpops g o n = nI 1 := by
  simp only [List.mem_cons, List.mem_nil_iff, or_false] at hs
  rcases hs with rfl <;> rfl
theorem zp1f {g : zH} {o : Int} {n : Int32} (hs : o ∈ ([102] : List Int)) : zpops g o n = nI 1 := by
  simp only [List.mem_cons, List.mem_nil_iff, or_false] at hs
  rcases hs with rfl <;> rfl
theorem zp2q {g : zH} {o : Int} {n : Int32} (hs : o ∈ ([113] : List Int)) : zpops g o n = nI 2 := by
  simp only [List.mem_cons, List.mem_nil_iff, or_false] at hs
  rcases hs with rfl <;> rfl
theorem zp2c {g : zH} {o : Int} {n : Int32} (hs : o ∈ ([42, 43, 45, 47, 60, 61] : List Int)) : zpops g o n = nI 2 := by
  simp only [List.mem_cons, List.mem_nil_iff, or_false] at hs
  rcases hs with rfl | rfl | rfl | rfl | rfl | rfl <;> rfl
theorem zp1z {g : zH} {o : Int} {n : Int32} (hs : o ∈ ([122] : List Int)) : zpops g o n = nI 1 := by
  simp only [List.mem_cons, List.mem_nil_iff, or_false] at hs
  rcases hs with rfl <;> rfl
theorem zp1r {g : zH} {o : Int} {n : Int32} (hs : o ∈ ([114] : List Int)) : zpops g o n = nI 1 := by
  simp only [List.mem_cons, List.mem_nil_iff, or_false] at hs
  rcases hs with rfl <;> rfl
theorem zp1t {g : zH} {o : Int} {n : Int32} (hs : o ∈ ([116] : List Int)) : zpops g o n = nI 1 := by
  simp only [List.mem_cons, List.mem_nil_iff, or_false] at hs
  rcases hs with rfl <;> rfl
theorem zp2e {g : zH} {o : Int} {n : Int32} (hs : o ∈ ([101] : List Int)) : zpops g o n = nI 2 := by
  simp only [List.mem_cons, List.mem_nil_iff, or_false] at hs
  rcases hs with rfl <;> rfl
theorem zpsc {g : zH} {o : Int} {n : Int32} (hs : o ∈ ([99] : List Int)) : zpops g o n = (if zwithin n (g.1 1 2) = true then g.1 (751 + 3 * n.toNatClampNeg) 1 else 0) := by
  simp only [List.mem_cons, List.mem_nil_iff, or_false] at hs
  rcases hs with rfl <;> rfl
set_option maxHeartbeats 400000 in
set_option maxRecDepth 20000 in
theorem q_doCode {κ : zK} (hκ : zKg κ) {T s c f l : Nat} {o n : Int32} (hf : f < 10) (hl : l < 3) (h : zH) (R : zRI h T s (c + 1)) (ef : h.2.2.2 (781 + 6 * c) 0 = some (751 + 3 * f)) (el : h.1 (751 + 3 * f) 0 = nI l) (hNT : zNT h (751 + 3 * f) o.toInt n = false) (hP : ∀ k, k ≤ 2 → zpops h o.toInt n = nI k → k ≤ s) : zRq κ 41 [zr (some 1), zr (some (781 + 6 * c)), zi o, zi n] h (zP0 h (c + 1) 1) 0 0 := by
  refine zRq_of hκ (by decide) (by decide +kernel) (Nat.le_of_ble_eq_true rfl) fun ω C hK he => ?_
  refine z_aloadn C rfl rfl ?_
  have hd := zRI_d R
  have h12 : c < 12 := by omega
  refine z_gets C rfl (zS_call c h12) rfl ef ?_
  refine z_geti C rfl (zS_fun f hf) rfl ?_
  rw [el]
  refine z_istore C rfl ?_
  refine z_iloadn C rfl rfl ?_
  by_cases hs1 : (o).toInt ∈ ([110] : List Int)
  · skip
    refine z_lsE C _ hs1 rfl (by decide +kernel) (off := 130) (by decide +kernel) (tgt := 140) (by decide) ?_
    refine z_aloadn C rfl rfl ?_
    refine z_gets C rfl zS_1 rfl (zstkF R.1) ?_
    refine z_callv C rfl ⟨by decide, by decide⟩ zS_332 (c_push (zKg_of C) (zRI_s R).2 _ R.1.1.1 (zRI_s R).1) rfl rfl (Nat.le_of_ble_eq_true rfl) ⟨(Nat.le_of_ble_eq_true rfl), (Nat.le_of_ble_eq_true rfl)⟩ ?_
    refine z_iload C rfl rfl ?_
    refine z_iloadn C rfl rfl ?_
    have v := zV_num (l := nI l) (x := n) (zpuH_wk (s := s) R.1) (zpuH_nn (s := s) R.2.1) (zpu_S s)
    obtain ⟨T1, s1, R1⟩ := zRI_push R v
    refine z_callv C rfl ⟨by decide, by decide⟩ (zpu_S s) (c_becomeNumber (zKg_of C) (zpu_S s) _) rfl rfl (Nat.le_of_ble_eq_true rfl) ⟨(Nat.le_of_ble_eq_true rfl), (Nat.le_of_ble_eq_true rfl)⟩ ?_
    refine z_iconst C rfl ?_
    exact z_ireturnq C rfl he ⟨Nat.le_refl _, Nat.le_refl _⟩ rfl ⟨T1, s1, _, R1, zSt_le (zpush_st v).1 (by decide), (zpush_st v).2, rfl, fun e => absurd e (by decide)⟩
  · skip
    by_cases hs2 : (o).toInt ∈ ([104] : List Int)
    · skip
      refine z_lsE C _ hs2 rfl (by decide +kernel) (off := 145) (by decide +kernel) (tgt := 155) (by decide) ?_
      refine z_aloadn C rfl rfl ?_
      refine z_gets C rfl zS_1 rfl (zstkF R.1) ?_
      refine z_callv C rfl ⟨by decide, by decide⟩ zS_332 (c_push (zKg_of C) (zRI_s R).2 _ R.1.1.1 (zRI_s R).1) rfl rfl (Nat.le_of_ble_eq_true rfl) ⟨(Nat.le_of_ble_eq_true rfl), (Nat.le_of_ble_eq_true rfl)⟩ ?_
      refine z_iloadn C rfl rfl ?_
      refine z_i2d C rfl ?_
      refine z_ldcd C (v := 4611686018427387904) (by decide +kernel) kd166 ?_
      refine z_ddiv C rfl zn_half ?_
      have v := zV_real (zpuH_wk (s := s) R.1) (zpuH_nn (s := s) R.2.1) (zpu_S s) (zn_half (x := n))
      obtain ⟨T1, s1, R1⟩ := zRI_push R v
      refine z_callv C rfl ⟨by decide, by decide⟩ (zpu_S s) (c_becomeReal (zKg_of C) (zpu_S s) _) rfl rfl (Nat.le_of_ble_eq_true rfl) ⟨(Nat.le_of_ble_eq_true rfl), (Nat.le_of_ble_eq_true rfl)⟩ ?_
      refine z_iconst C rfl ?_
      exact z_ireturnq C rfl he ⟨Nat.le_refl _, Nat.le_refl _⟩ rfl ⟨T1, s1, _, R1, zSt_le (zpush_st v).1 (by decide), (zpush_st v).2, rfl, fun e => absurd e (by decide)⟩
    · skip
      by_cases hs3 : (o).toInt ∈ ([108] : List Int)
      · skip
        refine z_lsE C _ hs3 rfl (by decide +kernel) (off := 163) (by decide +kernel) (tgt := 173) (by decide) ?_
        obtain ⟨j, hj, rfl⟩ := zwi (by decide) (zNl hs3 hNT)
        refine z_aloadn C rfl rfl ?_
        refine z_gets C rfl zS_1 rfl (zstkF R.1) ?_
        refine z_callv C rfl ⟨by decide, by decide⟩ zS_332 (c_push (zKg_of C) (zRI_s R).2 _ R.1.1.1 (zRI_s R).1) rfl rfl (Nat.le_of_ble_eq_true rfl) ⟨(Nat.le_of_ble_eq_true rfl), (Nat.le_of_ble_eq_true rfl)⟩ ?_
        refine z_aloadn C rfl rfl ?_
        refine z_gets C rfl (zS_call c h12) rfl (zcalL (zpuH_wk (s := s) R.1) h12) ?_
        refine z_iloadn C rfl rfl ?_
        refine z_aalds C rfl (zS_carr c h12) (by decide) (by decide) (zin (n := 4) hj (by decide)) (by rw [zclamp (n := 4) hj (by decide)]; exact zcalV (zpuH_wk (s := s) R.1) h12 hj) ?_
        have v := zV_cp (zpuH_wk (s := s) R.1) (zpuH_nn (s := s) R.2.1) (zpu_S s) (zS_cval c h12 j hj) (zpuH_gk.1 _ (zS_cval c h12 j hj) (zRI_l R (Nat.lt_succ_self c) hj))
        obtain ⟨T1, s1, R1⟩ := zRI_push R v
        refine z_callv C rfl ⟨by decide, by decide⟩ (zpu_S s) (c_become (zKg_of C) (zpu_S s) (zS_cval c h12 j hj) _ (zpuH_wk (s := s) R.1).2) rfl rfl (Nat.le_of_ble_eq_true rfl) ⟨(Nat.le_of_ble_eq_true rfl), (Nat.le_of_ble_eq_true rfl)⟩ ?_
        refine z_iconst C rfl ?_
        exact z_ireturnq C rfl he ⟨Nat.le_refl _, Nat.le_refl _⟩ rfl ⟨T1, s1, _, R1, zSt_le (zpush_st v).1 (by decide), (zpush_st v).2, rfl, fun e => absurd e (by decide)⟩
      · skip
        by_cases hs4 : (o).toInt ∈ ([115] : List Int)
        · skip
          refine z_lsE C _ hs4 rfl (by decide +kernel) (off := 181) (by decide +kernel) (tgt := 191) (by decide) ?_
          obtain ⟨j, hj, rfl⟩ := zwi (by decide) (zNs hs4 hNT)
          have hsp : 1 ≤ s := hP 1 (by decide) (zp1s hs4)
          refine z_aloadn C rfl rfl ?_
          refine z_gets C rfl (zS_call c h12) rfl (zcalL R.1 h12) ?_
          refine z_iloadn C rfl rfl ?_
          refine z_aalds C rfl (zS_carr c h12) (by decide) (by decide) (zin (n := 4) hj (by decide)) (by rw [zclamp (n := 4) hj (by decide)]; exact zcalV R.1 h12 hj) ?_
          refine z_aloadn C rfl rfl ?_
          refine z_gets C rfl zS_1 rfl (zstkF R.1) ?_
          have R1 := zRI_pop R
          have gp := zpo_gd R hsp
          have Sp := zpo_S (zRI_s R).2
          refine z_callv C rfl ⟨by decide, by decide⟩ zS_332 (c_pop (zKg_of C) (zRI_s R).2 _ R.1.1.1 (zRI_s R).1) rfl rfl (Nat.le_of_ble_eq_true rfl) ⟨(Nat.le_of_ble_eq_true rfl), (Nat.le_of_ble_eq_true rfl)⟩ ?_
          have v := zV_cp R1.1 R1.2.1 (zS_cval c h12 j hj) Sp gp
          have R2 := zRI_vw R1 (zS_cval c h12 j hj) (by omega) v
          refine z_callv C rfl ⟨by decide, by decide⟩ (zS_cval c h12 j hj) (c_become (zKg_of C) (zS_cval c h12 j hj) Sp _ R1.1.2) rfl rfl (Nat.le_of_ble_eq_true rfl) ⟨(Nat.le_of_ble_eq_true rfl), (Nat.le_of_ble_eq_true rfl)⟩ ?_
          refine z_iconst C rfl ?_
          exact z_ireturnq C rfl he ⟨Nat.le_refl _, Nat.le_refl _⟩ rfl ⟨T, _, _, R2, zSt_le (zSt_tr zpoH_st (zSt_vw (zS_cval c h12 j hj) v)) (by decide), zGk_tr zpoH_gk (zGk_vw (zS_cval c h12 j hj) v), rfl, fun e => absurd e (by decide)⟩
        · skip
          by_cases hs5 : (o).toInt ∈ ([103] : List Int)
          · skip
            refine z_lsE C _ hs5 rfl (by decide +kernel) (off := 199) (by decide +kernel) (tgt := 209) (by decide) ?_
            obtain ⟨j, hj, rfl⟩ := zwi (by decide) (zNg hs5 hNT)
            refine z_aloadn C rfl rfl ?_
            refine z_gets C rfl zS_1 rfl (zstkF R.1) ?_
            refine z_callv C rfl ⟨by decide, by decide⟩ zS_332 (c_push (zKg_of C) (zRI_s R).2 _ R.1.1.1 (zRI_s R).1) rfl rfl (Nat.le_of_ble_eq_true rfl) ⟨(Nat.le_of_ble_eq_true rfl), (Nat.le_of_ble_eq_true rfl)⟩ ?_
            refine z_aloadn C rfl rfl ?_
            refine z_gets C rfl zS_1 rfl (zheaF (zpuH_wk (s := s) R.1)) ?_
            refine z_iload C rfl rfl ?_
            refine z_iloadn C rfl rfl ?_
            refine z_callv C rfl ⟨by decide, by decide⟩ zS_2 (c_globalOf (zKg_of C) hl hj _ (zpuH_wk (s := s) R.1).1.1) rfl rfl (Nat.le_of_ble_eq_true rfl) ⟨(Nat.le_of_ble_eq_true rfl), (Nat.le_of_ble_eq_true rfl)⟩ ?_
            have S6 := zS_val24 (8 * l + j) (by omega)
            have v := zV_cp (zpuH_wk (s := s) R.1) (zpuH_nn (s := s) R.2.1) (zpu_S s) S6 (zpuH_gk.1 _ S6 (R.2.2.2.1.1 (8 * l + j) (by omega)).1)
            obtain ⟨T1, s1, R1⟩ := zRI_push R v
            refine z_callv C rfl ⟨by decide, by decide⟩ (zpu_S s) (c_become (zKg_of C) (zpu_S s) S6 _ (zpuH_wk (s := s) R.1).2) rfl rfl (Nat.le_of_ble_eq_true rfl) ⟨(Nat.le_of_ble_eq_true rfl), (Nat.le_of_ble_eq_true rfl)⟩ ?_
            refine z_iconst C rfl ?_
            exact z_ireturnq C rfl he ⟨Nat.le_refl _, Nat.le_refl _⟩ rfl ⟨T1, s1, _, R1, zSt_le (zpush_st v).1 (by decide), (zpush_st v).2, rfl, fun e => absurd e (by decide)⟩
          · skip
            by_cases hs6 : (o).toInt ∈ ([112] : List Int)
            · skip
              refine z_lsE C _ hs6 rfl (by decide +kernel) (off := 221) (by decide +kernel) (tgt := 231) (by decide) ?_
              obtain ⟨j, hj, rfl⟩ := zwi (by decide) (zNp hs6 hNT)
              have hsp : 1 ≤ s := hP 1 (by decide) (zp1p hs6)
              refine z_aloadn C rfl rfl ?_
              refine z_gets C rfl zS_1 rfl (zheaF R.1) ?_
              refine z_iload C rfl rfl ?_
              refine z_iloadn C rfl rfl ?_
              refine z_aloadn C rfl rfl ?_
              refine z_gets C rfl zS_1 rfl (zstkF R.1) ?_
              have R1 := zRI_pop R
              have gp := zpo_gd R hsp
              have Sp := zpo_S (zRI_s R).2
              refine z_callv C rfl ⟨by decide, by decide⟩ zS_332 (c_pop (zKg_of C) (zRI_s R).2 _ R.1.1.1 (zRI_s R).1) rfl rfl (Nat.le_of_ble_eq_true rfl) ⟨(Nat.le_of_ble_eq_true rfl), (Nat.le_of_ble_eq_true rfl)⟩ ?_
              obtain ⟨R2, t2, g2⟩ := zRI_stG R1 hl hj Sp zpo_3 gp
              refine z_callv C rfl ⟨by decide, by decide⟩ zS_2 (c_stG (zKg_of C) hl hj Sp _ R1.1) rfl rfl (Nat.le_of_ble_eq_true rfl) ⟨(Nat.le_of_ble_eq_true rfl), (Nat.le_of_ble_eq_true rfl)⟩ ?_
              refine z_iconst C rfl ?_
              exact z_ireturnq C rfl he ⟨Nat.le_refl _, Nat.le_refl _⟩ rfl ⟨T, _, _, R2, zSt_le (zSt_tr zpoH_st t2) (by decide), zGk_tr zpoH_gk g2, rfl, fun e => absurd e (by decide)⟩
            · skip
              by_cases hs7 : (o).toInt ∈ ([111] : List Int)
              · skip
                refine z_lsE C _ hs7 rfl (by decide +kernel) (off := 240) (by decide +kernel) (tgt := 250) (by decide) ?_
                refine z_aloadn C rfl rfl ?_
                refine z_iload C rfl rfl ?_
                refine z_callvq C rfl ⟨by decide, by decide⟩ (by first | assumption | rfl | decide) (q_pushN (zKg_of C) hl _ R) rfl rfl (Nat.le_of_ble_eq_true rfl) ⟨Nat.le_of_ble_eq_true rfl, Nat.le_of_ble_eq_true rfl⟩ fun v1 g1 q1 => ?_
                obtain ⟨T1, s1, x1, R1, t1, g1, rfl, h91⟩ := q1
                exact z_ireturnq C rfl he ⟨Nat.le_refl _, Nat.le_refl _⟩ rfl ⟨T1, s1, _, R1, zSt_le t1 (by decide), g1, rfl, h91⟩
              · skip
                by_cases hs8 : (o).toInt ∈ ([102] : List Int)
                · skip
                  refine z_lsE C _ hs8 rfl (by decide +kernel) (off := 247) (by decide +kernel) (tgt := 257) (by decide) ?_
                  obtain ⟨j, hj, rfl⟩ := zwi (by decide) (zNf hs8 hNT)
                  have hsp : 1 ≤ s := hP 1 (by decide) (zp1f hs8)
                  refine z_aloadn C rfl rfl ?_
                  refine z_iload C rfl rfl ?_
                  refine z_iloadn C rfl rfl ?_
                  refine z_callvq C rfl ⟨by decide, by decide⟩ (by first | assumption | rfl | decide) (q_readF (zKg_of C) hl hj _ R hsp) rfl rfl (Nat.le_of_ble_eq_true rfl) ⟨Nat.le_of_ble_eq_true rfl, Nat.le_of_ble_eq_true rfl⟩ fun v2 g2 q2 => ?_
                  obtain ⟨T1, s1, x1, R1, t1, g1, rfl, h91⟩ := q2
                  exact z_ireturnq C rfl he ⟨Nat.le_refl _, Nat.le_refl _⟩ rfl ⟨T1, s1, _, R1, zSt_le t1 (by decide), g1, rfl, h91⟩
                · skip
                  by_cases hs9 : (o).toInt ∈ ([113] : List Int)
                  · skip
                    refine z_lsE C _ hs9 rfl (by decide +kernel) (off := 255) (by decide +kernel) (tgt := 265) (by decide) ?_
                    obtain ⟨j, hj, rfl⟩ := zwi (by decide) (zNq hs9 hNT)
                    have hsp : 2 ≤ s := hP 2 (by decide) (zp2q hs9)
                    refine z_aloadn C rfl rfl ?_
                    refine z_iload C rfl rfl ?_
                    refine z_iloadn C rfl rfl ?_
                    refine z_callvq C rfl ⟨by decide, by decide⟩ (by first | assumption | rfl | decide) (q_writeF (zKg_of C) hl hj _ R hsp) rfl rfl (Nat.le_of_ble_eq_true rfl) ⟨Nat.le_of_ble_eq_true rfl, Nat.le_of_ble_eq_true rfl⟩ fun v3 g3 q3 => ?_
                    obtain ⟨T1, s1, x1, R1, t1, g1, rfl, h91⟩ := q3
                    exact z_ireturnq C rfl he ⟨Nat.le_refl _, Nat.le_refl _⟩ rfl ⟨T1, s1, _, R1, zSt_le t1 (by decide), g1, rfl, h91⟩
                  · skip
                    by_cases hs10 : (o).toInt ∈ ([42, 43, 45, 47, 60, 61] : List Int)
                    · skip
                      refine z_lsE C _ hs10 rfl (by decide +kernel) (off := 263) (by decide +kernel) (tgt := 273) (by decide) ?_
                      have hsp : 2 ≤ s := hP 2 (by decide) (zp2c hs10)
                      refine z_aloadn C rfl rfl ?_
                      refine z_iload C rfl rfl ?_
                      refine z_iloadn C rfl rfl ?_
                      refine z_callvq C rfl ⟨by decide, by decide⟩ (by first | assumption | rfl | decide) (q_combine (zKg_of C) _ R hsp) rfl rfl (Nat.le_of_ble_eq_true rfl) ⟨Nat.le_of_ble_eq_true rfl, Nat.le_of_ble_eq_true rfl⟩ fun v4 g4 q4 => ?_
                      obtain ⟨T1, s1, x1, R1, t1, g1, rfl, h91⟩ := q4
                      exact z_ireturnq C rfl he ⟨Nat.le_refl _, Nat.le_refl _⟩ rfl ⟨T1, s1, _, R1, zSt_le t1 (by decide), g1, rfl, h91⟩
                    · skip
                      refine z_lsD C _ (znm hs1 (znm hs2 (znm hs3 (znm hs4 (znm hs5 (znm hs6 (znm hs7 (znm hs8 (znm hs9 (znm hs10 znm0)))))))))) rfl (by decide +kernel) (by decide +kernel) (tgt := 281) (by decide) ?_
                      refine z_bipush C rfl ?_
                      exact z_ireturnq C rfl he ⟨Nat.le_refl _, Nat.le_refl _⟩ rfl ⟨T, s, _, R, zSt_refl, zGk_refl, rfl, fun e => absurd e (by decide)⟩

set_option maxHeartbeats 400000 in
set_option maxRecDepth 20000 in
theorem q_moveOn {κ : zK} (hκ : zKg κ) {T s c f : Nat} {o n : Int32} (hf : f < 10) (h : zH) (R : zRI h T s (c + 1)) (ef : h.2.2.2 (781 + 6 * c) 0 = some (751 + 3 * f)) (hNT : zNT h (751 + 3 * f) o.toInt n = false) (hP : ∀ k, k ≤ 2 → zpops h o.toInt n = nI k → k ≤ s) : zRq κ 42 [zr (some 1), zr (some (781 + 6 * c)), zi o, zi n] h (zP1 h 2) 0 0 := by
  refine zRq_of hκ (by decide) (by decide +kernel) (Nat.le_of_ble_eq_true rfl) fun ω C hK he => ?_
  refine z_iloadn C rfl rfl ?_
  by_cases hs1 : (o).toInt ∈ ([122] : List Int)
  · skip
    refine z_tsE C _ hs1 rfl (by decide) (off := 111) (by decide +kernel) (tgt := 112) (by decide) ?_
    have hd := zRI_d R
    have h12 : c < 12 := by omega
    have hsp : 1 ≤ s := hP 1 (by decide) (zp1z hs1)
    refine z_aloadn C rfl rfl ?_
    refine z_gets C rfl zS_1 rfl (zstkF R.1) ?_
    have R1 := zRI_pop R
    have gp := zpo_gd R hsp
    have Sp := zpo_S (zRI_s R).2
    refine z_callv C rfl ⟨by decide, by decide⟩ zS_332 (c_pop (zKg_of C) (zRI_s R).2 _ R.1.1.1 (zRI_s R).1) rfl rfl (Nat.le_of_ble_eq_true rfl) ⟨(Nat.le_of_ble_eq_true rfl), (Nat.le_of_ble_eq_true rfl)⟩ ?_
    refine z_callv C rfl ⟨by decide, by decide⟩ Sp (c_isZ (zKg_of C) Sp _) rfl rfl (Nat.le_of_ble_eq_true rfl) ⟨(Nat.le_of_ble_eq_true rfl), (Nat.le_of_ble_eq_true rfl)⟩ ?_
    refine z_if C rfl (fun hc1 => ?_) (fun hc1 => ?_)
    · skip
      skip
      refine z_iconst C rfl ?_
      exact z_ireturnq C rfl he ⟨Nat.le_refl _, Nat.le_refl _⟩ rfl (by first | exact ⟨T, _, _, _, R2, zSt_le (zSt_tr zpoH_st zSt_C) (by decide), rfl, fun e => absurd e (by decide), Or.inl ((zGk_C h12).2.trans zpoH_gk.2)⟩ | exact ⟨T, _, _, _, R1, zSt_le zpoH_st (by decide), rfl, fun e => absurd e (by decide), Or.inl zpoH_gk.2⟩)
    · skip
      skip
      refine z_aloadn C rfl rfl ?_
      refine z_iloadn C rfl rfl ?_
      have R2 := zRI_C (j := 4) (x := n) R1 h12 (by decide)
      refine z_puti C rfl (zS_call c h12) rfl ⟨_, rfl⟩ ?_
      refine z_iconst C rfl ?_
      exact z_ireturnq C rfl he ⟨Nat.le_refl _, Nat.le_refl _⟩ rfl (by first | exact ⟨T, _, _, _, R2, zSt_le (zSt_tr zpoH_st zSt_C) (by decide), rfl, fun e => absurd e (by decide), Or.inl ((zGk_C h12).2.trans zpoH_gk.2)⟩ | exact ⟨T, _, _, _, R1, zSt_le zpoH_st (by decide), rfl, fun e => absurd e (by decide), Or.inl zpoH_gk.2⟩)
  · skip
    by_cases hs2 : (o).toInt ∈ ([106] : List Int)
    · skip
      refine z_tsE C _ hs2 rfl (by decide) (off := 131) (by decide +kernel) (tgt := 132) (by decide) ?_
      have hd := zRI_d R
      have h12 : c < 12 := by omega
      refine z_aloadn C rfl rfl ?_
      refine z_iloadn C rfl rfl ?_
      have R2 := zRI_C (j := 4) (x := n) R h12 (by decide)
      refine z_puti C rfl (zS_call c h12) rfl ⟨_, rfl⟩ ?_
      refine z_iconst C rfl ?_
      exact z_ireturnq C rfl he ⟨Nat.le_refl _, Nat.le_refl _⟩ rfl ⟨T, _, _, _, R2, zSt_le zSt_C (by decide), rfl, fun e => absurd e (by decide), Or.inl (zGk_C h12).2⟩
    · skip
      by_cases hs3 : (o).toInt ∈ ([99] : List Int)
      · skip
        refine z_tsE C _ hs3 rfl (by decide) (off := 138) (by decide +kernel) (tgt := 139) (by decide) ?_
        have hd := zRI_d R
        have h12 : c < 12 := by omega
        obtain ⟨fc, hfc, efc⟩ := R.2.2.1.2.1
        have hwi := zNc hs3 hNT
        have epo := zpsc (g := h) (n := n) hs3
        rw [if_pos hwi] at epo
        rw [efc] at hwi
        obtain ⟨j, hj, rfl⟩ := zwi (n := fc) (by omega) hwi
        rw [nI_clamp (by omega)] at epo
        obtain ⟨p, hp2, ep⟩ := (R.2.2.1.1 j (by omega)).2.1
        have hps : p ≤ s := hP p hp2 (epo.trans ep)
        refine z_aloadn C rfl rfl ?_
        refine z_aloadn C rfl rfl ?_
        refine z_gets C rfl (zS_call c h12) rfl ef ?_
        refine z_geti C rfl (zS_fun f hf) rfl ?_
        refine z_iloadn C rfl rfl ?_
        refine z_callvq C rfl ⟨by decide, by decide⟩ (by first | assumption | rfl | decide) (q_enter (zKg_of C) (show j < 9 by omega) hp2 hps _ R ep) rfl rfl (Nat.le_of_ble_eq_true rfl) ⟨Nat.le_of_ble_eq_true rfl, Nat.le_of_ble_eq_true rfl⟩ fun v2 g2 q2 => ?_
        obtain ⟨T1, s1, d1, x1, R2, t1, rfl, h91, ho1⟩ := q2
        exact z_ireturnq C rfl he ⟨Nat.le_refl _, Nat.le_refl _⟩ rfl ⟨T1, s1, d1, _, R2, t1, rfl, h91, ho1⟩
      · skip
        by_cases hs4 : (o).toInt ∈ ([114] : List Int)
        · skip
          refine z_tsE C _ hs4 rfl (by decide) (off := 151) (by decide +kernel) (tgt := 152) (by decide) ?_
          have hsp : 1 ≤ s := hP 1 (by decide) (zp1r hs4)
          refine z_aloadn C rfl rfl ?_
          refine z_gets C rfl zS_1 rfl (zcarF R.1) ?_
          refine z_aloadn C rfl rfl ?_
          refine z_gets C rfl zS_1 rfl (zstkF R.1) ?_
          have R1 := zRI_pop R
          have gp := zpo_gd R hsp
          have Sp := zpo_S (zRI_s R).2
          refine z_callv C rfl ⟨by decide, by decide⟩ zS_332 (c_pop (zKg_of C) (zRI_s R).2 _ R.1.1.1 (zRI_s R).1) rfl rfl (Nat.le_of_ble_eq_true rfl) ⟨(Nat.le_of_ble_eq_true rfl), (Nat.le_of_ble_eq_true rfl)⟩ ?_
          have v := zV_cp R1.1 R1.2.1 zS_748 Sp gp
          have R2 := zRI_vw R1 zS_748 (by decide) v
          refine z_callv C rfl ⟨by decide, by decide⟩ zS_748 (c_become (zKg_of C) zS_748 Sp _ R1.1.2) rfl rfl (Nat.le_of_ble_eq_true rfl) ⟨(Nat.le_of_ble_eq_true rfl), (Nat.le_of_ble_eq_true rfl)⟩ ?_
          refine z_aloadn C rfl rfl ?_
          refine z_aloadn C rfl rfl ?_
          refine z_callvq C rfl ⟨by decide, by decide⟩ (by first | assumption | rfl | decide) (q_endC (zKg_of C) _ R2 v.2.2.2) rfl rfl (Nat.le_of_ble_eq_true rfl) ⟨Nat.le_of_ble_eq_true rfl, Nat.le_of_ble_eq_true rfl⟩ fun v3 g3 q3 => ?_
          obtain ⟨T1, s1, d1, x1, R3, t1, rfl, h91, ho1⟩ := q3
          exact z_ireturnq C rfl he ⟨Nat.le_refl _, Nat.le_refl _⟩ rfl ⟨T1, s1, d1, _, R3, zSt_le (zSt_tr zpoH_st (zSt_tr (zSt_vw zS_748 v) t1)) (by decide), rfl, fun e => absurd e h91, ho1.elim (fun q => Or.inl (q.1.trans ((zGk_vw zS_748 v).2.trans zpoH_gk.2))) Or.inr⟩
        · skip
          by_cases hs5 : (o).toInt ∈ ([116] : List Int)
          · skip
            refine z_tsE C _ hs5 rfl (by decide) (off := 171) (by decide +kernel) (tgt := 172) (by decide) ?_
            have hsp : 1 ≤ s := hP 1 (by decide) (zp1t hs5)
            refine z_aloadn C rfl rfl ?_
            refine z_gets C rfl zS_1 rfl (zthrF R.1) ?_
            refine z_aloadn C rfl rfl ?_
            refine z_gets C rfl zS_1 rfl (zstkF R.1) ?_
            have R1 := zRI_pop R
            have gp := zpo_gd R hsp
            have Sp := zpo_S (zRI_s R).2
            refine z_callv C rfl ⟨by decide, by decide⟩ zS_332 (c_pop (zKg_of C) (zRI_s R).2 _ R.1.1.1 (zRI_s R).1) rfl rfl (Nat.le_of_ble_eq_true rfl) ⟨(Nat.le_of_ble_eq_true rfl), (Nat.le_of_ble_eq_true rfl)⟩ ?_
            have v := zV_cp R1.1 R1.2.1 zS_749 Sp gp
            have R2 := zRI_vw R1 zS_749 (by decide) v
            refine z_callv C rfl ⟨by decide, by decide⟩ zS_749 (c_become (zKg_of C) zS_749 Sp _ R1.1.2) rfl rfl (Nat.le_of_ble_eq_true rfl) ⟨(Nat.le_of_ble_eq_true rfl), (Nat.le_of_ble_eq_true rfl)⟩ ?_
            refine z_bipush C rfl ?_
            exact z_ireturnq C rfl he ⟨Nat.le_refl _, Nat.le_refl _⟩ rfl ⟨T, _, _, _, R2, zSt_le (zSt_tr zpoH_st (zSt_vw zS_749 v)) (by decide), rfl, fun _ => v.2.2.2, Or.inl ((zGk_vw zS_749 v).2.trans zpoH_gk.2)⟩
          · skip
            by_cases hs6 : (o).toInt ∈ ([107] : List Int)
            · skip
              refine z_tsE C _ hs6 rfl (by decide) (off := 188) (by decide +kernel) (tgt := 189) (by decide) ?_
              have hd := zRI_d R
              have h12 : c < 12 := by omega
              refine z_aloadn C rfl rfl ?_
              refine z_gets C rfl zS_1 rfl (zstkF R.1) ?_
              refine z_callv C rfl ⟨by decide, by decide⟩ zS_332 (c_push (zKg_of C) (zRI_s R).2 _ R.1.1.1 (zRI_s R).1) rfl rfl (Nat.le_of_ble_eq_true rfl) ⟨(Nat.le_of_ble_eq_true rfl), (Nat.le_of_ble_eq_true rfl)⟩ ?_
              refine z_aloadn C rfl rfl ?_
              refine z_getj C rfl (zS_call c h12) rfl ?_
              refine z_iloadn C rfl rfl ?_
              have v := zV_esc (x := (zpuH h s).2.1 (781 + 6 * c) 2) (p := n) (zpuH_wk (s := s) R.1) (zpuH_nn (s := s) R.2.1) (zpu_S s)
              obtain ⟨T1, s1, R2⟩ := zRI_push R v
              refine z_callv C rfl ⟨by decide, by decide⟩ (zpu_S s) (c_becomeEscape (zKg_of C) (zpu_S s) _) rfl rfl (Nat.le_of_ble_eq_true rfl) ⟨(Nat.le_of_ble_eq_true rfl), (Nat.le_of_ble_eq_true rfl)⟩ ?_
              refine z_iconst C rfl ?_
              exact z_ireturnq C rfl he ⟨Nat.le_refl _, Nat.le_refl _⟩ rfl ⟨T1, s1, _, _, R2, zSt_le (zpush_st v).1 (by decide), rfl, fun e => absurd e (by decide), Or.inl (zpush_st v).2.2⟩
            · skip
              by_cases hs7 : (o).toInt ∈ ([101] : List Int)
              · skip
                refine z_tsE C _ hs7 rfl (by decide) (off := 205) (by decide +kernel) (tgt := 206) (by decide) ?_
                have hsp : 2 ≤ s := hP 2 (by decide) (zp2e hs7)
                refine z_aloadn C rfl rfl ?_
                refine z_callvq C rfl ⟨by decide, by decide⟩ (by first | assumption | rfl | decide) (q_escape (zKg_of C) _ R hsp) rfl rfl (Nat.le_of_ble_eq_true rfl) ⟨Nat.le_of_ble_eq_true rfl, Nat.le_of_ble_eq_true rfl⟩ fun v4 g4 q4 => ?_
                obtain ⟨T1, s1, d1, x1, R2, t1, rfl, h91, ho1⟩ := q4
                exact z_ireturnq C rfl he ⟨Nat.le_refl _, Nat.le_refl _⟩ rfl ⟨T1, s1, d1, _, R2, zSt_le t1 (by decide), rfl, h91, ho1⟩
              · skip
                refine z_tsD C _ (znm hs1 (znm hs2 (znm hs3 (znm hs4 (znm hs5 (znm hs6 (znm hs7 znm0))))))) rfl (by decide) (by decide +kernel) (tgt := 211) (by decide) ?_
                refine z_bipush C rfl ?_
                exact z_ireturnq C rfl he ⟨Nat.le_refl _, Nat.le_refl _⟩ rfl ⟨T, s, _, _, R, zSt_refl, rfl, fun e => absurd e (by decide), Or.inl rfl⟩

