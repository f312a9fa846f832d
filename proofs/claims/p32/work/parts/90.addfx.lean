/-! addFunction's throws -/
set_option maxHeartbeats 400000 in
set_option maxRecDepth 20000 in
theorem t_addF1 {κ : zK} (hκ : zKg κ) {x y : Int32} (h1 : zwithin x (Int32.ofInt (Int.ofNat 3)) = false) (h : zH) : zThr κ 90 [zr (some 0), zi x, zi y] h 0 h 1 6 := by
  refine zThr_of hκ (by decide) (by decide +kernel) (Nat.le_of_ble_eq_true rfl) fun ω C hK he => ?_
  refine z_iloadn C rfl rfl ?_
  refine z_iconst C rfl ?_
  refine z_calls C rfl ⟨by decide, by decide, by decide⟩ (c_isWithin (zKg_of C) _) rfl rfl (Nat.le_of_ble_eq_true rfl) ⟨(Nat.le_of_ble_eq_true rfl), (Nat.le_of_ble_eq_true rfl)⟩ ?_
  rw [h1]
  refine z_if C rfl (fun hc1 => ?_) (fun hc1 => ?_)
  · skip
    skip
    exact z_throw C (i := 32) (E := 0) (by decide +kernel) (by decide +kernel) (by decide +kernel) he (Nat.le_of_ble_eq_true rfl) ⟨Nat.le_refl _, Nat.le_refl _⟩
  · skip
    skip
    exact absurd rfl hc1

set_option maxHeartbeats 400000 in
set_option maxRecDepth 20000 in
theorem t_addF2 {κ : zK} (hκ : zKg κ) {x y : Int32} (h1 : zwithin x (Int32.ofInt (Int.ofNat 3)) = true) (h2 : zwithin y (Int32.ofInt (Int.ofNat 3)) = false) (h : zH) : zThr κ 90 [zr (some 0), zi x, zi y] h 0 h 1 6 := by
  refine zThr_of hκ (by decide) (by decide +kernel) (Nat.le_of_ble_eq_true rfl) fun ω C hK he => ?_
  refine z_iloadn C rfl rfl ?_
  refine z_iconst C rfl ?_
  refine z_calls C rfl ⟨by decide, by decide, by decide⟩ (c_isWithin (zKg_of C) _) rfl rfl (Nat.le_of_ble_eq_true rfl) ⟨(Nat.le_of_ble_eq_true rfl), (Nat.le_of_ble_eq_true rfl)⟩ ?_
  rw [h1]
  refine z_if C rfl (fun hc1 => ?_) (fun hc1 => ?_)
  · skip
    skip
    first | exact absurd hc1 znt | exact z_throw C (i := 32) (E := 0) (by decide +kernel) (by decide +kernel) (by decide +kernel) he (Nat.le_of_ble_eq_true rfl) ⟨Nat.le_refl _, Nat.le_refl _⟩
  · skip
    skip
    refine z_iloadn C rfl rfl ?_
    refine z_iconst C rfl ?_
    refine z_calls C rfl ⟨by decide, by decide, by decide⟩ (c_isWithin (zKg_of C) _) rfl rfl (Nat.le_of_ble_eq_true rfl) ⟨(Nat.le_of_ble_eq_true rfl), (Nat.le_of_ble_eq_true rfl)⟩ ?_
    rw [h2]
    refine z_if C rfl (fun hc2 => ?_) (fun hc2 => ?_)
    · skip
      skip
      exact absurd rfl hc2
    · skip
      skip
      first | exact absurd hc1 znt | exact z_throw C (i := 32) (E := 0) (by decide +kernel) (by decide +kernel) (by decide +kernel) he (Nat.le_of_ble_eq_true rfl) ⟨Nat.le_refl _, Nat.le_refl _⟩

set_option maxHeartbeats 400000 in
set_option maxRecDepth 20000 in
theorem t_addF3 {κ : zK} (hκ : zKg κ) {x y : Int32} (h1 : zwithin x (Int32.ofInt (Int.ofNat 3)) = true) (h2 : zwithin y (Int32.ofInt (Int.ofNat 3)) = true) (h : zH) (hw : zWk h) (hn : h.1 1 2 = nI 9) : zThr κ 90 [zr (some 0), zi x, zi y] h 5 h 1 6 := by
  refine zThr_of hκ (by decide) (by decide +kernel) (Nat.le_of_ble_eq_true rfl) fun ω C hK he => ?_
  refine z_iloadn C rfl rfl ?_
  refine z_iconst C rfl ?_
  refine z_calls C rfl ⟨by decide, by decide, by decide⟩ (c_isWithin (zKg_of C) _) rfl rfl (Nat.le_of_ble_eq_true rfl) ⟨(Nat.le_of_ble_eq_true rfl), (Nat.le_of_ble_eq_true rfl)⟩ ?_
  rw [h1]
  refine z_if C rfl (fun hc1 => ?_) (fun hc1 => ?_)
  · skip
    skip
    first | exact absurd znt hc2 | exact absurd hc1 znt
  · skip
    skip
    refine z_iloadn C rfl rfl ?_
    refine z_iconst C rfl ?_
    refine z_calls C rfl ⟨by decide, by decide, by decide⟩ (c_isWithin (zKg_of C) _) rfl rfl (Nat.le_of_ble_eq_true rfl) ⟨(Nat.le_of_ble_eq_true rfl), (Nat.le_of_ble_eq_true rfl)⟩ ?_
    rw [h2]
    refine z_if C rfl (fun hc2 => ?_) (fun hc2 => ?_)
    · skip
      skip
      refine z_aloadn C rfl rfl ?_
      refine z_gets C rfl zS_0 rfl hw.1.1.1.1 ?_
      refine z_geti C rfl zS_1 rfl ?_
      rw [hn]
      refine z_bipush C rfl ?_
      refine z_icmp C rfl (fun hc3 => ?_) (fun hc3 => ?_)
      · skip
        skip
        exact absurd hc3 (nI_nlt (Nat.le_refl _) (by decide))
      · skip
        skip
        exact z_throw C (i := 43) (E := 5) (by decide +kernel) (by decide +kernel) (by decide +kernel) he (Nat.le_of_ble_eq_true rfl) ⟨Nat.le_refl _, Nat.le_refl _⟩
    · skip
      skip
      first | exact absurd znt hc2 | exact absurd hc1 znt

