/-! addFunction, trace, results -/
set_option maxHeartbeats 400000 in
set_option maxRecDepth 20000 in
theorem c_trace {κ : zK} (hκ : zKg κ)  (h : zH) (hw : zWk h) (hx : h.1 1 9 = 120) : zRet κ 97 [zr (some 0)] h (some (zi (h.1 1 15))) h 0 0 := by
  refine zRet_of hκ (by decide) (by decide +kernel) (Nat.le_of_ble_eq_true rfl) fun ω C hK he => ?_
  refine z_aloadn C rfl rfl ?_
  refine z_callv C rfl ⟨by decide, by decide⟩ zS_0 (c_reqT (zKg_of C) _ hw hx) rfl rfl (Nat.le_of_ble_eq_true rfl) ⟨(Nat.le_of_ble_eq_true rfl), (Nat.le_of_ble_eq_true rfl)⟩ ?_
  refine z_aloadn C rfl rfl ?_
  refine z_gets C rfl zS_0 rfl hw.1.1.1.1 ?_
  refine z_geti C rfl zS_1 rfl ?_
  exact z_ireturn C rfl he ⟨Nat.le_refl _, Nat.le_refl _⟩ rfl

set_option maxHeartbeats 400000 in
set_option maxRecDepth 20000 in
theorem t_trace {κ : zK} (hκ : zKg κ)  (h : zH) (hw : zWk h) (hx : ¬ h.1 1 9 = 120) : zThr κ 97 [zr (some 0)] h 2 h 1 6 := by
  refine zThr_of hκ (by decide) (by decide +kernel) (Nat.le_of_ble_eq_true rfl) fun ω C hK he => ?_
  refine z_aloadn C rfl rfl ?_
  exact z_callvX C rfl ⟨by decide, by decide⟩ zS_0 (by decide +kernel) he (t_reqT (zKg_of C) _ hw hx) rfl rfl (Nat.le_of_ble_eq_true rfl) ⟨(Nat.le_of_ble_eq_true rfl), (Nat.le_of_ble_eq_true rfl)⟩

set_option maxHeartbeats 400000 in
set_option maxRecDepth 20000 in
theorem c_thrownIn {κ : zK} (hκ : zKg κ)  (h : zH) (hw : zWk h) (hx : h.1 1 9 = 120) : zRet κ 99 [zr (some 0)] h (some (zi (h.1 1 13))) h 0 0 := by
  refine zRet_of hκ (by decide) (by decide +kernel) (Nat.le_of_ble_eq_true rfl) fun ω C hK he => ?_
  refine z_aloadn C rfl rfl ?_
  refine z_callv C rfl ⟨by decide, by decide⟩ zS_0 (c_reqT (zKg_of C) _ hw hx) rfl rfl (Nat.le_of_ble_eq_true rfl) ⟨(Nat.le_of_ble_eq_true rfl), (Nat.le_of_ble_eq_true rfl)⟩ ?_
  refine z_aloadn C rfl rfl ?_
  refine z_gets C rfl zS_0 rfl hw.1.1.1.1 ?_
  refine z_geti C rfl zS_1 rfl ?_
  exact z_ireturn C rfl he ⟨Nat.le_refl _, Nat.le_refl _⟩ rfl

set_option maxHeartbeats 400000 in
set_option maxRecDepth 20000 in
theorem t_thrownIn {κ : zK} (hκ : zKg κ)  (h : zH) (hw : zWk h) (hx : ¬ h.1 1 9 = 120) : zThr κ 99 [zr (some 0)] h 2 h 1 6 := by
  refine zThr_of hκ (by decide) (by decide +kernel) (Nat.le_of_ble_eq_true rfl) fun ω C hK he => ?_
  refine z_aloadn C rfl rfl ?_
  exact z_callvX C rfl ⟨by decide, by decide⟩ zS_0 (by decide +kernel) he (t_reqT (zKg_of C) _ hw hx) rfl rfl (Nat.le_of_ble_eq_true rfl) ⟨(Nat.le_of_ble_eq_true rfl), (Nat.le_of_ble_eq_true rfl)⟩

set_option maxHeartbeats 400000 in
set_option maxRecDepth 20000 in
theorem c_traceAt {κ : zK} (hκ : zKg κ) {j : Nat} (hj : j < 24) (h : zH) (hw : zWk h) (hx : h.1 1 9 = 120) (hi : zwithin (nI j) (h.1 1 15) = true) : zRet κ 98 [zr (some 0), zi (nI j)] h (some (zi (h.1 750 j))) h 0 0 := by
  refine zRet_of hκ (by decide) (by decide +kernel) (Nat.le_of_ble_eq_true rfl) fun ω C hK he => ?_
  refine z_aloadn C rfl rfl ?_
  refine z_callv C rfl ⟨by decide, by decide⟩ zS_0 (c_reqT (zKg_of C) _ hw hx) rfl rfl (Nat.le_of_ble_eq_true rfl) ⟨(Nat.le_of_ble_eq_true rfl), (Nat.le_of_ble_eq_true rfl)⟩ ?_
  refine z_iloadn C rfl rfl ?_
  refine z_aloadn C rfl rfl ?_
  refine z_gets C rfl zS_0 rfl hw.1.1.1.1 ?_
  refine z_geti C rfl zS_1 rfl ?_
  refine z_calls C rfl ⟨by decide, by decide, by decide⟩ (c_reqI (zKg_of C) hi _) rfl rfl (Nat.le_of_ble_eq_true rfl) ⟨(Nat.le_of_ble_eq_true rfl), (Nat.le_of_ble_eq_true rfl)⟩ ?_
  refine z_aloadn C rfl rfl ?_
  refine z_gets C rfl zS_0 rfl hw.1.1.1.1 ?_
  refine z_gets C rfl zS_1 rfl hw.1.1.2.1.2.2.2.2.2.2.2 ?_
  refine z_iloadn C rfl rfl ?_
  refine z_iald C rfl zS_750 (zin hj (by decide)) ?_
  rw [zclamp hj (by decide)]
  exact z_ireturn C rfl he ⟨Nat.le_refl _, Nat.le_refl _⟩ rfl

set_option maxHeartbeats 400000 in
set_option maxRecDepth 20000 in
theorem t_traceAt1 {κ : zK} (hκ : zKg κ) {x : Int32} (h : zH) (hw : zWk h) (hx : ¬ h.1 1 9 = 120) : zThr κ 98 [zr (some 0), zi x] h 2 h 1 6 := by
  refine zThr_of hκ (by decide) (by decide +kernel) (Nat.le_of_ble_eq_true rfl) fun ω C hK he => ?_
  refine z_aloadn C rfl rfl ?_
  exact z_callvX C rfl ⟨by decide, by decide⟩ zS_0 (by decide +kernel) he (t_reqT (zKg_of C) _ hw hx) rfl rfl (Nat.le_of_ble_eq_true rfl) ⟨(Nat.le_of_ble_eq_true rfl), (Nat.le_of_ble_eq_true rfl)⟩

set_option maxHeartbeats 400000 in
set_option maxRecDepth 20000 in
theorem t_traceAt2 {κ : zK} (hκ : zKg κ) {x : Int32} (h : zH) (hw : zWk h) (hx : h.1 1 9 = 120) (hi : zwithin x (h.1 1 15) = false) : zThr κ 98 [zr (some 0), zi x] h 4 h 1 6 := by
  refine zThr_of hκ (by decide) (by decide +kernel) (Nat.le_of_ble_eq_true rfl) fun ω C hK he => ?_
  refine z_aloadn C rfl rfl ?_
  refine z_callv C rfl ⟨by decide, by decide⟩ zS_0 (c_reqT (zKg_of C) _ hw hx) rfl rfl (Nat.le_of_ble_eq_true rfl) ⟨(Nat.le_of_ble_eq_true rfl), (Nat.le_of_ble_eq_true rfl)⟩ ?_
  refine z_iloadn C rfl rfl ?_
  refine z_aloadn C rfl rfl ?_
  refine z_gets C rfl zS_0 rfl hw.1.1.1.1 ?_
  refine z_geti C rfl zS_1 rfl ?_
  exact z_callsX C rfl ⟨by decide, by decide, by decide⟩ (by decide +kernel) he (t_requireIndex (zKg_of C) hi _) rfl rfl (Nat.le_of_ble_eq_true rfl) ⟨(Nat.le_of_ble_eq_true rfl), (Nat.le_of_ble_eq_true rfl)⟩

set_option maxHeartbeats 400000 in
set_option maxRecDepth 20000 in
theorem c_addF2 {κ : zK} (hκ : zKg κ) {x y : Int32} {n : Nat} (hn9 : n < 9) (h1 : zwithin x (Int32.ofInt (Int.ofNat 3)) = true) (h2 : zwithin y (Int32.ofInt (Int.ofNat 3)) = true) (h : zH) (hw : zWk h) (hn : h.1 1 2 = nI n) : zRet κ 90 [zr (some 0), zi x, zi y] h (some (zi (nI n))) (znfn h n x y) 0 0 := by
  refine zRet_of hκ (by decide) (by decide +kernel) (Nat.le_of_ble_eq_true rfl) fun ω C hK he => ?_
  refine z_iloadn C rfl rfl ?_
  refine z_iconst C rfl ?_
  refine z_calls C rfl ⟨by decide, by decide, by decide⟩ (c_isWithin (zKg_of C) _) rfl rfl (Nat.le_of_ble_eq_true rfl) ⟨(Nat.le_of_ble_eq_true rfl), (Nat.le_of_ble_eq_true rfl)⟩ ?_
  rw [h1]
  refine z_if C rfl (fun hc1 => ?_) (fun hc1 => ?_)
  · skip
    skip
    first | exact absurd znt hc2 | exact absurd hc1 znt
  · skip
    skip
    refine z_iloadn C rfl rfl ?_
    refine z_iconst C rfl ?_
    refine z_calls C rfl ⟨by decide, by decide, by decide⟩ (c_isWithin (zKg_of C) _) rfl rfl (Nat.le_of_ble_eq_true rfl) ⟨(Nat.le_of_ble_eq_true rfl), (Nat.le_of_ble_eq_true rfl)⟩ ?_
    rw [h2]
    refine z_if C rfl (fun hc2 => ?_) (fun hc2 => ?_)
    · skip
      skip
      refine z_aloadn C rfl rfl ?_
      refine z_gets C rfl zS_0 rfl hw.1.1.1.1 ?_
      refine z_geti C rfl zS_1 rfl ?_
      rw [hn]
      refine z_bipush C rfl ?_
      refine z_icmp C rfl (fun hc3 => ?_) (fun hc3 => ?_)
      · skip
        skip
        refine z_aloadn C rfl rfl ?_
        refine z_gets C rfl zS_0 rfl hw.1.1.1.1 ?_
        refine z_iloadn C rfl rfl ?_
        refine z_iloadn C rfl rfl ?_
        refine z_callv C rfl ⟨by decide, by decide⟩ zS_1 (c_newF (zKg_of C) (Nat.le_of_lt hn9) _ hw hn) rfl rfl (Nat.le_of_ble_eq_true rfl) ⟨(Nat.le_of_ble_eq_true rfl), (Nat.le_of_ble_eq_true rfl)⟩ ?_
        exact z_ireturn C rfl he ⟨Nat.le_refl _, Nat.le_refl _⟩ rfl
      · skip
        skip
        exact absurd (nI_lt hn9 (by decide)) hc3
    · skip
      skip
      first | exact absurd znt hc2 | exact absurd hc1 znt

