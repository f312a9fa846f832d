/-! make, throwing faces -/
def zokG (x y : Int32) : Bool := zwithin x (Int32.ofInt (Int.ofNat 3)) && zwithin y (Int32.ofInt (Int.ofNat 8))
theorem t_reqG {κ : zK} (hκ : zKg κ) {x y : Int32} (hb : zokG x y = false) (h : zH) : zThr κ 121 [zi x, zi y] h 4 h 1 6 := by
  unfold zokG at hb
  cases h3 : zwithin x (Int32.ofInt (Int.ofNat 3)) with
  | false => exact t_reqG1 hκ h3 h
  | true =>
    rw [h3] at hb
    exact t_reqG2 hκ h3 hb h
theorem c_okG {κ : zK} (hκ : zKg κ) {x y : Int32} (hb : zokG x y = true) (h : zH) : zRet κ 121 [zi x, zi y] h none h 0 0 := by
  unfold zokG at hb
  rw [Bool.and_eq_true] at hb
  exact c_reqG hκ hb.1 hb.2 h
def zmk4 (h : zH) (l g r : Nat) : zH := zstG (zbRef (znw h (nI l) 60 0).2 853 (30 + 5 * r)) l g 853

set_option maxHeartbeats 400000 in
set_option maxRecDepth 20000 in
theorem t_setG {κ : zK} (hκ : zKg κ) {x y z : Int32} (hb : zokG x y = false) (h : zH) : zThr κ 100 [zr (some 0), zi x, zi y, zi z] h 4 h 1 6 := by
  refine zThr_of hκ (by decide) (by decide +kernel) (Nat.le_of_ble_eq_true rfl) fun ω C hK he => ?_
  refine z_iloadn C rfl rfl ?_
  refine z_iloadn C rfl rfl ?_
  exact z_callsX C rfl ⟨by decide, by decide, by decide⟩ (by decide +kernel) he (t_reqG (zKg_of C) hb _) rfl rfl (Nat.le_of_ble_eq_true rfl) ⟨(Nat.le_of_ble_eq_true rfl), (Nat.le_of_ble_eq_true rfl)⟩

set_option maxHeartbeats 400000 in
set_option maxRecDepth 20000 in
theorem t_make1 {κ : zK} (hκ : zKg κ) {x y : Int32} (hb : zokG x y = false) (h : zH) : zThr κ 101 [zr (some 0), zi x, zi y] h 4 h 1 6 := by
  refine zThr_of hκ (by decide) (by decide +kernel) (Nat.le_of_ble_eq_true rfl) fun ω C hK he => ?_
  refine z_iloadn C rfl rfl ?_
  refine z_iloadn C rfl rfl ?_
  exact z_callsX C rfl ⟨by decide, by decide, by decide⟩ (by decide +kernel) he (t_reqG (zKg_of C) hb _) rfl rfl (Nat.le_of_ble_eq_true rfl) ⟨(Nat.le_of_ble_eq_true rfl), (Nat.le_of_ble_eq_true rfl)⟩

set_option maxHeartbeats 400000 in
set_option maxRecDepth 20000 in
theorem t_pass1 {κ : zK} (hκ : zKg κ) {x y z w : Int32} (hb : zokG x y = false) (h : zH) : zThr κ 102 [zr (some 0), zi x, zi y, zi z, zi w] h 4 h 1 6 := by
  refine zThr_of hκ (by decide) (by decide +kernel) (Nat.le_of_ble_eq_true rfl) fun ω C hK he => ?_
  refine z_iloadn C rfl rfl ?_
  refine z_iloadn C rfl rfl ?_
  exact z_callsX C rfl ⟨by decide, by decide, by decide⟩ (by decide +kernel) he (t_reqG (zKg_of C) hb _) rfl rfl (Nat.le_of_ble_eq_true rfl) ⟨(Nat.le_of_ble_eq_true rfl), (Nat.le_of_ble_eq_true rfl)⟩

set_option maxHeartbeats 400000 in
set_option maxRecDepth 20000 in
theorem t_pass2 {κ : zK} (hκ : zKg κ) {x y z w : Int32} (ha : zokG x y = true) (hb : zokG z w = false) (h : zH) : zThr κ 102 [zr (some 0), zi x, zi y, zi z, zi w] h 4 h 1 6 := by
  refine zThr_of hκ (by decide) (by decide +kernel) (Nat.le_of_ble_eq_true rfl) fun ω C hK he => ?_
  refine z_iloadn C rfl rfl ?_
  refine z_iloadn C rfl rfl ?_
  refine z_calls C rfl ⟨by decide, by decide, by decide⟩ (c_okG (zKg_of C) ha _) rfl rfl (Nat.le_of_ble_eq_true rfl) ⟨(Nat.le_of_ble_eq_true rfl), (Nat.le_of_ble_eq_true rfl)⟩ ?_
  refine z_iloadn C rfl rfl ?_
  refine z_iload C rfl rfl ?_
  exact z_callsX C rfl ⟨by decide, by decide, by decide⟩ (by decide +kernel) he (t_reqG (zKg_of C) hb _) rfl rfl (Nat.le_of_ble_eq_true rfl) ⟨(Nat.le_of_ble_eq_true rfl), (Nat.le_of_ble_eq_true rfl)⟩

set_option maxHeartbeats 400000 in
set_option maxRecDepth 20000 in
theorem t_put1 {κ : zK} (hκ : zKg κ) {x y z w : Int32} (hb : zokG x y = false) (h : zH) : zThr κ 103 [zr (some 0), zi x, zi y, zi z, zi w] h 4 h 1 6 := by
  refine zThr_of hκ (by decide) (by decide +kernel) (Nat.le_of_ble_eq_true rfl) fun ω C hK he => ?_
  refine z_iloadn C rfl rfl ?_
  refine z_iloadn C rfl rfl ?_
  exact z_callsX C rfl ⟨by decide, by decide, by decide⟩ (by decide +kernel) he (t_reqG (zKg_of C) hb _) rfl rfl (Nat.le_of_ble_eq_true rfl) ⟨(Nat.le_of_ble_eq_true rfl), (Nat.le_of_ble_eq_true rfl)⟩

set_option maxHeartbeats 400000 in
set_option maxRecDepth 20000 in
theorem t_put2 {κ : zK} (hκ : zKg κ) {x y z w : Int32} (ha : zokG x y = true) (hb : zokG x w = false) (h : zH) : zThr κ 103 [zr (some 0), zi x, zi y, zi z, zi w] h 4 h 1 6 := by
  refine zThr_of hκ (by decide) (by decide +kernel) (Nat.le_of_ble_eq_true rfl) fun ω C hK he => ?_
  refine z_iloadn C rfl rfl ?_
  refine z_iloadn C rfl rfl ?_
  refine z_calls C rfl ⟨by decide, by decide, by decide⟩ (c_okG (zKg_of C) ha _) rfl rfl (Nat.le_of_ble_eq_true rfl) ⟨(Nat.le_of_ble_eq_true rfl), (Nat.le_of_ble_eq_true rfl)⟩ ?_
  refine z_iloadn C rfl rfl ?_
  refine z_iload C rfl rfl ?_
  exact z_callsX C rfl ⟨by decide, by decide, by decide⟩ (by decide +kernel) he (t_reqG (zKg_of C) hb _) rfl rfl (Nat.le_of_ble_eq_true rfl) ⟨(Nat.le_of_ble_eq_true rfl), (Nat.le_of_ble_eq_true rfl)⟩

set_option maxHeartbeats 400000 in
set_option maxRecDepth 20000 in
theorem t_put3 {κ : zK} (hκ : zKg κ) {x y z w : Int32} (ha : zokG x y = true) (hb : zokG x w = true) (hc : zwithin z (Int32.ofInt (Int.ofNat 3)) = false) (h : zH) : zThr κ 103 [zr (some 0), zi x, zi y, zi z, zi w] h 4 h 1 6 := by
  refine zThr_of hκ (by decide) (by decide +kernel) (Nat.le_of_ble_eq_true rfl) fun ω C hK he => ?_
  refine z_iloadn C rfl rfl ?_
  refine z_iloadn C rfl rfl ?_
  refine z_calls C rfl ⟨by decide, by decide, by decide⟩ (c_okG (zKg_of C) ha _) rfl rfl (Nat.le_of_ble_eq_true rfl) ⟨(Nat.le_of_ble_eq_true rfl), (Nat.le_of_ble_eq_true rfl)⟩ ?_
  refine z_iloadn C rfl rfl ?_
  refine z_iload C rfl rfl ?_
  refine z_calls C rfl ⟨by decide, by decide, by decide⟩ (c_okG (zKg_of C) hb _) rfl rfl (Nat.le_of_ble_eq_true rfl) ⟨(Nat.le_of_ble_eq_true rfl), (Nat.le_of_ble_eq_true rfl)⟩ ?_
  refine z_iloadn C rfl rfl ?_
  refine z_iconst C rfl ?_
  exact z_callsX C rfl ⟨by decide, by decide, by decide⟩ (by decide +kernel) he (t_requireIndex (zKg_of C) hc _) rfl rfl (Nat.le_of_ble_eq_true rfl) ⟨(Nat.le_of_ble_eq_true rfl), (Nat.le_of_ble_eq_true rfl)⟩

set_option maxHeartbeats 400000 in
set_option maxRecDepth 20000 in
theorem t_put4 {κ : zK} (hκ : zKg κ) {l g : Nat} {z w : Int32} (hl : l < 3) (hg : g < 8) (hb : zokG (nI l) w = true) (hc : zwithin z (Int32.ofInt (Int.ofNat 3)) = true) (h : zH) (hw : zWk h) (hre : zisRef h (6 + (8 * l + g)) = false) : zThr κ 103 [zr (some 0), zi (nI l), zi (nI g), zi z, zi w] h 3 h 1 6 := by
  refine zThr_of hκ (by decide) (by decide +kernel) (Nat.le_of_ble_eq_true rfl) fun ω C hK he => ?_
  refine z_iloadn C rfl rfl ?_
  refine z_iloadn C rfl rfl ?_
  refine z_calls C rfl ⟨by decide, by decide, by decide⟩ (c_reqG (zKg_of C) (zwt hl (by decide)) (zwt hg (by decide)) _) rfl rfl (Nat.le_of_ble_eq_true rfl) ⟨(Nat.le_of_ble_eq_true rfl), (Nat.le_of_ble_eq_true rfl)⟩ ?_
  refine z_iloadn C rfl rfl ?_
  refine z_iload C rfl rfl ?_
  refine z_calls C rfl ⟨by decide, by decide, by decide⟩ (c_okG (zKg_of C) hb _) rfl rfl (Nat.le_of_ble_eq_true rfl) ⟨(Nat.le_of_ble_eq_true rfl), (Nat.le_of_ble_eq_true rfl)⟩ ?_
  refine z_iloadn C rfl rfl ?_
  refine z_iconst C rfl ?_
  refine z_calls C rfl ⟨by decide, by decide, by decide⟩ (c_reqI (zKg_of C) hc _) rfl rfl (Nat.le_of_ble_eq_true rfl) ⟨(Nat.le_of_ble_eq_true rfl), (Nat.le_of_ble_eq_true rfl)⟩ ?_
  refine z_aloadn C rfl rfl ?_
  refine z_iloadn C rfl rfl ?_
  refine z_iloadn C rfl rfl ?_
  exact z_callvX C rfl ⟨by decide, by decide⟩ zS_0 (by decide +kernel) he (t_refT (zKg_of C) hl hg _ hw hre) rfl rfl (Nat.le_of_ble_eq_true rfl) ⟨(Nat.le_of_ble_eq_true rfl), (Nat.le_of_ble_eq_true rfl)⟩

set_option maxHeartbeats 400000 in
set_option maxRecDepth 20000 in
theorem t_get1 {κ : zK} (hκ : zKg κ) {x y z w : Int32} (hb : zokG x y = false) (h : zH) : zThr κ 104 [zr (some 0), zi x, zi y, zi z, zi w] h 4 h 1 6 := by
  refine zThr_of hκ (by decide) (by decide +kernel) (Nat.le_of_ble_eq_true rfl) fun ω C hK he => ?_
  refine z_iloadn C rfl rfl ?_
  refine z_iloadn C rfl rfl ?_
  exact z_callsX C rfl ⟨by decide, by decide, by decide⟩ (by decide +kernel) he (t_reqG (zKg_of C) hb _) rfl rfl (Nat.le_of_ble_eq_true rfl) ⟨(Nat.le_of_ble_eq_true rfl), (Nat.le_of_ble_eq_true rfl)⟩

set_option maxHeartbeats 400000 in
set_option maxRecDepth 20000 in
theorem t_get2 {κ : zK} (hκ : zKg κ) {x y z w : Int32} (ha : zokG x y = true) (hb : zokG x w = false) (h : zH) : zThr κ 104 [zr (some 0), zi x, zi y, zi z, zi w] h 4 h 1 6 := by
  refine zThr_of hκ (by decide) (by decide +kernel) (Nat.le_of_ble_eq_true rfl) fun ω C hK he => ?_
  refine z_iloadn C rfl rfl ?_
  refine z_iloadn C rfl rfl ?_
  refine z_calls C rfl ⟨by decide, by decide, by decide⟩ (c_okG (zKg_of C) ha _) rfl rfl (Nat.le_of_ble_eq_true rfl) ⟨(Nat.le_of_ble_eq_true rfl), (Nat.le_of_ble_eq_true rfl)⟩ ?_
  refine z_iloadn C rfl rfl ?_
  refine z_iload C rfl rfl ?_
  exact z_callsX C rfl ⟨by decide, by decide, by decide⟩ (by decide +kernel) he (t_reqG (zKg_of C) hb _) rfl rfl (Nat.le_of_ble_eq_true rfl) ⟨(Nat.le_of_ble_eq_true rfl), (Nat.le_of_ble_eq_true rfl)⟩

set_option maxHeartbeats 400000 in
set_option maxRecDepth 20000 in
theorem t_get3 {κ : zK} (hκ : zKg κ) {x y z w : Int32} (ha : zokG x y = true) (hb : zokG x w = true) (hc : zwithin z (Int32.ofInt (Int.ofNat 3)) = false) (h : zH) : zThr κ 104 [zr (some 0), zi x, zi y, zi z, zi w] h 4 h 1 6 := by
  refine zThr_of hκ (by decide) (by decide +kernel) (Nat.le_of_ble_eq_true rfl) fun ω C hK he => ?_
  refine z_iloadn C rfl rfl ?_
  refine z_iloadn C rfl rfl ?_
  refine z_calls C rfl ⟨by decide, by decide, by decide⟩ (c_okG (zKg_of C) ha _) rfl rfl (Nat.le_of_ble_eq_true rfl) ⟨(Nat.le_of_ble_eq_true rfl), (Nat.le_of_ble_eq_true rfl)⟩ ?_
  refine z_iloadn C rfl rfl ?_
  refine z_iload C rfl rfl ?_
  refine z_calls C rfl ⟨by decide, by decide, by decide⟩ (c_okG (zKg_of C) hb _) rfl rfl (Nat.le_of_ble_eq_true rfl) ⟨(Nat.le_of_ble_eq_true rfl), (Nat.le_of_ble_eq_true rfl)⟩ ?_
  refine z_iloadn C rfl rfl ?_
  refine z_iconst C rfl ?_
  exact z_callsX C rfl ⟨by decide, by decide, by decide⟩ (by decide +kernel) he (t_requireIndex (zKg_of C) hc _) rfl rfl (Nat.le_of_ble_eq_true rfl) ⟨(Nat.le_of_ble_eq_true rfl), (Nat.le_of_ble_eq_true rfl)⟩

set_option maxHeartbeats 400000 in
set_option maxRecDepth 20000 in
theorem t_get4 {κ : zK} (hκ : zKg κ) {l g : Nat} {z w : Int32} (hl : l < 3) (hg : g < 8) (hb : zokG (nI l) w = true) (hc : zwithin z (Int32.ofInt (Int.ofNat 3)) = true) (h : zH) (hw : zWk h) (hre : zisRef h (6 + (8 * l + g)) = false) : zThr κ 104 [zr (some 0), zi (nI l), zi (nI g), zi z, zi w] h 3 h 1 6 := by
  refine zThr_of hκ (by decide) (by decide +kernel) (Nat.le_of_ble_eq_true rfl) fun ω C hK he => ?_
  refine z_iloadn C rfl rfl ?_
  refine z_iloadn C rfl rfl ?_
  refine z_calls C rfl ⟨by decide, by decide, by decide⟩ (c_reqG (zKg_of C) (zwt hl (by decide)) (zwt hg (by decide)) _) rfl rfl (Nat.le_of_ble_eq_true rfl) ⟨(Nat.le_of_ble_eq_true rfl), (Nat.le_of_ble_eq_true rfl)⟩ ?_
  refine z_iloadn C rfl rfl ?_
  refine z_iload C rfl rfl ?_
  refine z_calls C rfl ⟨by decide, by decide, by decide⟩ (c_okG (zKg_of C) hb _) rfl rfl (Nat.le_of_ble_eq_true rfl) ⟨(Nat.le_of_ble_eq_true rfl), (Nat.le_of_ble_eq_true rfl)⟩ ?_
  refine z_iloadn C rfl rfl ?_
  refine z_iconst C rfl ?_
  refine z_calls C rfl ⟨by decide, by decide, by decide⟩ (c_reqI (zKg_of C) hc _) rfl rfl (Nat.le_of_ble_eq_true rfl) ⟨(Nat.le_of_ble_eq_true rfl), (Nat.le_of_ble_eq_true rfl)⟩ ?_
  refine z_aloadn C rfl rfl ?_
  refine z_iloadn C rfl rfl ?_
  refine z_iloadn C rfl rfl ?_
  exact z_callvX C rfl ⟨by decide, by decide⟩ zS_0 (by decide +kernel) he (t_refT (zKg_of C) hl hg _ hw hre) rfl rfl (Nat.le_of_ble_eq_true rfl) ⟨(Nat.le_of_ble_eq_true rfl), (Nat.le_of_ble_eq_true rfl)⟩

set_option maxHeartbeats 400000 in
set_option maxRecDepth 20000 in
theorem c_make {κ : zK} (hκ : zKg κ) {l g r : Nat} (hl : l < 3) (hg : g < 8) (hr : r < 60) (h : zH) (hw : zWk h) (hnw : (znw h (nI l) 60 0).1 = some (30 + 5 * r)) : zRet κ 101 [zr (some 0), zi (nI l), zi (nI g)] h (some (zi ((zsettle (zmk4 h l g r)).1 (30 + 5 * r) 0))) (zsettle (zmk4 h l g r)) 0 0 := by
  refine zRet_of hκ (by decide) (by decide +kernel) (Nat.le_of_ble_eq_true rfl) fun ω C hK he => ?_
  refine z_iloadn C rfl rfl ?_
  refine z_iloadn C rfl rfl ?_
  refine z_calls C rfl ⟨by decide, by decide, by decide⟩ (c_reqG (zKg_of C) (zwt hl (by decide)) (zwt hg (by decide)) _) rfl rfl (Nat.le_of_ble_eq_true rfl) ⟨(Nat.le_of_ble_eq_true rfl), (Nat.le_of_ble_eq_true rfl)⟩ ?_
  refine z_aloadn C rfl rfl ?_
  refine z_gets C rfl zS_0 rfl hw.1.1.1.2.1 ?_
  refine z_iloadn C rfl rfl ?_
  refine z_callv C rfl ⟨by decide, by decide⟩ zS_2 (c_new (zKg_of C) _ hw) rfl rfl (Nat.le_of_ble_eq_true rfl) ⟨(Nat.le_of_ble_eq_true rfl), (Nat.le_of_ble_eq_true rfl)⟩ ?_
  rw [hnw]
  have hw1 := zK_nw (l := nI l) hw 60 0 rfl
  have hw2 := zK_bRef (k := 853) hw1 zS_853 ⟨r, hr, rfl⟩
  have hw3 := zK_stG hw2 hl hg zS_853
  refine z_astoren C rfl ?_
  refine z_aloadn C rfl rfl ?_
  refine z_ifnonnull C rfl (fun hq1 => ?_) (fun r1 hq1 => ?_)
  · skip
    cases hq1
  · skip
    refine z_aloadn C rfl rfl ?_
    refine z_gets C rfl zS_0 rfl hw1.1.1.1.2.2 ?_
    refine z_aloadn C rfl rfl ?_
    refine z_callv C rfl ⟨by decide, by decide⟩ zS_853 (c_becomeReference (zKg_of C) zS_853 (zS_thing r hr) _) rfl rfl (Nat.le_of_ble_eq_true rfl) ⟨(Nat.le_of_ble_eq_true rfl), (Nat.le_of_ble_eq_true rfl)⟩ ?_
    refine z_aloadn C rfl rfl ?_
    refine z_gets C rfl zS_0 rfl hw2.1.1.1.2.1 ?_
    refine z_iloadn C rfl rfl ?_
    refine z_iloadn C rfl rfl ?_
    refine z_aloadn C rfl rfl ?_
    refine z_gets C rfl zS_0 rfl hw2.1.1.1.2.2 ?_
    refine z_callv C rfl ⟨by decide, by decide⟩ zS_2 (c_stG (zKg_of C) hl hg zS_853 _ hw2) rfl rfl (Nat.le_of_ble_eq_true rfl) ⟨(Nat.le_of_ble_eq_true rfl), (Nat.le_of_ble_eq_true rfl)⟩ ?_
    refine z_aloadn C rfl rfl ?_
    refine z_gets C rfl zS_0 rfl hw3.1.1.1.2.1 ?_
    refine z_callv C rfl ⟨by decide, by decide⟩ zS_2 (c_settle (zKg_of C) _ hw3) rfl rfl (Nat.le_of_ble_eq_true rfl) ⟨(Nat.le_of_ble_eq_true rfl), (Nat.le_of_ble_eq_true rfl)⟩ ?_
    refine z_pop C rfl rfl ?_
    refine z_aloadn C rfl rfl ?_
    refine z_geti C rfl (zS_thing r hr) rfl ?_
    exact z_ireturn C rfl (by unfold zmk4 at he; exact he) ⟨Nat.le_refl _, Nat.le_refl _⟩ rfl

