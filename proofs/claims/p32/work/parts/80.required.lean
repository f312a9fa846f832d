/-! what is required, small faces -/
theorem zfnd_th {h : zH} {n : Int32} {t : Nat} : ∀ (m i : Nat), i + m = 60 → zfnd h n m i = some t → zTh t
  | 0, _, _, q => by cases q
  | m + 1, i, e, q => by
    unfold zfnd at q
    split at q
    · injection q with q
      exact ⟨i, by omega, q.symm⟩
    · exact zfnd_th m (i + 1) (by omega) q
theorem znt : xCmp .ne (zB true) 0 := by
  show ¬ (1 : Int32) = 0
  decide
set_option maxHeartbeats 600000 in
set_option maxRecDepth 20000 in
theorem c_reqI {κ : zK} (hκ : zKg κ) {x n : Int32} (hn : zwithin x n = true) (h : zH) : zRet κ 120 [zi x, zi n] h none h 0 0 := by
  refine zRet_of hκ (by decide) (by decide +kernel) (Nat.le_of_ble_eq_true rfl) fun ω C hK he => ?_
  refine z_iloadn C rfl rfl ?_
  refine z_iloadn C rfl rfl ?_
  refine z_calls C rfl ⟨by decide, by decide, by decide⟩ (c_isWithin (zKg_of C) _) rfl rfl (Nat.le_of_ble_eq_true rfl) ⟨(Nat.le_of_ble_eq_true rfl), (Nat.le_of_ble_eq_true rfl)⟩ ?_
  rw [hn]
  refine z_if C rfl (fun hc1 => ?_) (fun hc1 => ?_)
  · skip
    skip
    exact z_return C rfl he ⟨Nat.le_refl _, Nat.le_refl _⟩ rfl
  · skip
    skip
    exact absurd znt hc1

set_option maxHeartbeats 600000 in
set_option maxRecDepth 20000 in
theorem c_reqG {κ : zK} (hκ : zKg κ) {x y : Int32} (h3 : zwithin x (Int32.ofInt (Int.ofNat 3)) = true) (h8 : zwithin y (Int32.ofInt (Int.ofNat 8)) = true)  (h : zH) : zRet κ 121 [zi x, zi y] h none h 0 0 := by
  refine zRet_of hκ (by decide) (by decide +kernel) (Nat.le_of_ble_eq_true rfl) fun ω C hK he => ?_
  refine z_iloadn C rfl rfl ?_
  refine z_iconst C rfl ?_
  refine z_calls C rfl ⟨by decide, by decide, by decide⟩ (c_reqI (zKg_of C) h3 _) rfl rfl (Nat.le_of_ble_eq_true rfl) ⟨(Nat.le_of_ble_eq_true rfl), (Nat.le_of_ble_eq_true rfl)⟩ ?_
  refine z_iloadn C rfl rfl ?_
  refine z_bipush C rfl ?_
  refine z_calls C rfl ⟨by decide, by decide, by decide⟩ (c_reqI (zKg_of C) h8 _) rfl rfl (Nat.le_of_ble_eq_true rfl) ⟨(Nat.le_of_ble_eq_true rfl), (Nat.le_of_ble_eq_true rfl)⟩ ?_
  exact z_return C rfl he ⟨Nat.le_refl _, Nat.le_refl _⟩ rfl

set_option maxHeartbeats 600000 in
set_option maxRecDepth 20000 in
theorem t_reqG1 {κ : zK} (hκ : zKg κ) {x y : Int32} (h3 : zwithin x (Int32.ofInt (Int.ofNat 3)) = false)  (h : zH) : zThr κ 121 [zi x, zi y] h 4 h 1 6 := by
  refine zThr_of hκ (by decide) (by decide +kernel) (Nat.le_of_ble_eq_true rfl) fun ω C hK he => ?_
  refine z_iloadn C rfl rfl ?_
  refine z_iconst C rfl ?_
  exact z_callsX C rfl ⟨by decide, by decide, by decide⟩ (by decide +kernel) he (t_requireIndex (zKg_of C) h3 _) rfl rfl (Nat.le_of_ble_eq_true rfl) ⟨(Nat.le_of_ble_eq_true rfl), (Nat.le_of_ble_eq_true rfl)⟩

set_option maxHeartbeats 600000 in
set_option maxRecDepth 20000 in
theorem t_reqG2 {κ : zK} (hκ : zKg κ) {x y : Int32} (h3 : zwithin x (Int32.ofInt (Int.ofNat 3)) = true) (h8 : zwithin y (Int32.ofInt (Int.ofNat 8)) = false)  (h : zH) : zThr κ 121 [zi x, zi y] h 4 h 1 6 := by
  refine zThr_of hκ (by decide) (by decide +kernel) (Nat.le_of_ble_eq_true rfl) fun ω C hK he => ?_
  refine z_iloadn C rfl rfl ?_
  refine z_iconst C rfl ?_
  refine z_calls C rfl ⟨by decide, by decide, by decide⟩ (c_reqI (zKg_of C) h3 _) rfl rfl (Nat.le_of_ble_eq_true rfl) ⟨(Nat.le_of_ble_eq_true rfl), (Nat.le_of_ble_eq_true rfl)⟩ ?_
  refine z_iloadn C rfl rfl ?_
  refine z_bipush C rfl ?_
  exact z_callsX C rfl ⟨by decide, by decide, by decide⟩ (by decide +kernel) he (t_requireIndex (zKg_of C) h8 _) rfl rfl (Nat.le_of_ble_eq_true rfl) ⟨(Nat.le_of_ble_eq_true rfl), (Nat.le_of_ble_eq_true rfl)⟩

set_option maxHeartbeats 600000 in
set_option maxRecDepth 20000 in
theorem c_reqF {κ : zK} (hκ : zKg κ) {x : Int32} (h : zH) (hw : zWk h) (hn : zwithin x (h.1 1 2) = true) : zRet κ 122 [zr (some 0), zi x] h none h 0 0 := by
  refine zRet_of hκ (by decide) (by decide +kernel) (Nat.le_of_ble_eq_true rfl) fun ω C hK he => ?_
  refine z_iloadn C rfl rfl ?_
  refine z_aloadn C rfl rfl ?_
  refine z_gets C rfl zS_0 rfl hw.1.1.1.1 ?_
  refine z_geti C rfl zS_1 rfl ?_
  refine z_calls C rfl ⟨by decide, by decide, by decide⟩ (c_reqI (zKg_of C) hn _) rfl rfl (Nat.le_of_ble_eq_true rfl) ⟨(Nat.le_of_ble_eq_true rfl), (Nat.le_of_ble_eq_true rfl)⟩ ?_
  exact z_return C rfl he ⟨Nat.le_refl _, Nat.le_refl _⟩ rfl

set_option maxHeartbeats 600000 in
set_option maxRecDepth 20000 in
theorem t_reqF {κ : zK} (hκ : zKg κ) {x : Int32} (h : zH) (hw : zWk h) (hn : zwithin x (h.1 1 2) = false) : zThr κ 122 [zr (some 0), zi x] h 4 h 1 6 := by
  refine zThr_of hκ (by decide) (by decide +kernel) (Nat.le_of_ble_eq_true rfl) fun ω C hK he => ?_
  refine z_iloadn C rfl rfl ?_
  refine z_aloadn C rfl rfl ?_
  refine z_gets C rfl zS_0 rfl hw.1.1.1.1 ?_
  refine z_geti C rfl zS_1 rfl ?_
  exact z_callsX C rfl ⟨by decide, by decide, by decide⟩ (by decide +kernel) he (t_requireIndex (zKg_of C) hn _) rfl rfl (Nat.le_of_ble_eq_true rfl) ⟨(Nat.le_of_ble_eq_true rfl), (Nat.le_of_ble_eq_true rfl)⟩

set_option maxHeartbeats 600000 in
set_option maxRecDepth 20000 in
theorem c_reqT {κ : zK} (hκ : zKg κ)  (h : zH) (hw : zWk h) (hn : h.1 1 9 = 120) : zRet κ 123 [zr (some 0)] h none h 0 0 := by
  refine zRet_of hκ (by decide) (by decide +kernel) (Nat.le_of_ble_eq_true rfl) fun ω C hK he => ?_
  refine z_aloadn C rfl rfl ?_
  refine z_gets C rfl zS_0 rfl hw.1.1.1.1 ?_
  refine z_geti C rfl zS_1 rfl ?_
  refine z_bipush C rfl ?_
  refine z_icmp C rfl (fun hc1 => ?_) (fun hc1 => ?_)
  · skip
    skip
    exact z_return C rfl he ⟨Nat.le_refl _, Nat.le_refl _⟩ rfl
  · skip
    skip
    exact absurd hn hc1

set_option maxHeartbeats 600000 in
set_option maxRecDepth 20000 in
theorem t_reqT {κ : zK} (hκ : zKg κ)  (h : zH) (hw : zWk h) (hn : ¬ h.1 1 9 = 120) : zThr κ 123 [zr (some 0)] h 2 h 1 6 := by
  refine zThr_of hκ (by decide) (by decide +kernel) (Nat.le_of_ble_eq_true rfl) fun ω C hK he => ?_
  refine z_aloadn C rfl rfl ?_
  refine z_gets C rfl zS_0 rfl hw.1.1.1.1 ?_
  refine z_geti C rfl zS_1 rfl ?_
  refine z_bipush C rfl ?_
  refine z_icmp C rfl (fun hc1 => ?_) (fun hc1 => ?_)
  · skip
    skip
    exact absurd hc1 hn
  · skip
    skip
    exact z_throw C (i := 120) (E := 2) (by decide +kernel) (by decide +kernel) (by decide +kernel) he (Nat.le_of_ble_eq_true rfl) ⟨Nat.le_refl _, Nat.le_refl _⟩

set_option maxHeartbeats 600000 in
set_option maxRecDepth 20000 in
theorem c_refT {κ : zK} (hκ : zKg κ) {l g : Nat} (hl : l < 3) (hg : g < 8) {t : Nat} (h : zH) (hw : zWk h) (hr : zisRef h (6 + (8 * l + g)) = true) (ht : h.2.2.2 (6 + (8 * l + g)) 5 = some t) : zRet κ 124 [zr (some 0), zi (nI l), zi (nI g)] h (some (zr (some t))) h 0 0 := by
  refine zRet_of hκ (by decide) (by decide +kernel) (Nat.le_of_ble_eq_true rfl) fun ω C hK he => ?_
  refine z_aloadn C rfl rfl ?_
  refine z_gets C rfl zS_0 rfl hw.1.1.1.2.1 ?_
  refine z_iloadn C rfl rfl ?_
  refine z_iloadn C rfl rfl ?_
  refine z_callv C rfl ⟨by decide, by decide⟩ zS_2 (c_globalOf (zKg_of C) hl hg _ hw.1.1) rfl rfl (Nat.le_of_ble_eq_true rfl) ⟨(Nat.le_of_ble_eq_true rfl), (Nat.le_of_ble_eq_true rfl)⟩ ?_
  refine z_astoren C rfl ?_
  refine z_aloadn C rfl rfl ?_
  refine z_callv C rfl ⟨by decide, by decide⟩ (zS_val24 (8 * l + g) (by omega)) (c_isReference (zKg_of C) (zS_val24 (8 * l + g) (by omega)) _) rfl rfl (Nat.le_of_ble_eq_true rfl) ⟨(Nat.le_of_ble_eq_true rfl), (Nat.le_of_ble_eq_true rfl)⟩ ?_
  rw [hr]
  refine z_if C rfl (fun hc1 => ?_) (fun hc1 => ?_)
  · skip
    skip
    refine z_aloadn C rfl rfl ?_
    refine z_gets C rfl (zS_val24 (8 * l + g) (by omega)) rfl ht ?_
    exact z_areturn C rfl he ⟨Nat.le_refl _, Nat.le_refl _⟩ rfl
  · skip
    skip
    exact absurd znt hc1

set_option maxHeartbeats 600000 in
set_option maxRecDepth 20000 in
theorem t_refT {κ : zK} (hκ : zKg κ) {l g : Nat} (hl : l < 3) (hg : g < 8) (h : zH) (hw : zWk h) (hr : zisRef h (6 + (8 * l + g)) = false) : zThr κ 124 [zr (some 0), zi (nI l), zi (nI g)] h 3 h 1 6 := by
  refine zThr_of hκ (by decide) (by decide +kernel) (Nat.le_of_ble_eq_true rfl) fun ω C hK he => ?_
  refine z_aloadn C rfl rfl ?_
  refine z_gets C rfl zS_0 rfl hw.1.1.1.2.1 ?_
  refine z_iloadn C rfl rfl ?_
  refine z_iloadn C rfl rfl ?_
  refine z_callv C rfl ⟨by decide, by decide⟩ zS_2 (c_globalOf (zKg_of C) hl hg _ hw.1.1) rfl rfl (Nat.le_of_ble_eq_true rfl) ⟨(Nat.le_of_ble_eq_true rfl), (Nat.le_of_ble_eq_true rfl)⟩ ?_
  refine z_astoren C rfl ?_
  refine z_aloadn C rfl rfl ?_
  refine z_callv C rfl ⟨by decide, by decide⟩ (zS_val24 (8 * l + g) (by omega)) (c_isReference (zKg_of C) (zS_val24 (8 * l + g) (by omega)) _) rfl rfl (Nat.le_of_ble_eq_true rfl) ⟨(Nat.le_of_ble_eq_true rfl), (Nat.le_of_ble_eq_true rfl)⟩ ?_
  rw [hr]
  refine z_if C rfl (fun hc1 => ?_) (fun hc1 => ?_)
  · skip
    skip
    exact absurd rfl hc1
  · skip
    skip
    exact z_throw C (i := 275) (E := 3) (by decide +kernel) (by decide +kernel) (by decide +kernel) he (Nat.le_of_ble_eq_true rfl) ⟨Nat.le_refl _, Nat.le_refl _⟩

set_option maxHeartbeats 600000 in
set_option maxRecDepth 20000 in
theorem c_thT {κ : zK} (hκ : zKg κ) {n : Int32} {t : Nat} (h : zH) (hw : zWk h) (hn : zwithin n (h.1 2 4) = true) (hf : zfnd h n 60 0 = some t) : zRet κ 125 [zr (some 0), zi n] h (some (zr (some t))) h 0 0 := by
  refine zRet_of hκ (by decide) (by decide +kernel) (Nat.le_of_ble_eq_true rfl) fun ω C hK he => ?_
  refine z_iloadn C rfl rfl ?_
  refine z_aloadn C rfl rfl ?_
  refine z_gets C rfl zS_0 rfl hw.1.1.1.2.1 ?_
  refine z_geti C rfl zS_2 rfl ?_
  refine z_calls C rfl ⟨by decide, by decide, by decide⟩ (c_reqI (zKg_of C) hn _) rfl rfl (Nat.le_of_ble_eq_true rfl) ⟨(Nat.le_of_ble_eq_true rfl), (Nat.le_of_ble_eq_true rfl)⟩ ?_
  refine z_aloadn C rfl rfl ?_
  refine z_gets C rfl zS_0 rfl hw.1.1.1.2.1 ?_
  refine z_iloadn C rfl rfl ?_
  refine z_callv C rfl ⟨by decide, by decide⟩ zS_2 (c_find (zKg_of C) _ hw.1.1) rfl rfl (Nat.le_of_ble_eq_true rfl) ⟨(Nat.le_of_ble_eq_true rfl), (Nat.le_of_ble_eq_true rfl)⟩ ?_
  rw [hf]
  refine z_astoren C rfl ?_
  refine z_aloadn C rfl rfl ?_
  refine z_ifnonnull C rfl (fun hq1 => ?_) (fun r1 hq1 => ?_)
  · skip
    cases hq1
  · skip
    refine z_aloadn C rfl rfl ?_
    exact z_areturn C rfl he ⟨Nat.le_refl _, Nat.le_refl _⟩ rfl

set_option maxHeartbeats 600000 in
set_option maxRecDepth 20000 in
theorem t_thT1 {κ : zK} (hκ : zKg κ) {n : Int32} (h : zH) (hw : zWk h) (hn : zwithin n (h.1 2 4) = false) : zThr κ 125 [zr (some 0), zi n] h 4 h 1 6 := by
  refine zThr_of hκ (by decide) (by decide +kernel) (Nat.le_of_ble_eq_true rfl) fun ω C hK he => ?_
  refine z_iloadn C rfl rfl ?_
  refine z_aloadn C rfl rfl ?_
  refine z_gets C rfl zS_0 rfl hw.1.1.1.2.1 ?_
  refine z_geti C rfl zS_2 rfl ?_
  exact z_callsX C rfl ⟨by decide, by decide, by decide⟩ (by decide +kernel) he (t_requireIndex (zKg_of C) hn _) rfl rfl (Nat.le_of_ble_eq_true rfl) ⟨(Nat.le_of_ble_eq_true rfl), (Nat.le_of_ble_eq_true rfl)⟩

set_option maxHeartbeats 600000 in
set_option maxRecDepth 20000 in
theorem t_thT2 {κ : zK} (hκ : zKg κ) {n : Int32} (h : zH) (hw : zWk h) (hn : zwithin n (h.1 2 4) = true) (hf : zfnd h n 60 0 = none) : zThr κ 125 [zr (some 0), zi n] h 2 h 1 6 := by
  refine zThr_of hκ (by decide) (by decide +kernel) (Nat.le_of_ble_eq_true rfl) fun ω C hK he => ?_
  refine z_iloadn C rfl rfl ?_
  refine z_aloadn C rfl rfl ?_
  refine z_gets C rfl zS_0 rfl hw.1.1.1.2.1 ?_
  refine z_geti C rfl zS_2 rfl ?_
  refine z_calls C rfl ⟨by decide, by decide, by decide⟩ (c_reqI (zKg_of C) hn _) rfl rfl (Nat.le_of_ble_eq_true rfl) ⟨(Nat.le_of_ble_eq_true rfl), (Nat.le_of_ble_eq_true rfl)⟩ ?_
  refine z_aloadn C rfl rfl ?_
  refine z_gets C rfl zS_0 rfl hw.1.1.1.2.1 ?_
  refine z_iloadn C rfl rfl ?_
  refine z_callv C rfl ⟨by decide, by decide⟩ zS_2 (c_find (zKg_of C) _ hw.1.1) rfl rfl (Nat.le_of_ble_eq_true rfl) ⟨(Nat.le_of_ble_eq_true rfl), (Nat.le_of_ble_eq_true rfl)⟩ ?_
  rw [hf]
  refine z_astoren C rfl ?_
  refine z_aloadn C rfl rfl ?_
  refine z_ifnonnull C rfl (fun hq1 => ?_) (fun r1 hq1 => ?_)
  · skip
    exact z_throw C (i := 120) (E := 2) (by decide +kernel) (by decide +kernel) (by decide +kernel) he (Nat.le_of_ble_eq_true rfl) ⟨Nat.le_refl _, Nat.le_refl _⟩
  · skip
    cases hq1

