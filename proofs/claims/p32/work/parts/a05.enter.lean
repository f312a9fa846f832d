/-! escapes, calls entered -/
set_option maxHeartbeats 400000 in
set_option maxRecDepth 20000 in
theorem q_escape {κ : zK} (hκ : zKg κ) {T s d : Nat} (h : zH) (R : zRI h T s d) (hs2 : 2 ≤ s) : zRq κ 52 [zr (some 1)] h (zP1 h 0) 0 0 := by
  refine zRq_of hκ (by decide) (by decide +kernel) (Nat.le_of_ble_eq_true rfl) fun ω C hK he => ?_
  refine z_aloadn C rfl rfl ?_
  refine z_gets C rfl zS_1 rfl (zcarF R.1) ?_
  refine z_aloadn C rfl rfl ?_
  refine z_gets C rfl zS_1 rfl (zstkF R.1) ?_
  have R1 := zRI_pop R
  have gp := zpo_gd R (by omega)
  have Sp := zpo_S (zRI_s R).2
  refine z_callv C rfl ⟨by decide, by decide⟩ zS_332 (c_pop (zKg_of C) (zRI_s R).2 _ R.1.1.1 (zRI_s R).1) rfl rfl (Nat.le_of_ble_eq_true rfl) ⟨(Nat.le_of_ble_eq_true rfl), (Nat.le_of_ble_eq_true rfl)⟩ ?_
  have v1 := zV_cp R1.1 R1.2.1 zS_748 Sp gp
  have R2 := zRI_vw R1 zS_748 (by decide) v1
  refine z_callv C rfl ⟨by decide, by decide⟩ zS_748 (c_become (zKg_of C) zS_748 Sp _ R1.1.2) rfl rfl (Nat.le_of_ble_eq_true rfl) ⟨(Nat.le_of_ble_eq_true rfl), (Nat.le_of_ble_eq_true rfl)⟩ ?_
  refine z_aloadn C rfl rfl ?_
  refine z_gets C rfl zS_1 rfl (zstkF R2.1) ?_
  have R3 := zRI_pop R2
  have Sq := zpo_S (zRI_s R2).2
  have t3 : zSt h (zpoH (zcp (zpoH h s) 748 (zpo s)) (s - 1)) 0 := zSt_tr zpoH_st (zSt_tr (zSt_vw zS_748 v1) zpoH_st)
  have g3 : zGk (zcp (zpoH h s) 748 (zpo s)) (zpoH (zcp (zpoH h s) 748 (zpo s)) (s - 1)) := zpoH_gk
  have o3 : (zpoH (zcp (zpoH h s) 748 (zpo s)) (s - 1)).1 1 9 = h.1 1 9 := g3.2.trans ((zGk_vw zS_748 v1).2.trans zpoH_gk.2)
  refine z_callv C rfl ⟨by decide, by decide⟩ zS_332 (c_pop (zKg_of C) (zRI_s R2).2 _ R2.1.1.1 (zRI_s R2).1) rfl rfl (Nat.le_of_ble_eq_true rfl) ⟨(Nat.le_of_ble_eq_true rfl), (Nat.le_of_ble_eq_true rfl)⟩ ?_
  refine z_astoren C rfl ?_
  refine z_aloadn C rfl rfl ?_
  refine z_geti C rfl Sq rfl ?_
  refine z_bipush C rfl ?_
  refine z_icmp C rfl (fun hc1 => ?_) (fun hc1 => ?_)
  · skip
    skip
    refine z_aloadn C rfl rfl ?_
    refine z_aloadn C rfl rfl ?_
    refine z_getj C rfl Sq rfl ?_
    refine z_callvq C rfl ⟨by decide, by decide⟩ (by first | assumption | rfl | decide) (q_lw (zKg_of C) _ R3) rfl rfl (Nat.le_of_ble_eq_true rfl) ⟨Nat.le_of_ble_eq_true rfl, Nat.le_of_ble_eq_true rfl⟩ fun v2 g2 q2 => ?_
    obtain ⟨hg, x, rfl, hx4⟩ := q2
    rw [hg]
    refine z_istoren C rfl ?_
    refine z_iloadn C rfl rfl ?_
    refine z_if C rfl (fun hc3 => ?_) (fun hc3 => ?_)
    · skip
      skip
      obtain ⟨c, hc, rfl⟩ := hx4 (Int32.not_lt.mpr hc3)
      refine z_aloadn C rfl rfl ?_
      refine z_iloadn C rfl rfl ?_
      refine z_iconst C rfl ?_
      refine z_iadd C rfl ?_
      rw [show nI c + Int32.ofInt (Int.ofNat 1) = nI (c + 1) from nI_1 c]
      have R4 := zRI_less R3 (d' := c + 1) hc
      have hd := zRI_d R
      have c4 : zGd (zupI (zpoH (zcp (zpoH h s) 748 (zpo s)) (s - 1)) 1 4 (nI (c + 1))) 748 := zGk_I14.1 _ zS_748 (g3.1 _ zS_748 v1.2.2.2)
      refine z_puti C rfl zS_1 rfl ⟨_, rfl⟩ ?_
      refine z_aloadn C rfl rfl ?_
      refine z_aloadn C rfl rfl ?_
      refine z_gets C rfl zS_1 rfl (zcalF R4.1) ?_
      refine z_iloadn C rfl rfl ?_
      refine z_aalds C rfl zS_331 (by decide) (by decide) (zin (n := 12) (by omega) (by decide)) (by rw [zclamp (n := 12) (by omega) (by decide)]; exact zcalA R4.1 (by omega)) ?_
      refine z_aloadn C rfl rfl ?_
      refine z_geti C rfl Sq rfl ?_
      refine z_aloadn C rfl rfl ?_
      refine z_gets C rfl zS_1 rfl (zcarF R4.1) ?_
      refine z_callvq C rfl ⟨by decide, by decide⟩ (by first | assumption | rfl | decide) (q_goOn (zKg_of C) (Nat.lt_succ_self c) zS_748 _ R4 c4) rfl rfl (Nat.le_of_ble_eq_true rfl) ⟨Nat.le_of_ble_eq_true rfl, Nat.le_of_ble_eq_true rfl⟩ fun v4 g4 q4 => ?_
      obtain ⟨rfl, T5, s5, R5, t5, g5⟩ := q4
      refine z_iconst C rfl ?_
      exact z_ireturnq C rfl he ⟨Nat.le_refl _, Nat.le_refl _⟩ rfl ⟨T5, s5, _, _, R5, zSt_tr t3 (zSt_tr zSt_I14 t5), rfl, fun e => absurd e (by decide), Or.inl (g5.2.trans (zGk_I14.2.trans o3))⟩
    · skip
      skip
      refine z_bipush C rfl ?_
      exact z_ireturnq C rfl he ⟨Nat.le_refl _, Nat.le_refl _⟩ rfl ⟨T, _, _, _, R3, t3, rfl, fun e => absurd e (by decide), Or.inl o3⟩
  · skip
    skip
    refine z_iconst C rfl ?_
    exact z_ireturnq C rfl he ⟨Nat.le_refl _, Nat.le_refl _⟩ rfl ⟨T, _, _, _, R3, t3, rfl, fun e => absurd e (by decide), Or.inl o3⟩

set_option maxHeartbeats 400000 in
set_option maxRecDepth 20000 in
theorem l_enter {ω : zO} (C : zX ω 50) {h : zH} {T s d f p : Nat} {l : Int32} (hd12 : d < 12) (hf : f < 9) (hp : p ≤ 2) (hps : p ≤ s) (ep : h.1 (751 + 3 * f) 1 = nI p) (he : zEq ω (zP1 h 2) 0 0) : ∀ (m i : Nat) (g : zH), i + m = p → (zRI g T s d ∧ zSt h g i ∧ g.1 1 9 = h.1 1 9 ∧ ∀ l, l < 4 → zGd g (783 + 6 * d + l)) → ZG ω 50 54 [(5, zi (nI i)), (4, zr (some (781 + 6 * d))), (3, zr (some (751 + 3 * f))), (1, zi l), (0, zr (some 1))] [] g 0 0 := by
  intro m
  induction m with
  | zero =>
    intro i g hi hI
    obtain rfl : i = p := by omega
    refine z_iload C rfl rfl ?_
    refine z_aloadn C rfl rfl ?_
    refine z_geti C rfl (zS_fun f (by omega)) rfl ?_
    rw [(by rw [hI.2.1.1 _ (by omega) (by omega)]; exact ep : g.1 (751 + 3 * f) 1 = nI i)]
    refine z_icmp C rfl (fun hc1 => ?_) (fun hc1 => ?_)
    · skip
      skip
      refine z_aloadn C rfl rfl ?_
      refine z_gets C rfl zS_1 rfl (zstkF hI.1.1) ?_
      refine z_dup C rfl rfl ?_
      refine z_geti C rfl zS_332 rfl ?_
      rw [(zRI_s hI.1).1]
      refine z_aloadn C rfl rfl ?_
      refine z_geti C rfl (zS_fun f (by omega)) rfl ?_
      rw [(by rw [hI.2.1.1 _ (by omega) (by omega)]; exact ep : g.1 (751 + 3 * f) 1 = nI i)]
      refine z_isub C rfl ?_
      rw [zsubN (show i ≤ s by omega)]
      have R1 := zRI_top hI.1 (s' := s - i) (by have := hI.1.2.2.2.2.1.2.1; omega)
      refine z_puti C rfl zS_332 rfl ⟨_, rfl⟩ ?_
      refine z_aload C rfl rfl ?_
      refine z_aloadn C rfl rfl ?_
      refine z_gets C rfl zS_1 rfl (zstkF R1.1) ?_
      refine z_geti C rfl zS_332 rfl ?_
      rw [(zRI_s R1).1]
      have R2 := zRI_base (c := d) (x := nI (s - i)) R1 hd12 (Nat.le_refl _)
      refine z_puti C rfl (zS_call d hd12) rfl ⟨_, rfl⟩ ?_
      refine z_aloadn C rfl rfl ?_
      refine z_dup C rfl rfl ?_
      refine z_geti C rfl zS_1 rfl ?_
      rw [(zRI_d R2).1]
      refine z_iconst C rfl ?_
      refine z_iadd C rfl ?_
      rw [show nI d + Int32.ofInt (Int.ofNat 1) = nI (d + 1) from nI_1 d]
      have R3 := zRI_depth R2 (d' := d + 1) (by omega) (fun c hc => by
        by_cases e : c < d
        · exact Or.inl e
        · obtain rfl : c = d := by omega
          exact Or.inr ⟨⟨s - i, by have := hI.1.2.2.2.2.1.2.1; omega, zupI_at⟩, fun l hl => (zGk_C hd12).1 _ (zS_cval c hd12 l hl) (zGk_332.1 _ (zS_cval c hd12 l hl) (hI.2.2.2 l hl))⟩)
      refine z_puti C rfl zS_1 rfl ⟨_, rfl⟩ ?_
      refine z_iconst C rfl ?_
      exact z_ireturnq C rfl he ⟨Nat.le_refl _, Nat.le_refl _⟩ rfl ⟨T, _, _, _, R3, zSt_le (zSt_tr hI.2.1 (zSt_tr zSt_332 (zSt_tr zSt_C zSt_I14))) (by omega), rfl, fun e => absurd e (by decide), Or.inl (zGk_I14.2.trans ((zGk_C hd12).2.trans (zGk_332.2.trans hI.2.2.1)))⟩
    · skip
      skip
      exact absurd (Int32.le_refl _) hc1
  | succ m ih =>
    intro i g hi hI
    refine z_iload C rfl rfl ?_
    refine z_aloadn C rfl rfl ?_
    refine z_geti C rfl (zS_fun f (by omega)) rfl ?_
    rw [(by rw [hI.2.1.1 _ (by omega) (by omega)]; exact ep : g.1 (751 + 3 * f) 1 = nI p)]
    refine z_icmp C rfl (fun hc1 => ?_) (fun hc1 => ?_)
    · skip
      skip
      first | exact absurd hc1 (nI_ge (a := i) (b := p) (by omega) (by omega)) | exact absurd hc2 (nI_ge (a := i) (b := 4) (by omega) (by decide))
    · skip
      skip
      refine z_iload C rfl rfl ?_
      refine z_iconst C rfl ?_
      refine z_icmp C rfl (fun hc2 => ?_) (fun hc2 => ?_)
      · skip
        skip
        first | exact absurd hc1 (nI_ge (a := i) (b := p) (by omega) (by omega)) | exact absurd hc2 (nI_ge (a := i) (b := 4) (by omega) (by decide))
      · skip
        skip
        refine z_aload C rfl rfl ?_
        refine z_gets C rfl (zS_call d hd12) rfl (zcalL hI.1.1 hd12) ?_
        refine z_iload C rfl rfl ?_
        refine z_aalds C rfl (zS_carr d hd12) (by decide) (by decide) (zin (n := 4) (by omega) (by decide)) (by rw [zclamp (n := 4) (by omega) (by decide)]; exact zcalV hI.1.1 hd12 (by omega)) ?_
        refine z_astore C rfl ?_
        refine z_aload C rfl rfl ?_
        refine z_aloadn C rfl rfl ?_
        refine z_gets C rfl zS_1 rfl (zstkF hI.1.1) ?_
        refine z_aloadn C rfl rfl ?_
        refine z_geti C rfl (zS_fun f (by omega)) rfl ?_
        rw [(by rw [hI.2.1.1 _ (by omega) (by omega)]; exact ep : g.1 (751 + 3 * f) 1 = nI p)]
        refine z_iconst C rfl ?_
        refine z_isub C rfl ?_
        refine z_iload C rfl rfl ?_
        refine z_isub C rfl ?_
        have ez : nI p - Int32.ofInt (Int.ofNat 1) - nI i = nI (p - 1 - i) := by rw [show nI p - Int32.ofInt (Int.ofNat 1) = nI (p - 1) from zsubN (by omega), zsubN (by omega)]
        have hz : zun (g.1 332 2 - Int32.ofInt (Int.ofNat 1) - (nI p - Int32.ofInt (Int.ofNat 1) - nI i)) = 335 + (s - 1 - (p - 1 - i)) := by rw [(zRI_s hI.1).1]; exact zun_at (zRI_s hI.1).2 (j := p - 1 - i) (by omega) ez
        refine z_callv C rfl ⟨by decide, by decide⟩ zS_332 (c_under (zKg_of C) _ hI.1.1.1.1) rfl rfl (Nat.le_of_ble_eq_true rfl) ⟨(Nat.le_of_ble_eq_true rfl), (Nat.le_of_ble_eq_true rfl)⟩ ?_
        rw [hz]
        have Sl := zS_cval d hd12 i (by omega)
        have hsT := hI.1.2.2.2.2.1
        have hT1 := hsT.1
        have hT2 := hsT.2.1
        have v1 := zV_cp hI.1.1 hI.1.2.1 Sl (zS_cell (s - 1 - (p - 1 - i)) (by omega)) (hsT.2.2.2 _ (by omega))
        have R1 := zRI_vw hI.1 Sl (by omega) v1
        refine z_callv C rfl ⟨by decide, by decide⟩ Sl (c_become (zKg_of C) Sl (zS_cell (s - 1 - (p - 1 - i)) (by omega)) _ hI.1.1.2) rfl rfl (Nat.le_of_ble_eq_true rfl) ⟨(Nat.le_of_ble_eq_true rfl), (Nat.le_of_ble_eq_true rfl)⟩ ?_
        refine z_aloadn C rfl rfl ?_
        refine z_aload C rfl rfl ?_
        refine z_iloadn C rfl rfl ?_
        refine z_aloadn C rfl rfl ?_
        refine z_geti C rfl (zS_fun f (by omega)) rfl ?_
        obtain ⟨R2, t2, g2, m2, c2⟩ := zRI_cir (a := l) (b := (zcp g (783 + 6 * d + i) (335 + (s - 1 - (p - 1 - i)))).1 (751 + 3 * f) 0) R1 Sl (by omega) v1.2.2.2
        refine z_callv C rfl ⟨by decide, by decide⟩ zS_1 (c_cir (zKg_of C) Sl _) rfl rfl (Nat.le_of_ble_eq_true rfl) ⟨(Nat.le_of_ble_eq_true rfl), (Nat.le_of_ble_eq_true rfl)⟩ ?_
        refine z_istore C rfl ?_
        refine z_iload C rfl rfl ?_
        refine z_if C rfl (fun hc3 => ?_) (fun hc3 => ?_)
        · skip
          skip
          refine z_iinc C rfl rfl ?_
          refine z_goto C rfl ?_
          exact z_ll [(5, zi (nI (i + 1))), (4, zr (some (781 + 6 * d))), (3, zr (some (751 + 3 * f))), (1, zi l), (0, zr (some 1))] ⟨znx i, rfl, rfl, rfl, rfl, trivial⟩ (ih (i + 1) _ (by omega) ⟨R2, zSt_le (zSt_tr hI.2.1 (zSt_tr (zSt_vw Sl v1) t2)) (by omega), g2.2.trans ((zGk_vw Sl v1).2.trans hI.2.2.1), fun l hl => g2.1 _ (zS_cval d hd12 l hl) ((zGk_vw Sl v1).1 _ (zS_cval d hd12 l hl) (hI.2.2.2 l hl))⟩)
        · skip
          skip
          refine z_iload C rfl rfl ?_
          exact z_ireturnq C rfl he ⟨Nat.le_refl _, Nat.le_refl _⟩ rfl ⟨T, _, _, _, R2, zSt_le (zSt_tr hI.2.1 (zSt_tr (zSt_vw Sl v1) t2)) (by omega), rfl, fun e => absurd e zcr_9, Or.inl (g2.2.trans ((zGk_vw Sl v1).2.trans hI.2.2.1))⟩
set_option maxHeartbeats 400000 in
set_option maxRecDepth 20000 in
theorem q_enter {κ : zK} (hκ : zKg κ) {T s d f p : Nat} {l : Int32} (hf : f < 9) (hp : p ≤ 2) (hps : p ≤ s) (h : zH) (R : zRI h T s d) (ep : h.1 (751 + 3 * f) 1 = nI p) : zRq κ 50 [zr (some 1), zi l, zi (nI f)] h (zP1 h 2) 0 0 := by
  refine zRq_of hκ (by decide) (by decide +kernel) (Nat.le_of_ble_eq_true rfl) fun ω C hK he => ?_
  refine z_aloadn C rfl rfl ?_
  refine z_geti C rfl zS_1 rfl ?_
  rw [(zRI_d R).1]
  refine z_bipush C rfl ?_
  refine z_icmp C rfl (fun hc1 => ?_) (fun hc1 => ?_)
  · skip
    skip
    have hd12 : d < 12 := by
      by_cases q : d < 12
      · exact q
      · exact absurd hc1 (nI_nlt (a := d) (b := 12) (by omega) (by have := (zRI_d R).2; omega))
    refine z_aloadn C rfl rfl ?_
    refine z_gets C rfl zS_1 rfl (zfunF R.1) ?_
    refine z_iloadn C rfl rfl ?_
    refine z_aalds C rfl zS_330 (by decide) (by decide) (zin (n := 9) (by omega) (by decide)) (by rw [zclamp (n := 9) (by omega) (by decide)]; exact zfunA R.1 hf) ?_
    refine z_astoren C rfl ?_
    refine z_aloadn C rfl rfl ?_
    refine z_gets C rfl zS_1 rfl (zcalF R.1) ?_
    refine z_aloadn C rfl rfl ?_
    refine z_geti C rfl zS_1 rfl ?_
    rw [(zRI_d R).1]
    refine z_aalds C rfl zS_331 (by decide) (by decide) (zin (n := 12) (by omega) (by decide)) (by rw [zclamp (n := 12) (by omega) (by decide)]; exact zcalA R.1 hd12) ?_
    refine z_astore C rfl ?_
    refine z_aloadn C rfl rfl ?_
    refine z_dup C rfl rfl ?_
    refine z_getj C rfl zS_1 rfl ?_
    refine z_lconst C rfl ?_
    refine z_ladd C rfl ?_
    have R1 := zRI_J1 (j := 5) (x := h.2.1 1 5 + 1) R
    refine z_putj C rfl zS_1 rfl ⟨_, rfl⟩ ?_
    refine z_aload C rfl rfl ?_
    refine z_aloadn C rfl rfl ?_
    refine z_iloadn C rfl rfl ?_
    refine z_aloadn C rfl rfl ?_
    refine z_getj C rfl zS_1 rfl ?_
    obtain ⟨R2, t2, g2, v2⟩ := zcb_ok (n := nI f) (id := (zupJ h 1 5 (h.2.1 1 5 + 1)).2.1 1 5) R1 hd12 (show f < 10 by omega) (Nat.le_refl _)
    refine z_callv C rfl ⟨by decide, by decide⟩ (zS_call d hd12) (c_cb (zKg_of C) hd12 (by omega) _ R1.1) rfl rfl (Nat.le_of_ble_eq_true rfl) ⟨(Nat.le_of_ble_eq_true rfl), (Nat.le_of_ble_eq_true rfl)⟩ ?_
    refine z_iconst C rfl ?_
    refine z_istore C rfl ?_
    exact z_ll [(5, zi (nI 0)), (4, zr (some (781 + 6 * d))), (3, zr (some (751 + 3 * f))), (1, zi l), (0, zr (some 1))] ⟨rfl, rfl, rfl, rfl, rfl, trivial⟩ (l_enter C hd12 hf hp hps ep he p 0 _ (by omega) ⟨R2, zSt_tr (zSt_J1 (by decide)) t2, g2.2.trans zGk_J1.2, v2⟩)
  · skip
    skip
    refine z_bipush C rfl ?_
    exact z_ireturnq C rfl he ⟨Nat.le_refl _, Nat.le_refl _⟩ rfl ⟨T, s, d, _, R, zSt_refl, rfl, fun e => absurd e (by decide), Or.inl rfl⟩

