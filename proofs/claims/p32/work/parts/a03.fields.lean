/-! a new thing pushed, a field read or written in a run -/
theorem zpuH_t {h : zH} {s r : Nat} {j : Nat} (hr : r < 60) : (zpuH h s).1 (30 + 5 * r) j = h.1 (30 + 5 * r) j := by
  unfold zpuH
  split
  · exact zupI_ne (fun q => by omega)
  · rfl
theorem zpoH_c {h : zH} {s : Nat} : (zpoH h s).2.2.2 = h.2.2.2 := by
  unfold zpoH
  split
  · rfl
  · rfl
/-- what a good reference refers to -/
theorem zref_g {h : zH} {k : Nat} (g : zGd h k) (e : zisRef h k = true) : ∃ r, r < 60 ∧ h.2.2.2 k 5 = some (30 + 5 * r) ∧ 0 ≤ h.1 (30 + 5 * r) 0 := by
  unfold zisRef at e
  rw [Bool.and_eq_true, decide_eq_true_iff] at e
  obtain ⟨r, hr, e1, e2, -⟩ := g e.1
  exact ⟨r, hr, e1, e2⟩
set_option maxHeartbeats 400000 in
set_option maxRecDepth 20000 in
theorem q_pushN {κ : zK} (hκ : zKg κ) {T s d l : Nat} (hl : l < 3) (h : zH) (R : zRI h T s d) : zRq κ 47 [zr (some 1), zi (nI l)] h (zP0 h d 0) 0 0 := by
  refine zRq_of hκ (by decide) (by decide +kernel) (Nat.le_of_ble_eq_true rfl) fun ω C hK he => ?_
  refine z_aloadn C rfl rfl ?_
  refine z_gets C rfl zS_1 rfl (zheaF R.1) ?_
  refine z_iloadn C rfl rfl ?_
  refine z_callv C rfl ⟨by decide, by decide⟩ zS_2 (c_new (zKg_of C) _ R.1) rfl rfl (Nat.le_of_ble_eq_true rfl) ⟨(Nat.le_of_ble_eq_true rfl), (Nat.le_of_ble_eq_true rfl)⟩ ?_
  refine z_astoren C rfl ?_
  refine z_aloadn C rfl rfl ?_
  refine z_ifnonnull C rfl (fun hq1 => ?_) (fun r1 hq1 => ?_)
  · skip
    rw [znw_none 60 0 hq1]
    refine z_bipush C rfl ?_
    exact z_ireturnq C rfl he ⟨Nat.le_refl _, Nat.le_refl _⟩ rfl ⟨T, s, _, R, zSt_refl, zGk_refl, rfl, fun e => absurd e (by decide)⟩
  · skip
    obtain ⟨r, hr, rfl, h0, e2⟩ := znw_some 60 0 rfl _ hq1
    rw [hq1, e2]
    obtain ⟨n1, n2, n3, n4, n5, n6, n7, -⟩ := znew_ok R.1 R.2.1 R.2.2.2.1 hr hl h0
    have R1 := zRI_keep R n1 n2 n3 n4 n5 n6
    refine z_aloadn C rfl rfl ?_
    refine z_gets C rfl zS_1 rfl (zstkF n1) ?_
    refine z_callv C rfl ⟨by decide, by decide⟩ zS_332 (c_push (zKg_of C) (zRI_s R1).2 _ R1.1.1.1 (zRI_s R1).1) rfl rfl (Nat.le_of_ble_eq_true rfl) ⟨(Nat.le_of_ble_eq_true rfl), (Nat.le_of_ble_eq_true rfl)⟩ ?_
    refine z_aloadn C rfl rfl ?_
    have v := zV_ref (zpuH_wk (s := s) R1.1) (zpuH_nn (s := s) R1.2.1) (zpu_S s) hr (by rw [zpuH_t hr]; exact n7)
    obtain ⟨T1, s1, R2⟩ := zRI_push R1 v
    refine z_callv C rfl ⟨by decide, by decide⟩ (zpu_S s) (c_becomeReference (zKg_of C) (zpu_S s) (zS_thing r hr) _) rfl rfl (Nat.le_of_ble_eq_true rfl) ⟨(Nat.le_of_ble_eq_true rfl), (Nat.le_of_ble_eq_true rfl)⟩ ?_
    refine z_iconst C rfl ?_
    exact z_ireturnq C rfl he ⟨Nat.le_refl _, Nat.le_refl _⟩ rfl ⟨T1, s1, _, R2, zSt_tr n5 (zpush_st v).1, zGk_tr n4 (zpush_st v).2, rfl, fun e => absurd e (by decide)⟩

set_option maxHeartbeats 400000 in
set_option maxRecDepth 20000 in
theorem q_readF {κ : zK} (hκ : zKg κ) {T s d l f : Nat} (hl : l < 3) (hf : f < 3) (h : zH) (R : zRI h T s d) (hs1 : 1 ≤ s) : zRq κ 48 [zr (some 1), zi (nI l), zi (nI f)] h (zP0 h d 1) 0 0 := by
  refine zRq_of hκ (by decide) (by decide +kernel) (Nat.le_of_ble_eq_true rfl) fun ω C hK he => ?_
  refine z_aloadn C rfl rfl ?_
  refine z_gets C rfl zS_1 rfl (zstkF R.1) ?_
  have R1 := zRI_pop R
  have gp := zpo_gd R hs1
  have Sp := zpo_S (zRI_s R).2
  refine z_callv C rfl ⟨by decide, by decide⟩ zS_332 (c_pop (zKg_of C) (zRI_s R).2 _ R.1.1.1 (zRI_s R).1) rfl rfl (Nat.le_of_ble_eq_true rfl) ⟨(Nat.le_of_ble_eq_true rfl), (Nat.le_of_ble_eq_true rfl)⟩ ?_
  refine z_astoren C rfl ?_
  refine z_aloadn C rfl rfl ?_
  refine z_callv C rfl ⟨by decide, by decide⟩ Sp (c_isReference (zKg_of C) Sp _) rfl rfl (Nat.le_of_ble_eq_true rfl) ⟨(Nat.le_of_ble_eq_true rfl), (Nat.le_of_ble_eq_true rfl)⟩ ?_
  refine z_if C rfl (fun hc1 => ?_) (fun hc1 => ?_)
  · skip
    skip
    refine z_aloadn C rfl rfl ?_
    obtain ⟨r, hr, er, n0⟩ := zref_g gp (zbq3 hc1)
    refine z_gets C rfl Sp rfl er ?_
    refine z_astore C rfl ?_
    refine z_aloadn C rfl rfl ?_
    refine z_gets C rfl zS_1 rfl (zcarF R1.1) ?_
    refine z_aload C rfl rfl ?_
    refine z_gets C rfl (zS_thing r hr) rfl (R1.1.1.1.2.2.2.2.2.1 r hr).2.1 ?_
    refine z_iloadn C rfl rfl ?_
    refine z_aalds C rfl (zS_tarr r hr) (by decide) (by decide) (zin hf (by decide)) (by rw [zclamp hf (by decide)]; exact (R1.1.1.1.2.2.2.2.2.1 r hr).2.2 f hf) ?_
    have v1 := zV_cp R1.1 R1.2.1 zS_748 (zS_tval r hr f hf) ((R1.2.2.2.1.2.1 r hr n0).2 f hf).1
    have R2 := zRI_vw R1 zS_748 (by decide) v1
    refine z_callv C rfl ⟨by decide, by decide⟩ zS_748 (c_become (zKg_of C) zS_748 (zS_tval r hr f hf) _ R1.1.2) rfl rfl (Nat.le_of_ble_eq_true rfl) ⟨(Nat.le_of_ble_eq_true rfl), (Nat.le_of_ble_eq_true rfl)⟩ ?_
    refine z_aloadn C rfl rfl ?_
    refine z_aloadn C rfl rfl ?_
    refine z_gets C rfl zS_1 rfl (zcarF R2.1) ?_
    refine z_aload C rfl rfl ?_
    refine z_geti C rfl (zS_thing r hr) rfl ?_
    refine z_iloadn C rfl rfl ?_
    obtain ⟨R3, t3, g3, m3, c3⟩ := zRI_cir (a := (zcp (zpoH h s) 748 (32 + 5 * r + f)).1 (30 + 5 * r) 1) (b := nI l) R2 zS_748 (by decide) v1.2.2.2
    refine z_callv C rfl ⟨by decide, by decide⟩ zS_1 (c_cir (zKg_of C) zS_748 _) rfl rfl (Nat.le_of_ble_eq_true rfl) ⟨(Nat.le_of_ble_eq_true rfl), (Nat.le_of_ble_eq_true rfl)⟩ ?_
    refine z_istore C rfl ?_
    refine z_iload C rfl rfl ?_
    refine z_if C rfl (fun hc2 => ?_) (fun hc2 => ?_)
    · skip
      skip
      refine z_iload C rfl rfl ?_
      exact z_ireturnq C rfl he ⟨Nat.le_refl _, Nat.le_refl _⟩ rfl (by first | exact ⟨T4, s4, _, R4, zSt_tr zpoH_st (zSt_tr (zSt_vw zS_748 v1) (zSt_tr t3 (zpush_st v4).1)), zGk_tr zpoH_gk (zGk_tr (zGk_vw zS_748 v1) (zGk_tr g3 (zpush_st v4).2)), rfl, fun e => absurd e zcr_9⟩ | exact ⟨T, s - 1, _, R3, zSt_tr zpoH_st (zSt_tr (zSt_vw zS_748 v1) t3), zGk_tr zpoH_gk (zGk_tr (zGk_vw zS_748 v1) g3), rfl, fun e => absurd e zcr_9⟩ | exact ⟨T, s - 1, _, R1, zSt_le zpoH_st (by decide), zpoH_gk, rfl, fun e => absurd e (by decide)⟩)
    · skip
      skip
      refine z_aloadn C rfl rfl ?_
      refine z_gets C rfl zS_1 rfl (zstkF R3.1) ?_
      refine z_callv C rfl ⟨by decide, by decide⟩ zS_332 (c_push (zKg_of C) (zRI_s R3).2 _ R3.1.1.1 (zRI_s R3).1) rfl rfl (Nat.le_of_ble_eq_true rfl) ⟨(Nat.le_of_ble_eq_true rfl), (Nat.le_of_ble_eq_true rfl)⟩ ?_
      refine z_aloadn C rfl rfl ?_
      refine z_gets C rfl zS_1 rfl (zcarF (zpuH_wk R3.1)) ?_
      have v4 := zV_cp (zpuH_wk (s := s - 1) R3.1) (zpuH_nn (s := s - 1) R3.2.1) (zpu_S (s - 1)) zS_748 (zpuH_gk.1 _ zS_748 c3)
      obtain ⟨T4, s4, R4⟩ := zRI_push R3 v4
      refine z_callv C rfl ⟨by decide, by decide⟩ (zpu_S (s - 1)) (c_become (zKg_of C) (zpu_S (s - 1)) zS_748 _ (zpuH_wk R3.1).2) rfl rfl (Nat.le_of_ble_eq_true rfl) ⟨(Nat.le_of_ble_eq_true rfl), (Nat.le_of_ble_eq_true rfl)⟩ ?_
      refine z_iload C rfl rfl ?_
      exact z_ireturnq C rfl he ⟨Nat.le_refl _, Nat.le_refl _⟩ rfl (by first | exact ⟨T4, s4, _, R4, zSt_tr zpoH_st (zSt_tr (zSt_vw zS_748 v1) (zSt_tr t3 (zpush_st v4).1)), zGk_tr zpoH_gk (zGk_tr (zGk_vw zS_748 v1) (zGk_tr g3 (zpush_st v4).2)), rfl, fun e => absurd e zcr_9⟩ | exact ⟨T, s - 1, _, R3, zSt_tr zpoH_st (zSt_tr (zSt_vw zS_748 v1) t3), zGk_tr zpoH_gk (zGk_tr (zGk_vw zS_748 v1) g3), rfl, fun e => absurd e zcr_9⟩ | exact ⟨T, s - 1, _, R1, zSt_le zpoH_st (by decide), zpoH_gk, rfl, fun e => absurd e (by decide)⟩)
  · skip
    skip
    refine z_iconst C rfl ?_
    exact z_ireturnq C rfl he ⟨Nat.le_refl _, Nat.le_refl _⟩ rfl (by first | exact ⟨T4, s4, _, R4, zSt_tr zpoH_st (zSt_tr (zSt_vw zS_748 v1) (zSt_tr t3 (zpush_st v4).1)), zGk_tr zpoH_gk (zGk_tr (zGk_vw zS_748 v1) (zGk_tr g3 (zpush_st v4).2)), rfl, fun e => absurd e zcr_9⟩ | exact ⟨T, s - 1, _, R3, zSt_tr zpoH_st (zSt_tr (zSt_vw zS_748 v1) t3), zGk_tr zpoH_gk (zGk_tr (zGk_vw zS_748 v1) g3), rfl, fun e => absurd e zcr_9⟩ | exact ⟨T, s - 1, _, R1, zSt_le zpoH_st (by decide), zpoH_gk, rfl, fun e => absurd e (by decide)⟩)

set_option maxHeartbeats 400000 in
set_option maxRecDepth 20000 in
theorem q_writeF {κ : zK} (hκ : zKg κ) {T s d l f : Nat} (hl : l < 3) (hf : f < 3) (h : zH) (R : zRI h T s d) (hs2 : 2 ≤ s) : zRq κ 49 [zr (some 1), zi (nI l), zi (nI f)] h (zP0 h d 1) 0 0 := by
  refine zRq_of hκ (by decide) (by decide +kernel) (Nat.le_of_ble_eq_true rfl) fun ω C hK he => ?_
  refine z_aloadn C rfl rfl ?_
  refine z_gets C rfl zS_1 rfl (zcarF R.1) ?_
  refine z_aloadn C rfl rfl ?_
  refine z_gets C rfl zS_1 rfl (zstkF R.1) ?_
  have R1 := zRI_pop R
  have gp := zpo_gd R (by omega)
  have Sp := zpo_S (zRI_s R).2
  refine z_callv C rfl ⟨by decide, by decide⟩ zS_332 (c_pop (zKg_of C) (zRI_s R).2 _ R.1.1.1 (zRI_s R).1) rfl rfl (Nat.le_of_ble_eq_true rfl) ⟨(Nat.le_of_ble_eq_true rfl), (Nat.le_of_ble_eq_true rfl)⟩ ?_
  have v1 := zV_cp R1.1 R1.2.1 zS_748 Sp gp
  have R2 := zRI_vw R1 zS_748 (by decide) v1
  refine z_callv C rfl ⟨by decide, by decide⟩ zS_748 (c_become (zKg_of C) zS_748 Sp _ R1.1.2) rfl rfl (Nat.le_of_ble_eq_true rfl) ⟨(Nat.le_of_ble_eq_true rfl), (Nat.le_of_ble_eq_true rfl)⟩ ?_
  refine z_aloadn C rfl rfl ?_
  refine z_gets C rfl zS_1 rfl (zstkF R2.1) ?_
  have R3 := zRI_pop R2
  have gq := zpo_gd R2 (by omega)
  have Sq := zpo_S (zRI_s R2).2
  refine z_callv C rfl ⟨by decide, by decide⟩ zS_332 (c_pop (zKg_of C) (zRI_s R2).2 _ R2.1.1.1 (zRI_s R2).1) rfl rfl (Nat.le_of_ble_eq_true rfl) ⟨(Nat.le_of_ble_eq_true rfl), (Nat.le_of_ble_eq_true rfl)⟩ ?_
  refine z_astoren C rfl ?_
  refine z_aloadn C rfl rfl ?_
  refine z_callv C rfl ⟨by decide, by decide⟩ Sq (c_isReference (zKg_of C) Sq _) rfl rfl (Nat.le_of_ble_eq_true rfl) ⟨(Nat.le_of_ble_eq_true rfl), (Nat.le_of_ble_eq_true rfl)⟩ ?_
  refine z_if C rfl (fun hc1 => ?_) (fun hc1 => ?_)
  · skip
    skip
    refine z_aloadn C rfl rfl ?_
    obtain ⟨r, hr, er, n0⟩ := zref_g gq (zbq3 hc1)
    refine z_gets C rfl Sq rfl er ?_
    refine z_astore C rfl ?_
    refine z_aloadn C rfl rfl ?_
    refine z_aloadn C rfl rfl ?_
    refine z_gets C rfl zS_1 rfl (zcarF R3.1) ?_
    refine z_iloadn C rfl rfl ?_
    refine z_aload C rfl rfl ?_
    refine z_geti C rfl (zS_thing r hr) rfl ?_
    obtain ⟨R4, t4, g4, m4, c4⟩ := zRI_cir (a := nI l) (b := (zpoH (zcp (zpoH h s) 748 (zpo s)) (s - 1)).1 (30 + 5 * r) 1) R3 zS_748 (by decide) (zpoH_gk.1 _ zS_748 v1.2.2.2)
    refine z_callv C rfl ⟨by decide, by decide⟩ zS_1 (c_cir (zKg_of C) zS_748 _) rfl rfl (Nat.le_of_ble_eq_true rfl) ⟨(Nat.le_of_ble_eq_true rfl), (Nat.le_of_ble_eq_true rfl)⟩ ?_
    refine z_istore C rfl ?_
    refine z_iload C rfl rfl ?_
    refine z_if C rfl (fun hc2 => ?_) (fun hc2 => ?_)
    · skip
      skip
      refine z_iload C rfl rfl ?_
      exact z_ireturnq C rfl he ⟨Nat.le_refl _, Nat.le_refl _⟩ rfl (by first | exact ⟨T, _, _, R5, zSt_tr zpoH_st (zSt_tr (zSt_vw zS_748 v1) (zSt_tr zpoH_st (zSt_tr t4 t5))), zGk_tr zpoH_gk (zGk_tr (zGk_vw zS_748 v1) (zGk_tr zpoH_gk (zGk_tr g4 g5))), rfl, fun e => absurd e zcr_9⟩ | exact ⟨T, _, _, R4, zSt_tr zpoH_st (zSt_tr (zSt_vw zS_748 v1) (zSt_tr zpoH_st t4)), zGk_tr zpoH_gk (zGk_tr (zGk_vw zS_748 v1) (zGk_tr zpoH_gk g4)), rfl, fun e => absurd e zcr_9⟩ | exact ⟨T, _, _, R3, zSt_le (zSt_tr zpoH_st (zSt_tr (zSt_vw zS_748 v1) zpoH_st)) (by decide), zGk_tr zpoH_gk (zGk_tr (zGk_vw zS_748 v1) zpoH_gk), rfl, fun e => absurd e (by decide)⟩)
    · skip
      skip
      refine z_aloadn C rfl rfl ?_
      refine z_gets C rfl zS_1 rfl (zheaF R4.1) ?_
      refine z_aload C rfl rfl ?_
      refine z_iloadn C rfl rfl ?_
      refine z_aloadn C rfl rfl ?_
      refine z_gets C rfl zS_1 rfl (zcarF R4.1) ?_
      obtain ⟨R5, t5, g5⟩ := zRI_stF R4 hr hf zS_748 (by decide) c4
      refine z_callv C rfl ⟨by decide, by decide⟩ zS_2 (c_stF (zKg_of C) hr hf zS_748 _ R4.1) rfl rfl (Nat.le_of_ble_eq_true rfl) ⟨(Nat.le_of_ble_eq_true rfl), (Nat.le_of_ble_eq_true rfl)⟩ ?_
      refine z_iload C rfl rfl ?_
      exact z_ireturnq C rfl he ⟨Nat.le_refl _, Nat.le_refl _⟩ rfl (by first | exact ⟨T, _, _, R5, zSt_tr zpoH_st (zSt_tr (zSt_vw zS_748 v1) (zSt_tr zpoH_st (zSt_tr t4 t5))), zGk_tr zpoH_gk (zGk_tr (zGk_vw zS_748 v1) (zGk_tr zpoH_gk (zGk_tr g4 g5))), rfl, fun e => absurd e zcr_9⟩ | exact ⟨T, _, _, R4, zSt_tr zpoH_st (zSt_tr (zSt_vw zS_748 v1) (zSt_tr zpoH_st t4)), zGk_tr zpoH_gk (zGk_tr (zGk_vw zS_748 v1) (zGk_tr zpoH_gk g4)), rfl, fun e => absurd e zcr_9⟩ | exact ⟨T, _, _, R3, zSt_le (zSt_tr zpoH_st (zSt_tr (zSt_vw zS_748 v1) zpoH_st)) (by decide), zGk_tr zpoH_gk (zGk_tr (zGk_vw zS_748 v1) zpoH_gk), rfl, fun e => absurd e (by decide)⟩)
  · skip
    skip
    refine z_iconst C rfl ?_
    exact z_ireturnq C rfl he ⟨Nat.le_refl _, Nat.le_refl _⟩ rfl (by first | exact ⟨T, _, _, R5, zSt_tr zpoH_st (zSt_tr (zSt_vw zS_748 v1) (zSt_tr zpoH_st (zSt_tr t4 t5))), zGk_tr zpoH_gk (zGk_tr (zGk_vw zS_748 v1) (zGk_tr zpoH_gk (zGk_tr g4 g5))), rfl, fun e => absurd e zcr_9⟩ | exact ⟨T, _, _, R4, zSt_tr zpoH_st (zSt_tr (zSt_vw zS_748 v1) (zSt_tr zpoH_st t4)), zGk_tr zpoH_gk (zGk_tr (zGk_vw zS_748 v1) (zGk_tr zpoH_gk g4)), rfl, fun e => absurd e zcr_9⟩ | exact ⟨T, _, _, R3, zSt_le (zSt_tr zpoH_st (zSt_tr (zSt_vw zS_748 v1) zpoH_st)) (by decide), zGk_tr zpoH_gk (zGk_tr (zGk_vw zS_748 v1) zpoH_gk), rfl, fun e => absurd e (by decide)⟩)

