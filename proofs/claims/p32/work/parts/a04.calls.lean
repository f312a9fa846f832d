/-! calls that go on, end, are escaped to -/
theorem zcalA {h : zH} (hw : zWk h) {c : Nat} (hc : c < 12) : h.2.2.2 331 c = some (781 + 6 * c) := (hw.1.1.2.2.2.2.2.2.2.2.1 c hc).1
theorem zcalL {h : zH} (hw : zWk h) {c : Nat} (hc : c < 12) : h.2.2.2 (781 + 6 * c) 6 = some (782 + 6 * c) := (hw.1.1.2.2.2.2.2.2.2.2.1 c hc).2.1
theorem zcalV {h : zH} (hw : zWk h) {c l : Nat} (hc : c < 12) (hl : l < 4) : h.2.2.2 (782 + 6 * c) l = some (783 + 6 * c + l) := (hw.1.1.2.2.2.2.2.2.2.2.1 c hc).2.2 l hl
theorem zfunA {h : zH} (hw : zWk h) {f : Nat} (hf : f < 9) : h.2.2.2 330 f = some (751 + 3 * f) := hw.1.1.2.2.2.2.2.2.1 f hf
theorem zcalF0 {h : zH} (hw : zWk h) {c : Nat} (hc : c < 12) : ∃ f, f < 10 ∧ h.2.2.2 (781 + 6 * c) 0 = some (751 + 3 * f) := hw.1.2.2.2 c hc
theorem zRI_d {h : zH} {T s d : Nat} (R : zRI h T s d) : h.1 1 4 = nI d ∧ d ≤ 12 := ⟨R.2.2.2.2.2.2.1, R.2.2.2.2.2.1⟩
theorem zRI_b {h : zH} {T s d c : Nat} (R : zRI h T s d) (hc : c < d) : ∃ b, b ≤ T ∧ h.1 (781 + 6 * c) 5 = nI b := (R.2.2.2.2.2.2.2 c hc).1
theorem zRI_l {h : zH} {T s d c l : Nat} (R : zRI h T s d) (hc : c < d) (hl : l < 4) : zGd h (783 + 6 * c + l) := (R.2.2.2.2.2.2.2 c hc).2 l hl
/-- the fault's answer of a code that may go on elsewhere -/
def zP1 (h : zH) (n : Nat) : Option zV → zH → Prop := fun v h' => ∃ T s d x, zRI h' T s d ∧ zSt h h' n ∧ v = some (zi x) ∧ (x = 9 → zGd h' 749) ∧ (h'.1 1 9 = h.1 1 9 ∨ (d = 0 ∧ h'.1 1 9 = 114 ∧ x = 0))
theorem zm1 (m : Nat) : nI m + Int32.ofInt (Int.negSucc 0) = nI m - Int32.ofInt (Int.ofNat 1) := by
  rw [Int32.sub_eq_add_neg]
  rfl
set_option maxHeartbeats 400000 in
set_option maxRecDepth 20000 in
theorem q_goOn {κ : zK} (hκ : zKg κ) {T s d c k : Nat} (hc : c < d) (hk : zS k = (0, 6, 6)) {p : Int32} (h : zH) (R : zRI h T s d) (gd : zGd h k) : zRq κ 54 [zr (some 1), zr (some (781 + 6 * c)), zi p, zr (some k)] h (fun v h' => v = none ∧ ∃ T s, zRI h' T s d ∧ zSt h h' 0 ∧ zGk h h') 0 0 := by
  refine zRq_of hκ (by decide) (by decide +kernel) (Nat.le_of_ble_eq_true rfl) fun ω C hK he => ?_
  refine z_aloadn C rfl rfl ?_
  refine z_iloadn C rfl rfl ?_
  have hd := zRI_d R
  have h12 : c < 12 := by omega
  obtain ⟨b, hb, eb⟩ := zRI_b R hc
  have R1 := zRI_C (j := 4) (x := p) R h12 (by decide)
  have eb1 : (zupI h (781 + 6 * c) 4 p).1 (781 + 6 * c) 5 = nI b := (zupI_ne (fun q => by cases q.2)).trans eb
  refine z_puti C rfl (zS_call c h12) rfl ⟨_, rfl⟩ ?_
  refine z_aloadn C rfl rfl ?_
  refine z_gets C rfl zS_1 rfl (zstkF R1.1) ?_
  refine z_aloadn C rfl rfl ?_
  refine z_geti C rfl (zS_call c h12) rfl ?_
  rw [eb1]
  have R2 := zRI_top R1 hb
  refine z_puti C rfl zS_332 rfl ⟨_, rfl⟩ ?_
  refine z_aloadn C rfl rfl ?_
  refine z_gets C rfl zS_1 rfl (zstkF R2.1) ?_
  refine z_callv C rfl ⟨by decide, by decide⟩ zS_332 (c_push (zKg_of C) (zRI_s R2).2 _ R2.1.1.1 (zRI_s R2).1) rfl rfl (Nat.le_of_ble_eq_true rfl) ⟨(Nat.le_of_ble_eq_true rfl), (Nat.le_of_ble_eq_true rfl)⟩ ?_
  refine z_aloadn C rfl rfl ?_
  have v := zV_cp (zpuH_wk (s := b) R2.1) (zpuH_nn (s := b) R2.2.1) (zpu_S b) hk (zpuH_gk.1 _ hk (zGk_332.1 _ hk ((zGk_C h12).1 _ hk gd)))
  obtain ⟨T3, s3, R3⟩ := zRI_push R2 v
  refine z_callv C rfl ⟨by decide, by decide⟩ (zpu_S b) (c_become (zKg_of C) (zpu_S b) hk _ (zpuH_wk R2.1).2) rfl rfl (Nat.le_of_ble_eq_true rfl) ⟨(Nat.le_of_ble_eq_true rfl), (Nat.le_of_ble_eq_true rfl)⟩ ?_
  exact z_returnq C rfl he ⟨Nat.le_refl _, Nat.le_refl _⟩ rfl ⟨rfl, T3, s3, R3, zSt_tr zSt_C (zSt_tr zSt_332 (zpush_st v).1), zGk_tr (zGk_C h12) (zGk_tr zGk_332 (zpush_st v).2)⟩

set_option maxHeartbeats 400000 in
set_option maxRecDepth 20000 in
theorem l_lw {ω : zO} (C : zX ω 53) {h : zH} {T s d : Nat} (R : zRI h T s d) {id : Int64} (he : zEq ω (fun v h' => h' = h ∧ ∃ x, v = some (zi x) ∧ (¬ x < 0 → ∃ c, c < d ∧ x = nI c)) 0 0) : ∀ m : Nat, m ≤ d → ZG ω 53 7 [(3, zi (nI m - Int32.ofInt (Int.ofNat 1))), (1, zj id), (0, zr (some 1))] [] h 0 0 := by
  have hd := zRI_d R
  intro m
  induction m with
  | zero =>
    intro hm
    refine z_iloadn C rfl rfl ?_
    refine z_if C rfl (fun hc1 => ?_) (fun hc1 => ?_)
    · skip
      skip
      refine z_iconst C rfl ?_
      exact z_ireturnq C rfl he ⟨Nat.le_refl _, Nat.le_refl _⟩ rfl ⟨rfl, _, rfl, fun e => absurd (by decide) e⟩
    · skip
      skip
      exact absurd (by decide : nI 0 - Int32.ofInt (Int.ofNat 1) < 0) hc1
  | succ m ih =>
    intro hm
    rw [zsb1 m]
    refine z_iloadn C rfl rfl ?_
    refine z_if C rfl (fun hc1 => ?_) (fun hc1 => ?_)
    · skip
      skip
      exact absurd hc1 (nI_pos (by omega))
    · skip
      skip
      refine z_aloadn C rfl rfl ?_
      refine z_gets C rfl zS_1 rfl (zcalF R.1) ?_
      refine z_iloadn C rfl rfl ?_
      refine z_aalds C rfl zS_331 (by decide) (by decide) (zin (n := 12) (by omega) (by decide)) (by rw [zclamp (n := 12) (by omega) (by decide)]; exact zcalA R.1 (by omega)) ?_
      obtain ⟨f, hf, ef⟩ := zcalF0 R.1 (c := m) (by omega)
      refine z_gets C rfl (zS_call m (by omega)) rfl ef ?_
      refine z_geti C rfl (zS_fun f hf) rfl ?_
      refine z_iconst C rfl ?_
      refine z_icmp C rfl (fun hc2 => ?_) (fun hc2 => ?_)
      · skip
        skip
        refine z_aloadn C rfl rfl ?_
        refine z_gets C rfl zS_1 rfl (zcalF R.1) ?_
        refine z_iloadn C rfl rfl ?_
        refine z_aalds C rfl zS_331 (by decide) (by decide) (zin (n := 12) (by omega) (by decide)) (by rw [zclamp (n := 12) (by omega) (by decide)]; exact zcalA R.1 (by omega)) ?_
        refine z_getj C rfl (zS_call m (by omega)) rfl ?_
        refine z_lloadn C rfl rfl ?_
        refine z_lcmp C rfl ?_
        refine z_if C rfl (fun hc3 => ?_) (fun hc3 => ?_)
        · skip
          skip
          refine z_iinc C rfl rfl ?_
          refine z_goto C rfl ?_
          exact z_ll [(3, zi (nI m - Int32.ofInt (Int.ofNat 1))), (1, zj id), (0, zr (some 1))] ⟨congrArg (fun x => some (zi x)) (zm1 m), rfl, rfl, trivial⟩ (ih (by omega))
        · skip
          skip
          refine z_iloadn C rfl rfl ?_
          exact z_ireturnq C rfl he ⟨Nat.le_refl _, Nat.le_refl _⟩ rfl (by first | exact ⟨rfl, _, rfl, fun _ => ⟨m, by omega, rfl⟩⟩ | exact ⟨rfl, _, rfl, fun e => absurd (by decide) e⟩)
      · skip
        skip
        refine z_iconst C rfl ?_
        exact z_ireturnq C rfl he ⟨Nat.le_refl _, Nat.le_refl _⟩ rfl (by first | exact ⟨rfl, _, rfl, fun _ => ⟨m, by omega, rfl⟩⟩ | exact ⟨rfl, _, rfl, fun e => absurd (by decide) e⟩)
set_option maxHeartbeats 400000 in
set_option maxRecDepth 20000 in
theorem q_lw {κ : zK} (hκ : zKg κ) {T s d : Nat} {id : Int64} (h : zH) (R : zRI h T s d) : zRq κ 53 [zr (some 1), zj id] h (fun v h' => h' = h ∧ ∃ x, v = some (zi x) ∧ (¬ x < 0 → ∃ c, c < d ∧ x = nI c)) 0 0 := by
  refine zRq_of hκ (by decide) (by decide +kernel) (Nat.le_of_ble_eq_true rfl) fun ω C hK he => ?_
  refine z_aloadn C rfl rfl ?_
  refine z_geti C rfl zS_1 rfl ?_
  rw [(zRI_d R).1]
  refine z_iconst C rfl ?_
  refine z_isub C rfl ?_
  refine z_istoren C rfl ?_
  exact z_ll [(3, zi (nI d - Int32.ofInt (Int.ofNat 1))), (1, zj id), (0, zr (some 1))] ⟨rfl, rfl, rfl, trivial⟩ (l_lw C R he d (Nat.le_refl _))

set_option maxHeartbeats 400000 in
set_option maxRecDepth 20000 in
theorem q_endC {κ : zK} (hκ : zKg κ) {T s c : Nat} (h : zH) (R : zRI h T s (c + 1)) (gc : zGd h 748) : zRq κ 51 [zr (some 1), zr (some (781 + 6 * c))] h (fun v h' => ∃ T s d x, zRI h' T s d ∧ zSt h h' 1 ∧ v = some (zi x) ∧ x ≠ 9 ∧ ((h'.1 1 9 = h.1 1 9 ∧ d = c) ∨ (d = 0 ∧ h'.1 1 9 = 114 ∧ x = 0))) 0 0 := by
  refine zRq_of hκ (by decide) (by decide +kernel) (Nat.le_of_ble_eq_true rfl) fun ω C hK he => ?_
  refine z_aloadn C rfl rfl ?_
  refine z_gets C rfl zS_1 rfl (zstkF R.1) ?_
  refine z_aloadn C rfl rfl ?_
  have hd := zRI_d R
  have h12 : c < 12 := by omega
  obtain ⟨b, hb, eb⟩ := zRI_b R (Nat.lt_succ_self c)
  refine z_geti C rfl (zS_call c h12) rfl ?_
  rw [eb]
  have R1 := zRI_top R hb
  refine z_puti C rfl zS_332 rfl ⟨_, rfl⟩ ?_
  refine z_aloadn C rfl rfl ?_
  refine z_dup C rfl rfl ?_
  refine z_geti C rfl zS_1 rfl ?_
  rw [(zRI_d R1).1]
  refine z_iconst C rfl ?_
  refine z_isub C rfl ?_
  rw [zsb1 c]
  have R2 := zRI_less R1 (Nat.le_succ c)
  refine z_puti C rfl zS_1 rfl ⟨_, rfl⟩ ?_
  refine z_aloadn C rfl rfl ?_
  refine z_geti C rfl zS_1 rfl ?_
  rw [(zRI_d R2).1]
  refine z_iconst C rfl ?_
  refine z_icmp C rfl (fun hc1 => ?_) (fun hc1 => ?_)
  · skip
    skip
    have c1 : 1 ≤ c := by
      by_cases q : 1 ≤ c
      · exact q
      · exact absurd hc1 (nI_ge (a := c) (b := 1) (by omega) (by decide))
    refine z_aloadn C rfl rfl ?_
    refine z_gets C rfl zS_1 rfl (zcalF R2.1) ?_
    refine z_aloadn C rfl rfl ?_
    refine z_geti C rfl zS_1 rfl ?_
    rw [(zRI_d R2).1]
    refine z_iconst C rfl ?_
    refine z_isub C rfl ?_
    rw [show nI c - Int32.ofInt (Int.ofNat 1) = nI (c - 1) from zsubN c1]
    refine z_aalds C rfl zS_331 (by decide) (by decide) (zin (n := 12) (by omega) (by decide)) (by rw [zclamp (n := 12) (by omega) (by decide)]; exact zcalA R2.1 (by omega)) ?_
    obtain ⟨f, hf, ef⟩ := zcalF0 R2.1 (c := c - 1) (by omega)
    refine z_gets C rfl (zS_call (c - 1) (by omega)) rfl ef ?_
    refine z_astoren C rfl ?_
    refine z_aloadn C rfl rfl ?_
    refine z_aloadn C rfl rfl ?_
    refine z_gets C rfl zS_1 rfl (zcarF R2.1) ?_
    refine z_aloadn C rfl rfl ?_
    obtain ⟨g, hg, eg⟩ := zcalF0 R2.1 (c := c) (by omega)
    refine z_gets C rfl (zS_call c (by omega)) rfl eg ?_
    refine z_geti C rfl (zS_fun g hg) rfl ?_
    refine z_aloadn C rfl rfl ?_
    refine z_geti C rfl (zS_fun f hf) rfl ?_
    obtain ⟨R3, t3, g3, m3, c3⟩ := zRI_cir (a := (zupI (zupI h 332 2 (nI b)) 1 4 (nI c)).1 (751 + 3 * g) 0) (b := (zupI (zupI h 332 2 (nI b)) 1 4 (nI c)).1 (751 + 3 * f) 0) R2 zS_748 (by decide) (zGk_I14.1 _ zS_748 (zGk_332.1 _ zS_748 gc))
    refine z_callv C rfl ⟨by decide, by decide⟩ zS_1 (c_cir (zKg_of C) zS_748 _) rfl rfl (Nat.le_of_ble_eq_true rfl) ⟨(Nat.le_of_ble_eq_true rfl), (Nat.le_of_ble_eq_true rfl)⟩ ?_
    refine z_istoren C rfl ?_
    refine z_iloadn C rfl rfl ?_
    refine z_if C rfl (fun hc2 => ?_) (fun hc2 => ?_)
    · skip
      skip
      refine z_iloadn C rfl rfl ?_
      exact z_ireturnq C rfl he ⟨Nat.le_refl _, Nat.le_refl _⟩ rfl (by first | exact ⟨T4, s4, _, _, R4, zSt_tr (zSt_tr zSt_332 zSt_I14) (zSt_tr t3 (zpush_st v4).1), rfl, zcr_9, Or.inl ⟨(zGk_tr zGk_332 (zGk_tr zGk_I14 (zGk_tr g3 (zpush_st v4).2))).2, rfl⟩⟩ | exact ⟨T, b, _, _, R3, zSt_tr (zSt_tr zSt_332 zSt_I14) t3, rfl, zcr_9, Or.inl ⟨(zGk_tr zGk_332 (zGk_tr zGk_I14 g3)).2, rfl⟩⟩)
    · skip
      skip
      refine z_aloadn C rfl rfl ?_
      refine z_gets C rfl zS_1 rfl (zstkF R3.1) ?_
      refine z_callv C rfl ⟨by decide, by decide⟩ zS_332 (c_push (zKg_of C) (zRI_s R3).2 _ R3.1.1.1 (zRI_s R3).1) rfl rfl (Nat.le_of_ble_eq_true rfl) ⟨(Nat.le_of_ble_eq_true rfl), (Nat.le_of_ble_eq_true rfl)⟩ ?_
      refine z_aloadn C rfl rfl ?_
      refine z_gets C rfl zS_1 rfl (zcarF (zpuH_wk R3.1)) ?_
      have v4 := zV_cp (zpuH_wk (s := b) R3.1) (zpuH_nn (s := b) R3.2.1) (zpu_S b) zS_748 (zpuH_gk.1 _ zS_748 c3)
      obtain ⟨T4, s4, R4⟩ := zRI_push R3 v4
      refine z_callv C rfl ⟨by decide, by decide⟩ (zpu_S b) (c_become (zKg_of C) (zpu_S b) zS_748 _ (zpuH_wk R3.1).2) rfl rfl (Nat.le_of_ble_eq_true rfl) ⟨(Nat.le_of_ble_eq_true rfl), (Nat.le_of_ble_eq_true rfl)⟩ ?_
      refine z_iloadn C rfl rfl ?_
      exact z_ireturnq C rfl he ⟨Nat.le_refl _, Nat.le_refl _⟩ rfl (by first | exact ⟨T4, s4, _, _, R4, zSt_tr (zSt_tr zSt_332 zSt_I14) (zSt_tr t3 (zpush_st v4).1), rfl, zcr_9, Or.inl ⟨(zGk_tr zGk_332 (zGk_tr zGk_I14 (zGk_tr g3 (zpush_st v4).2))).2, rfl⟩⟩ | exact ⟨T, b, _, _, R3, zSt_tr (zSt_tr zSt_332 zSt_I14) t3, rfl, zcr_9, Or.inl ⟨(zGk_tr zGk_332 (zGk_tr zGk_I14 g3)).2, rfl⟩⟩)
  · skip
    skip
    have c0 : c = 0 := by
      by_cases q : c = 0
      · exact q
      · exact absurd (nI_le (a := 1) (b := c) (by omega) (by omega)) hc1
    subst c0
    have R3 := zRI_out (x := 114) R2 (by unfold zCh; decide)
    refine z_aloadn C rfl rfl ?_
    refine z_bipush C rfl ?_
    refine z_puti C rfl zS_1 rfl ⟨_, rfl, by decide, by decide⟩ ?_
    refine z_aloadn C rfl rfl ?_
    refine z_gets C rfl zS_1 rfl (zresF R3.1) ?_
    refine z_aloadn C rfl rfl ?_
    refine z_gets C rfl zS_1 rfl (zcarF R3.1) ?_
    have v := zV_cp R3.1 R3.2.1 zS_747 zS_748 (zGd_I zt01 (fun q => by omega) (zGk_I14.1 _ zS_748 (zGk_332.1 _ zS_748 gc)))
    have R4 := zRI_vw R3 zS_747 (by decide) v
    refine z_callv C rfl ⟨by decide, by decide⟩ zS_747 (c_become (zKg_of C) zS_747 zS_748 _ R3.1.2) rfl rfl (Nat.le_of_ble_eq_true rfl) ⟨(Nat.le_of_ble_eq_true rfl), (Nat.le_of_ble_eq_true rfl)⟩ ?_
    refine z_iconst C rfl ?_
    exact z_ireturnq C rfl he ⟨Nat.le_refl _, Nat.le_refl _⟩ rfl ⟨T, b, _, _, R4, zSt_le (zSt_tr (zSt_tr zSt_332 zSt_I14) (zSt_tr (zSt_I1 (by decide)) (zSt_vw zS_747 v))) (by decide), rfl, by decide, Or.inr ⟨rfl, (zGk_vw zS_747 v).2.trans zupI_at, rfl⟩⟩

