/-! a throw: its trace, its way down -/
theorem zcir_1 {h : zH} {T s d k j : Nat} {a b : Int32} (R : zRI h T s d) (hk : zS k = (0, 6, 6)) (g : zGd h k) : (zcir h k a b).2.1 1 j = h.1 1 j := by
  have R1 := zcirH_ri (a := a) (b := b) R
  have v : zVW (zcirH h a b) k (zcir h k a b).2 := zV_cr R1.1 R1.2.1 hk (zcirH_gk.1 k hk g)
  rw [(v.1 1 (fun q => zne_o hk zS_1 (by omega) q.symm)).1]
  unfold zcirH
  split <;> rfl
theorem zvw_1 {h h' : zH} {k j : Nat} (hk : zS k = (0, 6, 6)) (v : zVW h k h') : h'.1 1 j = h.1 1 j := by rw [(v.1 1 (fun q => zne_o hk zS_1 (by omega) q.symm)).1]
/-- under way in a throw -/
def zTw (h g : zH) (T s d n t : Nat) : Prop := zRI g T s d ∧ zSt h g n ∧ zGk h g ∧ t ≤ 24 ∧ g.1 1 15 = nI t
set_option maxHeartbeats 400000 in
set_option maxRecDepth 20000 in
theorem l_bta {ω : zO} (C : zX ω 56) {h : zH} {T s d c t : Nat} (h12 : c < 12) (he : zEq ω (fun v h' => v = none ∧ ∃ t', zTw h h' T s d 0 t' ∧ t ≤ t' ∧ (t < 24 → t + 1 ≤ t')) 0 0) : ∀ (m : Nat) (g : zH) (u : Nat), m ≤ c + 1 → zTw h g T s d 0 u ∧ t ≤ u ∧ (m < c + 1 → t < 24 → t + 1 ≤ u) → ZG ω 56 18 [(2, zi (nI m - Int32.ofInt (Int.ofNat 1))), (0, zr (some 1))] [] g 0 0 := by
  intro m
  induction m with
  | zero =>
    intro g u hm hI
    refine z_iloadn C rfl rfl ?_
    refine z_if C rfl (fun hc1 => ?_) (fun hc1 => ?_)
    · skip
      skip
      exact z_returnq C rfl he ⟨Nat.le_refl _, Nat.le_refl _⟩ rfl ⟨rfl, u, hI.1, hI.2.1, hI.2.2 (by omega)⟩
    · skip
      skip
      exact absurd (by decide : nI 0 - Int32.ofInt (Int.ofNat 1) < 0) hc1
  | succ m ih =>
    intro g u hm hI
    rw [zsb1 m]
    refine z_iloadn C rfl rfl ?_
    refine z_if C rfl (fun hc1 => ?_) (fun hc1 => ?_)
    · skip
      skip
      skip
      exact z_returnq C rfl he ⟨Nat.le_refl _, Nat.le_refl _⟩ rfl (by first | exact absurd hc1 (nI_pos (by omega)) | exact ⟨rfl, u, hI.1, hI.2.1, fun e => (by by_cases q : 24 ≤ u <;> first | omega | exact absurd hc2 (nI_ge (a := u) (b := 24) (by omega) (by decide)))⟩)
    · skip
      skip
      refine z_aloadn C rfl rfl ?_
      refine z_geti C rfl zS_1 rfl ?_
      rw [hI.1.2.2.2.2]
      refine z_bipush C rfl ?_
      refine z_icmp C rfl (fun hc2 => ?_) (fun hc2 => ?_)
      · skip
        skip
        skip
        exact z_returnq C rfl he ⟨Nat.le_refl _, Nat.le_refl _⟩ rfl (by first | exact absurd hc1 (nI_pos (by omega)) | exact ⟨rfl, u, hI.1, hI.2.1, fun e => (by by_cases q : 24 ≤ u <;> first | omega | exact absurd hc2 (nI_ge (a := u) (b := 24) (by omega) (by decide)))⟩)
      · skip
        skip
        have u24 : u < 24 := by
          by_cases q : u < 24
          · exact q
          · exact absurd (nI_le (a := 24) (b := u) (by omega) (by have := hI.1.2.2.2.1; omega)) hc2
        refine z_aloadn C rfl rfl ?_
        refine z_gets C rfl zS_1 rfl (ztrF hI.1.1.1) ?_
        refine z_aloadn C rfl rfl ?_
        refine z_geti C rfl zS_1 rfl ?_
        rw [hI.1.2.2.2.2]
        refine z_bipush C rfl ?_
        refine z_aloadn C rfl rfl ?_
        refine z_gets C rfl zS_1 rfl (zcalF hI.1.1.1) ?_
        refine z_iloadn C rfl rfl ?_
        refine z_aalds C rfl zS_331 (by decide) (by decide) (zin (n := 12) (by omega) (by decide)) (by rw [zclamp (n := 12) (by omega) (by decide)]; exact zcalA hI.1.1.1 (by omega)) ?_
        refine z_geti C rfl (zS_call m (by omega)) rfl ?_
        refine z_imul C rfl ?_
        refine z_aloadn C rfl rfl ?_
        refine z_gets C rfl zS_1 rfl (zcalF hI.1.1.1) ?_
        refine z_iloadn C rfl rfl ?_
        refine z_aalds C rfl zS_331 (by decide) (by decide) (zin (n := 12) (by omega) (by decide)) (by rw [zclamp (n := 12) (by omega) (by decide)]; exact zcalA hI.1.1.1 (by omega)) ?_
        refine z_geti C rfl (zS_call m (by omega)) rfl ?_
        refine z_iadd C rfl ?_
        have R1 := zRI_750 (j := u) (x := Int32.ofInt (Int.ofNat 100) * g.1 (781 + 6 * m) 1 + g.1 (781 + 6 * m) 3) hI.1.1
        refine z_iast C rfl zS_750 (zin u24 (by decide)) ?_
        rw [zclamp u24 (by decide)]
        refine z_aloadn C rfl rfl ?_
        refine z_dup C rfl rfl ?_
        refine z_geti C rfl zS_1 rfl ?_
        rw [show (zupI g 750 u (Int32.ofInt (Int.ofNat 100) * g.1 (781 + 6 * m) 1 + g.1 (781 + 6 * m) 3)).1 1 15 = nI u from (zupI_ne (fun q => by omega)).trans hI.1.2.2.2.2]
        refine z_iconst C rfl ?_
        refine z_iadd C rfl ?_
        rw [show nI u + Int32.ofInt (Int.ofNat 1) = nI (u + 1) from nI_1 u]
        have R2 := zRI_I1 (j := 15) (x := nI (u + 1)) R1.1 (by decide) (by decide) (by decide)
        refine z_puti C rfl zS_1 rfl ⟨_, rfl⟩ ?_
        refine z_iinc C rfl rfl ?_
        refine z_goto C rfl ?_
        exact z_ll [(2, zi (nI m - Int32.ofInt (Int.ofNat 1))), (0, zr (some 1))] ⟨congrArg (fun x => some (zi x)) (zm1 m), rfl, trivial⟩ (ih _ (u + 1) (by omega) ⟨⟨R2, zSt_tr hI.1.2.1 (zSt_tr R1.2.1 (zSt_I1 (by decide))), zGk_tr hI.1.2.2.1 (zGk_tr R1.2.2 (zGk_I1 (by decide))), u24, zupI_at⟩, by have := hI.2.1; omega, fun _ _ => by have := hI.2.1; omega⟩)
set_option maxHeartbeats 400000 in
set_option maxRecDepth 20000 in
theorem q_bta {κ : zK} (hκ : zKg κ) {T s d c t : Nat} (hc : c < d) (ht : t ≤ 24) (h : zH) (R : zRI h T s d) (et : h.1 1 15 = nI t) : zRq κ 56 [zr (some 1), zi (nI c)] h (fun v h' => v = none ∧ ∃ t', zTw h h' T s d 0 t' ∧ t ≤ t' ∧ (t < 24 → t + 1 ≤ t')) 0 0 := by
  refine zRq_of hκ (by decide) (by decide +kernel) (Nat.le_of_ble_eq_true rfl) fun ω C hK he => ?_
  refine z_aloadn C rfl rfl ?_
  refine z_aloadn C rfl rfl ?_
  refine z_gets C rfl zS_1 rfl (zcalF R.1) ?_
  refine z_iloadn C rfl rfl ?_
  have hd := zRI_d R
  refine z_aalds C rfl zS_331 (by decide) (by decide) (zin (n := 12) (by omega) (by decide)) (by rw [zclamp (n := 12) (by omega) (by decide)]; exact zcalA R.1 (by omega)) ?_
  obtain ⟨f, hf, ef⟩ := zcalF0 R.1 (c := c) (by omega)
  refine z_gets C rfl (zS_call c (by omega)) rfl ef ?_
  refine z_geti C rfl (zS_fun f hf) rfl ?_
  obtain ⟨l9, hl9, el9⟩ := (R.2.2.1.1 f hf).1
  rw [el9]
  have R1 := zRI_13 R hl9
  refine z_puti C rfl zS_1 rfl ⟨_, rfl⟩ ?_
  refine z_iloadn C rfl rfl ?_
  refine z_istoren C rfl ?_
  exact z_ll [(2, zi (nI (c + 1) - Int32.ofInt (Int.ofNat 1))), (0, zr (some 1))] ⟨congrArg (fun x => some (zi x)) (zsb1 c).symm, rfl, trivial⟩ (l_bta C (by omega) he (c + 1) _ t (Nat.le_refl _) ⟨⟨R1, zSt_13 hl9, zGk_I1 (by decide), ht, (zupI_ne (fun q => by omega)).trans et⟩, Nat.le_refl _, fun e => absurd e (Nat.lt_irrefl _)⟩)

set_option maxHeartbeats 400000 in
set_option maxRecDepth 20000 in
theorem l_raise {ω : zO} (C : zX ω 55) {h : zH} {T s d : Nat} (h12 : d ≤ 12) (he : zEq ω (fun v h' => v = none ∧ ∃ T s d', zRI h' T s d' ∧ zSt h h' 12 ∧ (h'.1 1 9 = h.1 1 9 ∨ (d' = 0 ∧ h'.1 1 9 = 120 ∧ ∃ t, 1 ≤ t ∧ t ≤ 24 ∧ h'.1 1 15 = nI t))) 0 0) : ∀ (m : Nat) (l : Int32) (g : zH) (u : Nat), m ≤ d → (zTw h g T s d (d - m) u ∧ 1 ≤ u ∧ zGd g 749) → ZG ω 55 64 [(3, zi (nI m - Int32.ofInt (Int.ofNat 1))), (2, zi l), (0, zr (some 1))] [] g 0 0 := by
  intro m
  induction m with
  | zero =>
    intro l g u hm hI
    refine z_iloadn C rfl rfl ?_
    refine z_if C rfl (fun hc1 => ?_) (fun hc1 => ?_)
    · skip
      skip
      refine z_aloadn C rfl rfl ?_
      refine z_iconst C rfl ?_
      have R1 := zRI_less hI.1.1 (Nat.zero_le d)
      refine z_puti C rfl zS_1 rfl ⟨_, rfl⟩ ?_
      refine z_aloadn C rfl rfl ?_
      refine z_bipush C rfl ?_
      have R2 := zRI_out (x := 120) R1 (by unfold zCh; decide)
      refine z_puti C rfl zS_1 rfl ⟨_, rfl, by decide, by decide⟩ ?_
      refine z_aloadn C rfl rfl ?_
      refine z_gets C rfl zS_1 rfl (zresF R2.1) ?_
      refine z_aloadn C rfl rfl ?_
      refine z_gets C rfl zS_1 rfl (zthrF R2.1) ?_
      have v := zV_cp R2.1 R2.2.1 zS_747 zS_749 (zGd_I zt01 (fun q => by omega) (zGk_I14.1 _ zS_749 hI.2.2))
      have R3 := zRI_vw R2 zS_747 (by decide) v
      refine z_callv C rfl ⟨by decide, by decide⟩ zS_747 (c_become (zKg_of C) zS_747 zS_749 _ R2.1.2) rfl rfl (Nat.le_of_ble_eq_true rfl) ⟨(Nat.le_of_ble_eq_true rfl), (Nat.le_of_ble_eq_true rfl)⟩ ?_
      exact z_returnq C rfl he ⟨Nat.le_refl _, Nat.le_refl _⟩ rfl ⟨rfl, T, s, 0, R3, zSt_le (zSt_tr hI.1.2.1 (zSt_tr zSt_I14 (zSt_tr (zSt_I1 (by decide)) (zSt_vw zS_747 v)))) (by omega), Or.inr ⟨rfl, (zGk_vw zS_747 v).2.trans zupI_at, u, hI.2.1, hI.1.2.2.2.1, (zvw_1 zS_747 v).trans ((zupI_ne (fun q => by omega)).trans ((zupI_ne (fun q => by omega)).trans hI.1.2.2.2.2))⟩⟩
    · skip
      skip
      exact absurd (by decide : nI 0 - Int32.ofInt (Int.ofNat 1) < 0) hc1
  | succ m ih =>
    intro l g u hm hI
    rw [zsb1 m]
    have k124 : ∀ (l1 : Int32) (g1 : zH) (u1 : Nat), (zTw h g1 T s d (d - m) u1 ∧ 1 ≤ u1 ∧ zGd g1 749) → ZG ω 55 124 [(4, zr (some (781 + 6 * m))), (3, zi (nI m)), (2, zi l1), (0, zr (some 1))] [] g1 0 0 := by
      intro l1 g1 u1 hJ
      refine z_aload C rfl rfl ?_
      obtain ⟨f, hf, ef⟩ := zcalF0 hJ.1.1.1 (c := m) (by omega)
      refine z_gets C rfl (zS_call m (by omega)) rfl ef ?_
      refine z_aload C rfl rfl ?_
      refine z_geti C rfl (zS_call m (by omega)) rfl ?_
      refine z_aloadn C rfl rfl ?_
      refine z_geti C rfl zS_1 rfl ?_
      refine z_callv C rfl ⟨by decide, by decide⟩ (zS_fun f hf) (c_takes (zKg_of C) hf _) rfl rfl (Nat.le_of_ble_eq_true rfl) ⟨(Nat.le_of_ble_eq_true rfl), (Nat.le_of_ble_eq_true rfl)⟩ ?_
      refine z_if C rfl (fun hc1 => ?_) (fun hc1 => ?_)
      · skip
        skip
        refine z_iinc C rfl rfl ?_
        refine z_goto C rfl ?_
        exact z_ll [(3, zi (nI m - Int32.ofInt (Int.ofNat 1))), (2, zi l1), (0, zr (some 1))] ⟨congrArg (fun x => some (zi x)) (zm1 m), rfl, rfl, trivial⟩ (ih l1 g1 u1 (by omega) ⟨⟨hJ.1.1, zSt_le hJ.1.2.1 (by omega), hJ.1.2.2⟩, hJ.2⟩)
      · skip
        skip
        refine z_aloadn C rfl rfl ?_
        refine z_iloadn C rfl rfl ?_
        refine z_iconst C rfl ?_
        refine z_iadd C rfl ?_
        rw [show nI m + Int32.ofInt (Int.ofNat 1) = nI (m + 1) from nI_1 m]
        have R4 := zRI_less hJ.1.1 (d' := m + 1) hm
        refine z_puti C rfl zS_1 rfl ⟨_, rfl⟩ ?_
        refine z_aloadn C rfl rfl ?_
        refine z_aload C rfl rfl ?_
        refine z_aload C rfl rfl ?_
        refine z_gets C rfl (zS_call m (by omega)) rfl ef ?_
        refine z_geti C rfl (zS_fun f hf) rfl ?_
        refine z_aloadn C rfl rfl ?_
        refine z_gets C rfl zS_1 rfl (zthrF R4.1) ?_
        refine z_callvq C rfl ⟨by decide, by decide⟩ (by first | assumption | rfl | decide) (q_goOn (zKg_of C) (Nat.lt_succ_self m) zS_749 _ R4 (zGk_I14.1 _ zS_749 hJ.2.2)) rfl rfl (Nat.le_of_ble_eq_true rfl) ⟨Nat.le_of_ble_eq_true rfl, Nat.le_of_ble_eq_true rfl⟩ fun v2 g2 q2 => ?_
        obtain ⟨rfl, T5, s5, R5, t5, g5⟩ := q2
        exact z_returnq C rfl he ⟨Nat.le_refl _, Nat.le_refl _⟩ rfl ⟨rfl, T5, s5, _, R5, zSt_le (zSt_tr hJ.1.2.1 (zSt_tr zSt_I14 t5)) (by omega), Or.inl (g5.2.trans (zGk_I14.2.trans hJ.1.2.2.1.2))⟩
    refine z_iloadn C rfl rfl ?_
    refine z_if C rfl (fun hc1 => ?_) (fun hc1 => ?_)
    · skip
      skip
      exact absurd hc1 (nI_pos (by omega))
    · skip
      skip
      refine z_aloadn C rfl rfl ?_
      refine z_gets C rfl zS_1 rfl (zcalF hI.1.1.1) ?_
      refine z_iloadn C rfl rfl ?_
      refine z_aalds C rfl zS_331 (by decide) (by decide) (zin (n := 12) (by omega) (by decide)) (by rw [zclamp (n := 12) (by omega) (by decide)]; exact zcalA hI.1.1.1 (by omega)) ?_
      refine z_astore C rfl ?_
      refine z_aloadn C rfl rfl ?_
      refine z_aloadn C rfl rfl ?_
      refine z_gets C rfl zS_1 rfl (zthrF hI.1.1.1) ?_
      refine z_iloadn C rfl rfl ?_
      refine z_aload C rfl rfl ?_
      obtain ⟨f, hf, ef⟩ := zcalF0 hI.1.1.1 (c := m) (by omega)
      refine z_gets C rfl (zS_call m (by omega)) rfl ef ?_
      refine z_geti C rfl (zS_fun f hf) rfl ?_
      obtain ⟨R2, t2, g2, m2, c2⟩ := zRI_cir (a := l) (b := g.1 (751 + 3 * f) 0) hI.1.1 zS_749 (by decide) hI.2.2
      have e15 := zcir_1 (a := l) (b := g.1 (751 + 3 * f) 0) (j := 15) hI.1.1 zS_749 hI.2.2
      refine z_callv C rfl ⟨by decide, by decide⟩ zS_1 (c_cir (zKg_of C) zS_749 _) rfl rfl (Nat.le_of_ble_eq_true rfl) ⟨(Nat.le_of_ble_eq_true rfl), (Nat.le_of_ble_eq_true rfl)⟩ ?_
      refine z_istore C rfl ?_
      refine z_aload C rfl rfl ?_
      obtain ⟨f2, hf2, ef2⟩ := zcalF0 R2.1 (c := m) (by omega)
      refine z_gets C rfl (zS_call m (by omega)) rfl ef2 ?_
      refine z_geti C rfl (zS_fun f2 hf2) rfl ?_
      refine z_istoren C rfl ?_
      refine z_iload C rfl rfl ?_
      refine z_if C rfl (fun hc2 => ?_) (fun hc2 => ?_)
      · skip
        skip
        first | exact z_ll [(4, zr (some (781 + 6 * m))), (3, zi (nI m)), (2, zi _), (0, zr (some 1))] ⟨rfl, rfl, rfl, rfl, trivial⟩ (k124 _ _ u2 ⟨⟨hT.1, zSt_le (zSt_tr hI.1.2.1 (zSt_tr t2 (zSt_tr (zSt_vw zS_749 v) hT.2.1))) (by omega), zGk_tr hI.1.2.2.1 (zGk_tr g2 (zGk_tr (zGk_vw zS_749 v) hT.2.2.1)), hT.2.2.2⟩, by have := hI.2.1; omega, hT.2.2.1.1 _ zS_749 v.2.2.2⟩) | exact z_ll [(4, zr (some (781 + 6 * m))), (3, zi (nI m)), (2, zi _), (0, zr (some 1))] ⟨rfl, rfl, rfl, rfl, trivial⟩ (k124 _ _ u ⟨⟨R2, zSt_le (zSt_tr hI.1.2.1 t2) (by omega), zGk_tr hI.1.2.2.1 g2, hI.1.2.2.2.1, e15.trans hI.1.2.2.2.2⟩, hI.2.1, c2⟩)
      · skip
        skip
        refine z_aloadn C rfl rfl ?_
        refine z_gets C rfl zS_1 rfl (zthrF R2.1) ?_
        refine z_iloadn C rfl rfl ?_
        refine z_iload C rfl rfl ?_
        have v := zV_num (l := (zcir g 749 l (g.1 (751 + 3 * f) 0)).2.1 (751 + 3 * f2) 0) (x := (zcir g 749 l (g.1 (751 + 3 * f) 0)).1) R2.1 R2.2.1 zS_749
        have R3 := zRI_vw R2 zS_749 (by decide) v
        refine z_callv C rfl ⟨by decide, by decide⟩ zS_749 (c_becomeNumber (zKg_of C) zS_749 _) rfl rfl (Nat.le_of_ble_eq_true rfl) ⟨(Nat.le_of_ble_eq_true rfl), (Nat.le_of_ble_eq_true rfl)⟩ ?_
        refine z_aloadn C rfl rfl ?_
        refine z_iloadn C rfl rfl ?_
        refine z_callvq C rfl ⟨by decide, by decide⟩ (by first | assumption | rfl | decide) (q_bta (zKg_of C) (show m < d from hm) hI.1.2.2.2.1 _ R3 ((zvw_1 zS_749 v).trans (e15.trans hI.1.2.2.2.2))) rfl rfl (Nat.le_of_ble_eq_true rfl) ⟨Nat.le_of_ble_eq_true rfl, Nat.le_of_ble_eq_true rfl⟩ fun v3 g3 q3 => ?_
        obtain ⟨rfl, u2, hT, hu, hu2⟩ := q3
        first | exact z_ll [(4, zr (some (781 + 6 * m))), (3, zi (nI m)), (2, zi _), (0, zr (some 1))] ⟨rfl, rfl, rfl, rfl, trivial⟩ (k124 _ _ u2 ⟨⟨hT.1, zSt_le (zSt_tr hI.1.2.1 (zSt_tr t2 (zSt_tr (zSt_vw zS_749 v) hT.2.1))) (by omega), zGk_tr hI.1.2.2.1 (zGk_tr g2 (zGk_tr (zGk_vw zS_749 v) hT.2.2.1)), hT.2.2.2⟩, by have := hI.2.1; omega, hT.2.2.1.1 _ zS_749 v.2.2.2⟩) | exact z_ll [(4, zr (some (781 + 6 * m))), (3, zi (nI m)), (2, zi _), (0, zr (some 1))] ⟨rfl, rfl, rfl, rfl, trivial⟩ (k124 _ _ u ⟨⟨R2, zSt_le (zSt_tr hI.1.2.1 t2) (by omega), zGk_tr hI.1.2.2.1 g2, hI.1.2.2.2.1, e15.trans hI.1.2.2.2.2⟩, hI.2.1, c2⟩)
set_option maxHeartbeats 400000 in
set_option maxRecDepth 20000 in
theorem q_raise {κ : zK} (hκ : zKg κ) {T s d : Nat} {x : Int32} (h : zH) (R : zRI h T s d) (g9 : x = 9 → zGd h 749) : zRq κ 55 [zr (some 1), zi x] h (fun v h' => v = none ∧ ∃ T s d', zRI h' T s d' ∧ zSt h h' 12 ∧ (h'.1 1 9 = h.1 1 9 ∨ (d' = 0 ∧ h'.1 1 9 = 120 ∧ ∃ t, 1 ≤ t ∧ t ≤ 24 ∧ h'.1 1 15 = nI t))) 0 0 := by
  refine zRq_of hκ (by decide) (by decide +kernel) (Nat.le_of_ble_eq_true rfl) fun ω C hK he => ?_
  have k42 : 1 ≤ d → ∀ (l : Int32) (g : zH), (zRI g T s d ∧ zSt h g 0 ∧ zGk h g ∧ zGd g 749) → ZG ω 55 42 [(2, zi l), (0, zr (some 1))] [] g 0 0 := by
    intro hd1 l g J
    refine z_aloadn C rfl rfl ?_
    refine z_iconst C rfl ?_
    have R1 := zRI_I1 (j := 15) (x := nI 0) J.1 (by decide) (by decide) (by decide)
    refine z_puti C rfl zS_1 rfl ⟨_, rfl⟩ ?_
    refine z_aloadn C rfl rfl ?_
    refine z_aloadn C rfl rfl ?_
    refine z_geti C rfl zS_1 rfl ?_
    rw [show (zupI g 1 15 (Int32.ofInt (Int.ofNat 0))).1 1 4 = nI d from (zRI_d R1).1]
    refine z_iconst C rfl ?_
    refine z_isub C rfl ?_
    rw [show nI d - Int32.ofInt (Int.ofNat 1) = nI (d - 1) from zsubN hd1]
    refine z_callvq C rfl ⟨by decide, by decide⟩ (by first | assumption | rfl | decide) (q_bta (zKg_of C) (c := d - 1) (t := 0) (show d - 1 < d by omega) (by decide) _ R1 zupI_at) rfl rfl (Nat.le_of_ble_eq_true rfl) ⟨Nat.le_of_ble_eq_true rfl, Nat.le_of_ble_eq_true rfl⟩ fun v1 g1 q1 => ?_
    obtain ⟨rfl, u2, hT, hu, hu2⟩ := q1
    refine z_aloadn C rfl rfl ?_
    refine z_geti C rfl zS_1 rfl ?_
    rw [(zRI_d hT.1).1]
    refine z_iconst C rfl ?_
    refine z_isub C rfl ?_
    refine z_istoren C rfl ?_
    exact z_ll [(3, zi (nI d - Int32.ofInt (Int.ofNat 1))), (2, zi l), (0, zr (some 1))] ⟨rfl, rfl, rfl, trivial⟩ (l_raise C (zRI_d R).2 he d l _ u2 (Nat.le_refl _) ⟨⟨hT.1, zSt_le (zSt_tr J.2.1 (zSt_tr (zSt_I1 (by decide)) hT.2.1)) (Nat.zero_le _), zGk_tr J.2.2.1 (zGk_tr (zGk_I1 (by decide)) hT.2.2.1), hT.2.2.2⟩, hu2 (by decide), hT.2.2.1.1 _ zS_749 ((zGk_I1 (by decide)).1 _ zS_749 J.2.2.2)⟩)
  refine z_aloadn C rfl rfl ?_
  refine z_geti C rfl zS_1 rfl ?_
  rw [(zRI_d R).1]
  refine z_iconst C rfl ?_
  refine z_icmp C rfl (fun hc1 => ?_) (fun hc1 => ?_)
  · skip
    skip
    have hd1 : 1 ≤ d := by
      by_cases q : 1 ≤ d
      · exact q
      · exact absurd hc1 (nI_ge (a := d) (b := 1) (by omega) (by decide))
    refine z_aloadn C rfl rfl ?_
    refine z_gets C rfl zS_1 rfl (zcalF R.1) ?_
    refine z_aloadn C rfl rfl ?_
    refine z_geti C rfl zS_1 rfl ?_
    rw [(zRI_d R).1]
    refine z_iconst C rfl ?_
    refine z_isub C rfl ?_
    rw [show nI d - Int32.ofInt (Int.ofNat 1) = nI (d - 1) from zsubN hd1]
    have hd := zRI_d R
    refine z_aalds C rfl zS_331 (by decide) (by decide) (zin (n := 12) (by omega) (by decide)) (by rw [zclamp (n := 12) (by omega) (by decide)]; exact zcalA R.1 (by omega)) ?_
    obtain ⟨f, hf, ef⟩ := zcalF0 R.1 (c := d - 1) (by omega)
    refine z_gets C rfl (zS_call (d - 1) (by omega)) rfl ef ?_
    refine z_geti C rfl (zS_fun f hf) rfl ?_
    refine z_istoren C rfl ?_
    refine z_iloadn C rfl rfl ?_
    refine z_bipush C rfl ?_
    refine z_icmp C rfl (fun hc2 => ?_) (fun hc2 => ?_)
    · skip
      skip
      first | exact z_ll [(2, zi _), (0, zr (some 1))] ⟨rfl, rfl, trivial⟩ (k42 hd1 _ _ ⟨R, zSt_refl, zGk_refl, g9 hc2⟩) | exact z_ll [(2, zi _), (0, zr (some 1))] ⟨rfl, rfl, trivial⟩ (k42 hd1 _ _ ⟨zRI_vw R zS_749 (by decide) v, zSt_vw zS_749 v, zGk_vw zS_749 v, v.2.2.2⟩)
    · skip
      skip
      refine z_aloadn C rfl rfl ?_
      refine z_gets C rfl zS_1 rfl (zthrF R.1) ?_
      refine z_iloadn C rfl rfl ?_
      refine z_iloadn C rfl rfl ?_
      have v := zV_num (l := h.1 (751 + 3 * f) 0) (x := x) R.1 R.2.1 zS_749
      refine z_callv C rfl ⟨by decide, by decide⟩ zS_749 (c_becomeNumber (zKg_of C) zS_749 _) rfl rfl (Nat.le_of_ble_eq_true rfl) ⟨(Nat.le_of_ble_eq_true rfl), (Nat.le_of_ble_eq_true rfl)⟩ ?_
      first | exact z_ll [(2, zi _), (0, zr (some 1))] ⟨rfl, rfl, trivial⟩ (k42 hd1 _ _ ⟨R, zSt_refl, zGk_refl, g9 hc2⟩) | exact z_ll [(2, zi _), (0, zr (some 1))] ⟨rfl, rfl, trivial⟩ (k42 hd1 _ _ ⟨zRI_vw R zS_749 (by decide) v, zSt_vw zS_749 v, zGk_vw zS_749 v, v.2.2.2⟩)
  · skip
    skip
    exact z_returnq C rfl he ⟨Nat.le_refl _, Nat.le_refl _⟩ rfl ⟨rfl, T, s, d, R, zSt_refl, Or.inl rfl⟩

