/-! kindOf, resultKind, make with no room, isSameAs, Call.begin -/
theorem znCh {x : Int32} (hc : zCh x) : narrow FieldType.char (Value.int x) = Value.int x := (zfit_ok (ρ := (0, 0, fun _ => 0)) (ty := 1) (F := .char) rfl (v := zi x) ⟨x, rfl, hc.1, hc.2⟩).1
theorem znw_none {h : zH} {l : Int32} : ∀ (m i : Nat), (znw h l m i).1 = none → (znw h l m i).2 = h
  | 0, _, _ => rfl
  | m + 1, i, e => by
    unfold znw at e ⊢
    split
    · rename_i q
      rw [if_pos q] at e
      cases e
    · rename_i q
      rw [if_neg q] at e
      exact znw_none m (i + 1) e
def zcl (c : Nat) (x : Int32) : Nat → Nat → zH → zH
  | 0, _, h => h
  | m + 1, i, h => zcl c x m (i + 1) (zbNothing h (783 + 6 * c + i) x)
def zcb0 (h : zH) (c f : Nat) (n : Int32) (id : Int64) : zH := zupI (zupI (zupJ (zupI (zupR h (781 + 6 * c) 0 (some (751 + 3 * f))) (781 + 6 * c) 1 n) (781 + 6 * c) 2 id) (781 + 6 * c) 3 (Int32.ofInt (Int.ofNat 0))) (781 + 6 * c) 4 (Int32.ofInt (Int.ofNat 0))
def zcb (h : zH) (c f : Nat) (n : Int32) (id : Int64) : zH := zcl c (znoOf (h.1 (751 + 3 * f) 0)) 4 0 (zcb0 h c f n id)
theorem zTok_c {c j : Nat} {x : Int32} (h12 : c < 12) : zTok (781 + 6 * c) j x := zTok_o (zS_call c h12) (by decide) (by decide) (by decide) (by decide)
theorem zK_cb0 {h : zH} (hw : zWk h) {c f : Nat} {n : Int32} {id : Int64} (h12 : c < 12) (hf : f < 10) : zWk (zcb0 h c f n id) := zK_I (zK_I (zK_J (zK_I (zK_F hw h12 hf) (zTok_c h12))) (zTok_c h12)) (zTok_c h12)
theorem zK_cl {c : Nat} (h12 : c < 12) {l : Int32} : ∀ (m i : Nat) (h : zH), i + m = 4 → zWk h → zWk (zcl c (znoOf l) m i h)
  | 0, _, _, _, hw => hw
  | m + 1, i, _, e, hw => zK_cl h12 m (i + 1) _ (by omega) (zK_bNothing hw (zS_cval c h12 i (by omega)) zCh_no)
theorem zK_cb {h : zH} (hw : zWk h) {c f : Nat} {n : Int32} {id : Int64} (h12 : c < 12) (hf : f < 10) : zWk (zcb h c f n id) := zK_cl h12 4 0 _ rfl (zK_cb0 hw h12 hf)
theorem zbN_ne {h : zH} {k k' j : Nat} {x : Int32} (e : k' ≠ k) : (zbNothing h k x).1 k' j = h.1 k' j := by
  show (zupI (zupI h k 0 x) k 2 0).1 k' j = _
  rw [zupI_ne (fun q => e q.1), zupI_ne (fun q => e q.1)]

set_option maxHeartbeats 400000 in
set_option maxRecDepth 20000 in
theorem c_kindOf {κ : zK} (hκ : zKg κ) {l g : Nat} (hl : l < 3) (hg : g < 8) (h : zH) (hw : zWk h) : zRet κ 105 [zr (some 0), zi (nI l), zi (nI g)] h (some (zi (h.1 (6 + (8 * l + g)) 0))) h 0 0 := by
  refine zRet_of hκ (by decide) (by decide +kernel) (Nat.le_of_ble_eq_true rfl) fun ω C hK he => ?_
  refine z_iloadn C rfl rfl ?_
  refine z_iloadn C rfl rfl ?_
  refine z_calls C rfl ⟨by decide, by decide, by decide⟩ (c_reqG (zKg_of C) (zwt hl (by decide)) (zwt hg (by decide)) _) rfl rfl (Nat.le_of_ble_eq_true rfl) ⟨(Nat.le_of_ble_eq_true rfl), (Nat.le_of_ble_eq_true rfl)⟩ ?_
  refine z_aloadn C rfl rfl ?_
  refine z_gets C rfl zS_0 rfl hw.1.1.1.2.1 ?_
  refine z_iloadn C rfl rfl ?_
  refine z_iloadn C rfl rfl ?_
  refine z_callv C rfl ⟨by decide, by decide⟩ zS_2 (c_globalOf (zKg_of C) hl hg _ hw.1.1) rfl rfl (Nat.le_of_ble_eq_true rfl) ⟨(Nat.le_of_ble_eq_true rfl), (Nat.le_of_ble_eq_true rfl)⟩ ?_
  refine z_geti C rfl (zS_val24 (8 * l + g) (by omega)) rfl ?_
  exact z_zreturn C rfl he ⟨Nat.le_refl _, Nat.le_refl _⟩ rfl (znCh (hw.2.1 _ (zS_val24 (8 * l + g) (by omega))).1)

set_option maxHeartbeats 400000 in
set_option maxRecDepth 20000 in
theorem t_kindOf {κ : zK} (hκ : zKg κ) {x y : Int32} (hb : zokG x y = false) (h : zH) : zThr κ 105 [zr (some 0), zi x, zi y] h 4 h 1 6 := by
  refine zThr_of hκ (by decide) (by decide +kernel) (Nat.le_of_ble_eq_true rfl) fun ω C hK he => ?_
  refine z_iloadn C rfl rfl ?_
  refine z_iloadn C rfl rfl ?_
  exact z_callsX C rfl ⟨by decide, by decide, by decide⟩ (by decide +kernel) he (t_reqG (zKg_of C) hb _) rfl rfl (Nat.le_of_ble_eq_true rfl) ⟨(Nat.le_of_ble_eq_true rfl), (Nat.le_of_ble_eq_true rfl)⟩

set_option maxHeartbeats 400000 in
set_option maxRecDepth 20000 in
theorem c_resK {κ : zK} (hκ : zKg κ)  (h : zH) (hw : zWk h) (hx : zhasR h = true) : zRet κ 94 [zr (some 0)] h (some (zi (h.1 747 0))) h 0 0 := by
  refine zRet_of hκ (by decide) (by decide +kernel) (Nat.le_of_ble_eq_true rfl) fun ω C hK he => ?_
  refine z_aloadn C rfl rfl ?_
  refine z_gets C rfl zS_0 rfl hw.1.1.1.1 ?_
  refine z_callv C rfl ⟨by decide, by decide⟩ zS_1 (c_hasR (zKg_of C) _) rfl rfl (Nat.le_of_ble_eq_true rfl) ⟨(Nat.le_of_ble_eq_true rfl), (Nat.le_of_ble_eq_true rfl)⟩ ?_
  rw [hx]
  refine z_if C rfl (fun hc1 => ?_) (fun hc1 => ?_)
  · skip
    skip
    refine z_aloadn C rfl rfl ?_
    refine z_gets C rfl zS_0 rfl hw.1.1.1.1 ?_
    refine z_gets C rfl zS_1 rfl hw.1.1.2.1.2.2.2.2.1 ?_
    refine z_geti C rfl zS_747 rfl ?_
    exact z_zreturn C rfl he ⟨Nat.le_refl _, Nat.le_refl _⟩ rfl (znCh (hw.2.1 _ zS_747).1)
  · skip
    skip
    exact absurd znt hc1

set_option maxHeartbeats 400000 in
set_option maxRecDepth 20000 in
theorem t_resK {κ : zK} (hκ : zKg κ)  (h : zH) (hw : zWk h) (hx : zhasR h = false) : zThr κ 94 [zr (some 0)] h 2 h 1 6 := by
  refine zThr_of hκ (by decide) (by decide +kernel) (Nat.le_of_ble_eq_true rfl) fun ω C hK he => ?_
  refine z_aloadn C rfl rfl ?_
  refine z_gets C rfl zS_0 rfl hw.1.1.1.1 ?_
  refine z_callv C rfl ⟨by decide, by decide⟩ zS_1 (c_hasR (zKg_of C) _) rfl rfl (Nat.le_of_ble_eq_true rfl) ⟨(Nat.le_of_ble_eq_true rfl), (Nat.le_of_ble_eq_true rfl)⟩ ?_
  rw [hx]
  refine z_if C rfl (fun hc1 => ?_) (fun hc1 => ?_)
  · skip
    skip
    exact absurd rfl hc1
  · skip
    skip
    exact z_throw C (i := 120) (E := 2) (by decide +kernel) (by decide +kernel) (by decide +kernel) he (Nat.le_of_ble_eq_true rfl) ⟨Nat.le_refl _, Nat.le_refl _⟩

set_option maxHeartbeats 400000 in
set_option maxRecDepth 20000 in
theorem t_make2 {κ : zK} (hκ : zKg κ) {l g : Nat} (hl : l < 3) (hg : g < 8) (h : zH) (hw : zWk h) (hnw : (znw h (nI l) 60 0).1 = none) : zThr κ 101 [zr (some 0), zi (nI l), zi (nI g)] h 5 h 1 6 := by
  refine zThr_of hκ (by decide) (by decide +kernel) (Nat.le_of_ble_eq_true rfl) fun ω C hK he => ?_
  refine z_iloadn C rfl rfl ?_
  refine z_iloadn C rfl rfl ?_
  refine z_calls C rfl ⟨by decide, by decide, by decide⟩ (c_reqG (zKg_of C) (zwt hl (by decide)) (zwt hg (by decide)) _) rfl rfl (Nat.le_of_ble_eq_true rfl) ⟨(Nat.le_of_ble_eq_true rfl), (Nat.le_of_ble_eq_true rfl)⟩ ?_
  refine z_aloadn C rfl rfl ?_
  refine z_gets C rfl zS_0 rfl hw.1.1.1.2.1 ?_
  refine z_iloadn C rfl rfl ?_
  refine z_callv C rfl ⟨by decide, by decide⟩ zS_2 (c_new (zKg_of C) _ hw) rfl rfl (Nat.le_of_ble_eq_true rfl) ⟨(Nat.le_of_ble_eq_true rfl), (Nat.le_of_ble_eq_true rfl)⟩ ?_
  rw [znw_none 60 0 hnw, hnw]
  refine z_astoren C rfl ?_
  refine z_aloadn C rfl rfl ?_
  refine z_ifnonnull C rfl (fun hq1 => ?_) (fun r1 hq1 => ?_)
  · skip
    exact z_throw C (i := 43) (E := 5) (by decide +kernel) (by decide +kernel) (by decide +kernel) he (Nat.le_of_ble_eq_true rfl) ⟨Nat.le_refl _, Nat.le_refl _⟩
  · skip
    cases hq1

set_option maxHeartbeats 400000 in
set_option maxRecDepth 20000 in
theorem q_same {κ : zK} (hκ : zKg κ) {k o : Nat} (hS : zS k = (0, 6, 6)) (hS2 : zS o = (0, 6, 6)) (h : zH) : zRq κ 86 [zr (some k), zr (some o)] h (fun v h' => h' = h ∧ ∃ b, v = some (zi (zB b))) 0 0 := by
  refine zRq_of hκ (by decide) (by decide +kernel) (Nat.le_of_ble_eq_true rfl) fun ω C hK he => ?_
  refine z_aloadn C rfl rfl ?_
  refine z_callv C rfl ⟨by decide, by decide⟩ hS (c_isNumber (zKg_of C) hS _) rfl rfl (Nat.le_of_ble_eq_true rfl) ⟨(Nat.le_of_ble_eq_true rfl), (Nat.le_of_ble_eq_true rfl)⟩ ?_
  refine z_if C rfl (fun hc1 => ?_) (fun hc1 => ?_)
  · skip
    skip
    refine z_aloadn C rfl rfl ?_
    refine z_callv C rfl ⟨by decide, by decide⟩ hS (c_isNothing (zKg_of C) hS _) rfl rfl (Nat.le_of_ble_eq_true rfl) ⟨(Nat.le_of_ble_eq_true rfl), (Nat.le_of_ble_eq_true rfl)⟩ ?_
    refine z_if C rfl (fun hc2 => ?_) (fun hc2 => ?_)
    · skip
      skip
      refine z_aloadn C rfl rfl ?_
      refine z_geti C rfl hS rfl ?_
      refine z_bipush C rfl ?_
      refine z_icmp C rfl (fun hc3 => ?_) (fun hc3 => ?_)
      · skip
        skip
        refine z_iconst C rfl ?_
        refine z_istoren C rfl ?_
        refine z_aloadn C rfl rfl ?_
        refine z_geti C rfl hS rfl ?_
        refine z_aloadn C rfl rfl ?_
        refine z_geti C rfl hS2 rfl ?_
        refine z_icmp C rfl (fun hc4 => ?_) (fun hc4 => ?_)
        · skip
          skip
          refine z_iconst C rfl ?_
          exact z_zreturnq C rfl he ⟨Nat.le_refl _, Nat.le_refl _⟩ rfl (by first | rfl | exact znB) (by first | exact ⟨rfl, _, rfl⟩ | exact ⟨rfl, true, rfl⟩ | exact ⟨rfl, false, rfl⟩)
        · skip
          skip
          refine z_aloadn C rfl rfl ?_
          refine z_getj C rfl hS rfl ?_
          refine z_aloadn C rfl rfl ?_
          refine z_getj C rfl hS2 rfl ?_
          refine z_lcmp C rfl ?_
          refine z_if C rfl (fun hc5 => ?_) (fun hc5 => ?_)
          · skip
            skip
            refine z_iconst C rfl ?_
            exact z_zreturnq C rfl he ⟨Nat.le_refl _, Nat.le_refl _⟩ rfl (by first | rfl | exact znB) (by first | exact ⟨rfl, _, rfl⟩ | exact ⟨rfl, true, rfl⟩ | exact ⟨rfl, false, rfl⟩)
          · skip
            skip
            refine z_iloadn C rfl rfl ?_
            refine z_if C rfl (fun hc6 => ?_) (fun hc6 => ?_)
            · skip
              skip
              refine z_iconst C rfl ?_
              refine z_goto C rfl ?_
              exact z_zreturnq C rfl he ⟨Nat.le_refl _, Nat.le_refl _⟩ rfl (by first | rfl | exact znB) (by first | exact ⟨rfl, _, rfl⟩ | exact ⟨rfl, true, rfl⟩ | exact ⟨rfl, false, rfl⟩)
            · skip
              skip
              refine z_aloadn C rfl rfl ?_
              refine z_geti C rfl hS rfl ?_
              refine z_aloadn C rfl rfl ?_
              refine z_geti C rfl hS2 rfl ?_
              refine z_icmp C rfl (fun hc7 => ?_) (fun hc7 => ?_)
              · skip
                skip
                refine z_iconst C rfl ?_
                exact z_zreturnq C rfl he ⟨Nat.le_refl _, Nat.le_refl _⟩ rfl (by first | rfl | exact znB) (by first | exact ⟨rfl, _, rfl⟩ | exact ⟨rfl, true, rfl⟩ | exact ⟨rfl, false, rfl⟩)
              · skip
                skip
                refine z_iconst C rfl ?_
                refine z_goto C rfl ?_
                exact z_zreturnq C rfl he ⟨Nat.le_refl _, Nat.le_refl _⟩ rfl (by first | rfl | exact znB) (by first | exact ⟨rfl, _, rfl⟩ | exact ⟨rfl, true, rfl⟩ | exact ⟨rfl, false, rfl⟩)
      · skip
        skip
        refine z_iconst C rfl ?_
        refine z_goto C rfl ?_
        refine z_istoren C rfl ?_
        refine z_aloadn C rfl rfl ?_
        refine z_geti C rfl hS rfl ?_
        refine z_aloadn C rfl rfl ?_
        refine z_geti C rfl hS2 rfl ?_
        refine z_icmp C rfl (fun hc8 => ?_) (fun hc8 => ?_)
        · skip
          skip
          refine z_iconst C rfl ?_
          exact z_zreturnq C rfl he ⟨Nat.le_refl _, Nat.le_refl _⟩ rfl (by first | rfl | exact znB) (by first | exact ⟨rfl, _, rfl⟩ | exact ⟨rfl, true, rfl⟩ | exact ⟨rfl, false, rfl⟩)
        · skip
          skip
          refine z_aloadn C rfl rfl ?_
          refine z_getj C rfl hS rfl ?_
          refine z_aloadn C rfl rfl ?_
          refine z_getj C rfl hS2 rfl ?_
          refine z_lcmp C rfl ?_
          refine z_if C rfl (fun hc9 => ?_) (fun hc9 => ?_)
          · skip
            skip
            refine z_iconst C rfl ?_
            exact z_zreturnq C rfl he ⟨Nat.le_refl _, Nat.le_refl _⟩ rfl (by first | rfl | exact znB) (by first | exact ⟨rfl, _, rfl⟩ | exact ⟨rfl, true, rfl⟩ | exact ⟨rfl, false, rfl⟩)
          · skip
            skip
            refine z_iloadn C rfl rfl ?_
            refine z_if C rfl (fun hc10 => ?_) (fun hc10 => ?_)
            · skip
              skip
              refine z_iconst C rfl ?_
              refine z_goto C rfl ?_
              exact z_zreturnq C rfl he ⟨Nat.le_refl _, Nat.le_refl _⟩ rfl (by first | rfl | exact znB) (by first | exact ⟨rfl, _, rfl⟩ | exact ⟨rfl, true, rfl⟩ | exact ⟨rfl, false, rfl⟩)
            · skip
              skip
              refine z_aloadn C rfl rfl ?_
              refine z_geti C rfl hS rfl ?_
              refine z_aloadn C rfl rfl ?_
              refine z_geti C rfl hS2 rfl ?_
              refine z_icmp C rfl (fun hc11 => ?_) (fun hc11 => ?_)
              · skip
                skip
                refine z_iconst C rfl ?_
                exact z_zreturnq C rfl he ⟨Nat.le_refl _, Nat.le_refl _⟩ rfl (by first | rfl | exact znB) (by first | exact ⟨rfl, _, rfl⟩ | exact ⟨rfl, true, rfl⟩ | exact ⟨rfl, false, rfl⟩)
              · skip
                skip
                refine z_iconst C rfl ?_
                refine z_goto C rfl ?_
                exact z_zreturnq C rfl he ⟨Nat.le_refl _, Nat.le_refl _⟩ rfl (by first | rfl | exact znB) (by first | exact ⟨rfl, _, rfl⟩ | exact ⟨rfl, true, rfl⟩ | exact ⟨rfl, false, rfl⟩)
    · skip
      skip
      refine z_aloadn C rfl rfl ?_
      refine z_callv C rfl ⟨by decide, by decide⟩ hS2 (c_isNothing (zKg_of C) hS2 _) rfl rfl (Nat.le_of_ble_eq_true rfl) ⟨(Nat.le_of_ble_eq_true rfl), (Nat.le_of_ble_eq_true rfl)⟩ ?_
      refine z_if C rfl (fun hc12 => ?_) (fun hc12 => ?_)
      · skip
        skip
        refine z_aloadn C rfl rfl ?_
        refine z_geti C rfl hS rfl ?_
        refine z_bipush C rfl ?_
        refine z_icmp C rfl (fun hc13 => ?_) (fun hc13 => ?_)
        · skip
          skip
          refine z_iconst C rfl ?_
          refine z_istoren C rfl ?_
          refine z_aloadn C rfl rfl ?_
          refine z_geti C rfl hS rfl ?_
          refine z_aloadn C rfl rfl ?_
          refine z_geti C rfl hS2 rfl ?_
          refine z_icmp C rfl (fun hc14 => ?_) (fun hc14 => ?_)
          · skip
            skip
            refine z_iconst C rfl ?_
            exact z_zreturnq C rfl he ⟨Nat.le_refl _, Nat.le_refl _⟩ rfl (by first | rfl | exact znB) (by first | exact ⟨rfl, _, rfl⟩ | exact ⟨rfl, true, rfl⟩ | exact ⟨rfl, false, rfl⟩)
          · skip
            skip
            refine z_aloadn C rfl rfl ?_
            refine z_getj C rfl hS rfl ?_
            refine z_aloadn C rfl rfl ?_
            refine z_getj C rfl hS2 rfl ?_
            refine z_lcmp C rfl ?_
            refine z_if C rfl (fun hc15 => ?_) (fun hc15 => ?_)
            · skip
              skip
              refine z_iconst C rfl ?_
              exact z_zreturnq C rfl he ⟨Nat.le_refl _, Nat.le_refl _⟩ rfl (by first | rfl | exact znB) (by first | exact ⟨rfl, _, rfl⟩ | exact ⟨rfl, true, rfl⟩ | exact ⟨rfl, false, rfl⟩)
            · skip
              skip
              refine z_iloadn C rfl rfl ?_
              refine z_if C rfl (fun hc16 => ?_) (fun hc16 => ?_)
              · skip
                skip
                refine z_iconst C rfl ?_
                refine z_goto C rfl ?_
                exact z_zreturnq C rfl he ⟨Nat.le_refl _, Nat.le_refl _⟩ rfl (by first | rfl | exact znB) (by first | exact ⟨rfl, _, rfl⟩ | exact ⟨rfl, true, rfl⟩ | exact ⟨rfl, false, rfl⟩)
              · skip
                skip
                refine z_aloadn C rfl rfl ?_
                refine z_geti C rfl hS rfl ?_
                refine z_aloadn C rfl rfl ?_
                refine z_geti C rfl hS2 rfl ?_
                refine z_icmp C rfl (fun hc17 => ?_) (fun hc17 => ?_)
                · skip
                  skip
                  refine z_iconst C rfl ?_
                  exact z_zreturnq C rfl he ⟨Nat.le_refl _, Nat.le_refl _⟩ rfl (by first | rfl | exact znB) (by first | exact ⟨rfl, _, rfl⟩ | exact ⟨rfl, true, rfl⟩ | exact ⟨rfl, false, rfl⟩)
                · skip
                  skip
                  refine z_iconst C rfl ?_
                  refine z_goto C rfl ?_
                  exact z_zreturnq C rfl he ⟨Nat.le_refl _, Nat.le_refl _⟩ rfl (by first | rfl | exact znB) (by first | exact ⟨rfl, _, rfl⟩ | exact ⟨rfl, true, rfl⟩ | exact ⟨rfl, false, rfl⟩)
        · skip
          skip
          refine z_iconst C rfl ?_
          refine z_goto C rfl ?_
          refine z_istoren C rfl ?_
          refine z_aloadn C rfl rfl ?_
          refine z_geti C rfl hS rfl ?_
          refine z_aloadn C rfl rfl ?_
          refine z_geti C rfl hS2 rfl ?_
          refine z_icmp C rfl (fun hc18 => ?_) (fun hc18 => ?_)
          · skip
            skip
            refine z_iconst C rfl ?_
            exact z_zreturnq C rfl he ⟨Nat.le_refl _, Nat.le_refl _⟩ rfl (by first | rfl | exact znB) (by first | exact ⟨rfl, _, rfl⟩ | exact ⟨rfl, true, rfl⟩ | exact ⟨rfl, false, rfl⟩)
          · skip
            skip
            refine z_aloadn C rfl rfl ?_
            refine z_getj C rfl hS rfl ?_
            refine z_aloadn C rfl rfl ?_
            refine z_getj C rfl hS2 rfl ?_
            refine z_lcmp C rfl ?_
            refine z_if C rfl (fun hc19 => ?_) (fun hc19 => ?_)
            · skip
              skip
              refine z_iconst C rfl ?_
              exact z_zreturnq C rfl he ⟨Nat.le_refl _, Nat.le_refl _⟩ rfl (by first | rfl | exact znB) (by first | exact ⟨rfl, _, rfl⟩ | exact ⟨rfl, true, rfl⟩ | exact ⟨rfl, false, rfl⟩)
            · skip
              skip
              refine z_iloadn C rfl rfl ?_
              refine z_if C rfl (fun hc20 => ?_) (fun hc20 => ?_)
              · skip
                skip
                refine z_iconst C rfl ?_
                refine z_goto C rfl ?_
                exact z_zreturnq C rfl he ⟨Nat.le_refl _, Nat.le_refl _⟩ rfl (by first | rfl | exact znB) (by first | exact ⟨rfl, _, rfl⟩ | exact ⟨rfl, true, rfl⟩ | exact ⟨rfl, false, rfl⟩)
              · skip
                skip
                refine z_aloadn C rfl rfl ?_
                refine z_geti C rfl hS rfl ?_
                refine z_aloadn C rfl rfl ?_
                refine z_geti C rfl hS2 rfl ?_
                refine z_icmp C rfl (fun hc21 => ?_) (fun hc21 => ?_)
                · skip
                  skip
                  refine z_iconst C rfl ?_
                  exact z_zreturnq C rfl he ⟨Nat.le_refl _, Nat.le_refl _⟩ rfl (by first | rfl | exact znB) (by first | exact ⟨rfl, _, rfl⟩ | exact ⟨rfl, true, rfl⟩ | exact ⟨rfl, false, rfl⟩)
                · skip
                  skip
                  refine z_iconst C rfl ?_
                  refine z_goto C rfl ?_
                  exact z_zreturnq C rfl he ⟨Nat.le_refl _, Nat.le_refl _⟩ rfl (by first | rfl | exact znB) (by first | exact ⟨rfl, _, rfl⟩ | exact ⟨rfl, true, rfl⟩ | exact ⟨rfl, false, rfl⟩)
      · skip
        skip
        refine z_iconst C rfl ?_
        exact z_zreturnq C rfl he ⟨Nat.le_refl _, Nat.le_refl _⟩ rfl (by first | rfl | exact znB) (by first | exact ⟨rfl, _, rfl⟩ | exact ⟨rfl, true, rfl⟩ | exact ⟨rfl, false, rfl⟩)
  · skip
    skip
    refine z_aloadn C rfl rfl ?_
    refine z_callv C rfl ⟨by decide, by decide⟩ hS2 (c_isNumber (zKg_of C) hS2 _) rfl rfl (Nat.le_of_ble_eq_true rfl) ⟨(Nat.le_of_ble_eq_true rfl), (Nat.le_of_ble_eq_true rfl)⟩ ?_
    refine z_if C rfl (fun hc22 => ?_) (fun hc22 => ?_)
    · skip
      skip
      refine z_aloadn C rfl rfl ?_
      refine z_callv C rfl ⟨by decide, by decide⟩ hS (c_isNothing (zKg_of C) hS _) rfl rfl (Nat.le_of_ble_eq_true rfl) ⟨(Nat.le_of_ble_eq_true rfl), (Nat.le_of_ble_eq_true rfl)⟩ ?_
      refine z_if C rfl (fun hc23 => ?_) (fun hc23 => ?_)
      · skip
        skip
        refine z_aloadn C rfl rfl ?_
        refine z_geti C rfl hS rfl ?_
        refine z_bipush C rfl ?_
        refine z_icmp C rfl (fun hc24 => ?_) (fun hc24 => ?_)
        · skip
          skip
          refine z_iconst C rfl ?_
          refine z_istoren C rfl ?_
          refine z_aloadn C rfl rfl ?_
          refine z_geti C rfl hS rfl ?_
          refine z_aloadn C rfl rfl ?_
          refine z_geti C rfl hS2 rfl ?_
          refine z_icmp C rfl (fun hc25 => ?_) (fun hc25 => ?_)
          · skip
            skip
            refine z_iconst C rfl ?_
            exact z_zreturnq C rfl he ⟨Nat.le_refl _, Nat.le_refl _⟩ rfl (by first | rfl | exact znB) (by first | exact ⟨rfl, _, rfl⟩ | exact ⟨rfl, true, rfl⟩ | exact ⟨rfl, false, rfl⟩)
          · skip
            skip
            refine z_aloadn C rfl rfl ?_
            refine z_getj C rfl hS rfl ?_
            refine z_aloadn C rfl rfl ?_
            refine z_getj C rfl hS2 rfl ?_
            refine z_lcmp C rfl ?_
            refine z_if C rfl (fun hc26 => ?_) (fun hc26 => ?_)
            · skip
              skip
              refine z_iconst C rfl ?_
              exact z_zreturnq C rfl he ⟨Nat.le_refl _, Nat.le_refl _⟩ rfl (by first | rfl | exact znB) (by first | exact ⟨rfl, _, rfl⟩ | exact ⟨rfl, true, rfl⟩ | exact ⟨rfl, false, rfl⟩)
            · skip
              skip
              refine z_iloadn C rfl rfl ?_
              refine z_if C rfl (fun hc27 => ?_) (fun hc27 => ?_)
              · skip
                skip
                refine z_iconst C rfl ?_
                refine z_goto C rfl ?_
                exact z_zreturnq C rfl he ⟨Nat.le_refl _, Nat.le_refl _⟩ rfl (by first | rfl | exact znB) (by first | exact ⟨rfl, _, rfl⟩ | exact ⟨rfl, true, rfl⟩ | exact ⟨rfl, false, rfl⟩)
              · skip
                skip
                refine z_aloadn C rfl rfl ?_
                refine z_geti C rfl hS rfl ?_
                refine z_aloadn C rfl rfl ?_
                refine z_geti C rfl hS2 rfl ?_
                refine z_icmp C rfl (fun hc28 => ?_) (fun hc28 => ?_)
                · skip
                  skip
                  refine z_iconst C rfl ?_
                  exact z_zreturnq C rfl he ⟨Nat.le_refl _, Nat.le_refl _⟩ rfl (by first | rfl | exact znB) (by first | exact ⟨rfl, _, rfl⟩ | exact ⟨rfl, true, rfl⟩ | exact ⟨rfl, false, rfl⟩)
                · skip
                  skip
                  refine z_iconst C rfl ?_
                  refine z_goto C rfl ?_
                  exact z_zreturnq C rfl he ⟨Nat.le_refl _, Nat.le_refl _⟩ rfl (by first | rfl | exact znB) (by first | exact ⟨rfl, _, rfl⟩ | exact ⟨rfl, true, rfl⟩ | exact ⟨rfl, false, rfl⟩)
        · skip
          skip
          refine z_iconst C rfl ?_
          refine z_goto C rfl ?_
          refine z_istoren C rfl ?_
          refine z_aloadn C rfl rfl ?_
          refine z_geti C rfl hS rfl ?_
          refine z_aloadn C rfl rfl ?_
          refine z_geti C rfl hS2 rfl ?_
          refine z_icmp C rfl (fun hc29 => ?_) (fun hc29 => ?_)
          · skip
            skip
            refine z_iconst C rfl ?_
            exact z_zreturnq C rfl he ⟨Nat.le_refl _, Nat.le_refl _⟩ rfl (by first | rfl | exact znB) (by first | exact ⟨rfl, _, rfl⟩ | exact ⟨rfl, true, rfl⟩ | exact ⟨rfl, false, rfl⟩)
          · skip
            skip
            refine z_aloadn C rfl rfl ?_
            refine z_getj C rfl hS rfl ?_
            refine z_aloadn C rfl rfl ?_
            refine z_getj C rfl hS2 rfl ?_
            refine z_lcmp C rfl ?_
            refine z_if C rfl (fun hc30 => ?_) (fun hc30 => ?_)
            · skip
              skip
              refine z_iconst C rfl ?_
              exact z_zreturnq C rfl he ⟨Nat.le_refl _, Nat.le_refl _⟩ rfl (by first | rfl | exact znB) (by first | exact ⟨rfl, _, rfl⟩ | exact ⟨rfl, true, rfl⟩ | exact ⟨rfl, false, rfl⟩)
            · skip
              skip
              refine z_iloadn C rfl rfl ?_
              refine z_if C rfl (fun hc31 => ?_) (fun hc31 => ?_)
              · skip
                skip
                refine z_iconst C rfl ?_
                refine z_goto C rfl ?_
                exact z_zreturnq C rfl he ⟨Nat.le_refl _, Nat.le_refl _⟩ rfl (by first | rfl | exact znB) (by first | exact ⟨rfl, _, rfl⟩ | exact ⟨rfl, true, rfl⟩ | exact ⟨rfl, false, rfl⟩)
              · skip
                skip
                refine z_aloadn C rfl rfl ?_
                refine z_geti C rfl hS rfl ?_
                refine z_aloadn C rfl rfl ?_
                refine z_geti C rfl hS2 rfl ?_
                refine z_icmp C rfl (fun hc32 => ?_) (fun hc32 => ?_)
                · skip
                  skip
                  refine z_iconst C rfl ?_
                  exact z_zreturnq C rfl he ⟨Nat.le_refl _, Nat.le_refl _⟩ rfl (by first | rfl | exact znB) (by first | exact ⟨rfl, _, rfl⟩ | exact ⟨rfl, true, rfl⟩ | exact ⟨rfl, false, rfl⟩)
                · skip
                  skip
                  refine z_iconst C rfl ?_
                  refine z_goto C rfl ?_
                  exact z_zreturnq C rfl he ⟨Nat.le_refl _, Nat.le_refl _⟩ rfl (by first | rfl | exact znB) (by first | exact ⟨rfl, _, rfl⟩ | exact ⟨rfl, true, rfl⟩ | exact ⟨rfl, false, rfl⟩)
      · skip
        skip
        refine z_aloadn C rfl rfl ?_
        refine z_callv C rfl ⟨by decide, by decide⟩ hS2 (c_isNothing (zKg_of C) hS2 _) rfl rfl (Nat.le_of_ble_eq_true rfl) ⟨(Nat.le_of_ble_eq_true rfl), (Nat.le_of_ble_eq_true rfl)⟩ ?_
        refine z_if C rfl (fun hc33 => ?_) (fun hc33 => ?_)
        · skip
          skip
          refine z_aloadn C rfl rfl ?_
          refine z_geti C rfl hS rfl ?_
          refine z_bipush C rfl ?_
          refine z_icmp C rfl (fun hc34 => ?_) (fun hc34 => ?_)
          · skip
            skip
            refine z_iconst C rfl ?_
            refine z_istoren C rfl ?_
            refine z_aloadn C rfl rfl ?_
            refine z_geti C rfl hS rfl ?_
            refine z_aloadn C rfl rfl ?_
            refine z_geti C rfl hS2 rfl ?_
            refine z_icmp C rfl (fun hc35 => ?_) (fun hc35 => ?_)
            · skip
              skip
              refine z_iconst C rfl ?_
              exact z_zreturnq C rfl he ⟨Nat.le_refl _, Nat.le_refl _⟩ rfl (by first | rfl | exact znB) (by first | exact ⟨rfl, _, rfl⟩ | exact ⟨rfl, true, rfl⟩ | exact ⟨rfl, false, rfl⟩)
            · skip
              skip
              refine z_aloadn C rfl rfl ?_
              refine z_getj C rfl hS rfl ?_
              refine z_aloadn C rfl rfl ?_
              refine z_getj C rfl hS2 rfl ?_
              refine z_lcmp C rfl ?_
              refine z_if C rfl (fun hc36 => ?_) (fun hc36 => ?_)
              · skip
                skip
                refine z_iconst C rfl ?_
                exact z_zreturnq C rfl he ⟨Nat.le_refl _, Nat.le_refl _⟩ rfl (by first | rfl | exact znB) (by first | exact ⟨rfl, _, rfl⟩ | exact ⟨rfl, true, rfl⟩ | exact ⟨rfl, false, rfl⟩)
              · skip
                skip
                refine z_iloadn C rfl rfl ?_
                refine z_if C rfl (fun hc37 => ?_) (fun hc37 => ?_)
                · skip
                  skip
                  refine z_iconst C rfl ?_
                  refine z_goto C rfl ?_
                  exact z_zreturnq C rfl he ⟨Nat.le_refl _, Nat.le_refl _⟩ rfl (by first | rfl | exact znB) (by first | exact ⟨rfl, _, rfl⟩ | exact ⟨rfl, true, rfl⟩ | exact ⟨rfl, false, rfl⟩)
                · skip
                  skip
                  refine z_aloadn C rfl rfl ?_
                  refine z_geti C rfl hS rfl ?_
                  refine z_aloadn C rfl rfl ?_
                  refine z_geti C rfl hS2 rfl ?_
                  refine z_icmp C rfl (fun hc38 => ?_) (fun hc38 => ?_)
                  · skip
                    skip
                    refine z_iconst C rfl ?_
                    exact z_zreturnq C rfl he ⟨Nat.le_refl _, Nat.le_refl _⟩ rfl (by first | rfl | exact znB) (by first | exact ⟨rfl, _, rfl⟩ | exact ⟨rfl, true, rfl⟩ | exact ⟨rfl, false, rfl⟩)
                  · skip
                    skip
                    refine z_iconst C rfl ?_
                    refine z_goto C rfl ?_
                    exact z_zreturnq C rfl he ⟨Nat.le_refl _, Nat.le_refl _⟩ rfl (by first | rfl | exact znB) (by first | exact ⟨rfl, _, rfl⟩ | exact ⟨rfl, true, rfl⟩ | exact ⟨rfl, false, rfl⟩)
          · skip
            skip
            refine z_iconst C rfl ?_
            refine z_goto C rfl ?_
            refine z_istoren C rfl ?_
            refine z_aloadn C rfl rfl ?_
            refine z_geti C rfl hS rfl ?_
            refine z_aloadn C rfl rfl ?_
            refine z_geti C rfl hS2 rfl ?_
            refine z_icmp C rfl (fun hc39 => ?_) (fun hc39 => ?_)
            · skip
              skip
              refine z_iconst C rfl ?_
              exact z_zreturnq C rfl he ⟨Nat.le_refl _, Nat.le_refl _⟩ rfl (by first | rfl | exact znB) (by first | exact ⟨rfl, _, rfl⟩ | exact ⟨rfl, true, rfl⟩ | exact ⟨rfl, false, rfl⟩)
            · skip
              skip
              refine z_aloadn C rfl rfl ?_
              refine z_getj C rfl hS rfl ?_
              refine z_aloadn C rfl rfl ?_
              refine z_getj C rfl hS2 rfl ?_
              refine z_lcmp C rfl ?_
              refine z_if C rfl (fun hc40 => ?_) (fun hc40 => ?_)
              · skip
                skip
                refine z_iconst C rfl ?_
                exact z_zreturnq C rfl he ⟨Nat.le_refl _, Nat.le_refl _⟩ rfl (by first | rfl | exact znB) (by first | exact ⟨rfl, _, rfl⟩ | exact ⟨rfl, true, rfl⟩ | exact ⟨rfl, false, rfl⟩)
              · skip
                skip
                refine z_iloadn C rfl rfl ?_
                refine z_if C rfl (fun hc41 => ?_) (fun hc41 => ?_)
                · skip
                  skip
                  refine z_iconst C rfl ?_
                  refine z_goto C rfl ?_
                  exact z_zreturnq C rfl he ⟨Nat.le_refl _, Nat.le_refl _⟩ rfl (by first | rfl | exact znB) (by first | exact ⟨rfl, _, rfl⟩ | exact ⟨rfl, true, rfl⟩ | exact ⟨rfl, false, rfl⟩)
                · skip
                  skip
                  refine z_aloadn C rfl rfl ?_
                  refine z_geti C rfl hS rfl ?_
                  refine z_aloadn C rfl rfl ?_
                  refine z_geti C rfl hS2 rfl ?_
                  refine z_icmp C rfl (fun hc42 => ?_) (fun hc42 => ?_)
                  · skip
                    skip
                    refine z_iconst C rfl ?_
                    exact z_zreturnq C rfl he ⟨Nat.le_refl _, Nat.le_refl _⟩ rfl (by first | rfl | exact znB) (by first | exact ⟨rfl, _, rfl⟩ | exact ⟨rfl, true, rfl⟩ | exact ⟨rfl, false, rfl⟩)
                  · skip
                    skip
                    refine z_iconst C rfl ?_
                    refine z_goto C rfl ?_
                    exact z_zreturnq C rfl he ⟨Nat.le_refl _, Nat.le_refl _⟩ rfl (by first | rfl | exact znB) (by first | exact ⟨rfl, _, rfl⟩ | exact ⟨rfl, true, rfl⟩ | exact ⟨rfl, false, rfl⟩)
        · skip
          skip
          refine z_iconst C rfl ?_
          exact z_zreturnq C rfl he ⟨Nat.le_refl _, Nat.le_refl _⟩ rfl (by first | rfl | exact znB) (by first | exact ⟨rfl, _, rfl⟩ | exact ⟨rfl, true, rfl⟩ | exact ⟨rfl, false, rfl⟩)
    · skip
      skip
      refine z_aloadn C rfl rfl ?_
      refine z_aloadn C rfl rfl ?_
      refine z_callv C rfl ⟨by decide, by decide⟩ hS (c_sameN (zKg_of C) hS hS2 _) rfl rfl (Nat.le_of_ble_eq_true rfl) ⟨(Nat.le_of_ble_eq_true rfl), (Nat.le_of_ble_eq_true rfl)⟩ ?_
      exact z_zreturnq C rfl he ⟨Nat.le_refl _, Nat.le_refl _⟩ rfl (by first | rfl | exact znB) (by first | exact ⟨rfl, _, rfl⟩ | exact ⟨rfl, true, rfl⟩ | exact ⟨rfl, false, rfl⟩)

set_option maxHeartbeats 400000 in
set_option maxRecDepth 20000 in
theorem l_cb {ω : zO} (C : zX ω 6) {c f : Nat} (h12 : c < 12) (hf : f < 10) {l : Int32} : ∀ (m i : Nat) (h : zH), i + m = 4 → (zWk h ∧ h.1 (751 + 3 * f) 0 = l) → ZG ω 6 71 [] [] (zcl c (znoOf l) m i h) 0 0 → ZG ω 6 39 [(7, zi (nI i)), (6, zi (nI 4)), (5, zr (some (782 + 6 * c))), (1, zr (some (751 + 3 * f))), (0, zr (some (781 + 6 * c)))] [] h 0 0 := by
  intro m
  induction m with
  | zero =>
    intro i h hi hI kk
    obtain rfl : i = 4 := by omega
    refine z_iload C rfl rfl ?_
    refine z_iload C rfl rfl ?_
    refine z_icmp C rfl (fun hc => ?_) (fun hc => absurd (Int32.le_refl _) hc)
    exact z_ll [] trivial kk
  | succ m ih =>
    intro i h hi hI kk
    have hiN : i < 4 := by omega
    refine z_iload C rfl rfl ?_
    refine z_iload C rfl rfl ?_
    refine z_icmp C rfl (fun hc => absurd hc (nI_ge hiN (by decide))) (fun hc => ?_)
    refine z_aload C rfl rfl ?_
    refine z_iload C rfl rfl ?_
    refine z_aalds C rfl (zS_carr c h12) (by decide) (by decide) (zin hiN (by decide)) (by rw [zclamp hiN (by decide)]; exact (hI.1.1.1.2.2.2.2.2.2.2.2.1 c h12).2.2 i hiN) ?_
    refine z_astore C rfl ?_
    refine z_aload C rfl rfl ?_
    refine z_aloadn C rfl rfl ?_
    refine z_geti C rfl (zS_fun f hf) rfl ?_
    rw [hI.2]
    refine z_calls C rfl ⟨by decide, by decide, by decide⟩ (c_nothingOf (zKg_of C) _) rfl rfl (Nat.le_of_ble_eq_true rfl) ⟨Nat.le_of_ble_eq_true rfl, Nat.le_of_ble_eq_true rfl⟩ ?_
    refine z_callv C rfl ⟨by decide, by decide⟩ (zS_cval c h12 i hiN) (c_becomeNothing (zKg_of C) (zS_cval c h12 i hiN) ⟨_, rfl, zCh_no.1, zCh_no.2⟩ _) rfl rfl (Nat.le_of_ble_eq_true rfl) ⟨Nat.le_of_ble_eq_true rfl, Nat.le_of_ble_eq_true rfl⟩ ?_
    refine z_iinc C rfl rfl ?_
    refine z_goto C rfl ?_
    exact z_ll [(7, zi (nI (i + 1))), (6, zi (nI 4)), (5, zr (some (782 + 6 * c))), (1, zr (some (751 + 3 * f))), (0, zr (some (781 + 6 * c)))] ⟨znx i, rfl, rfl, rfl, rfl, trivial⟩ (ih (i + 1) _ (by omega) (⟨zK_bNothing hI.1 (zS_cval c h12 i hiN) zCh_no, (zbN_ne (by omega)).trans hI.2⟩) kk)
theorem zcb0_f {h : zH} {c f : Nat} {n : Int32} {id : Int64} (h12 : c < 12) : (zcb0 h c f n id).1 (751 + 3 * f) 0 = h.1 (751 + 3 * f) 0 := by
  unfold zcb0
  rw [zupI_ne (fun q => by omega), zupI_ne (fun q => by omega)]
  show (zupI _ (781 + 6 * c) 1 n).1 (751 + 3 * f) 0 = _
  rw [zupI_ne (fun q => by omega)]
  rfl
set_option maxHeartbeats 400000 in
set_option maxRecDepth 20000 in
theorem c_cb {κ : zK} (hκ : zKg κ) {c f : Nat} (h12 : c < 12) (hf : f < 10) {n : Int32} {id : Int64} (h : zH) (hw : zWk h) : zRet κ 6 [zr (some (781 + 6 * c)), zr (some (751 + 3 * f)), zi n, zj id] h none (zcb h c f n id) 0 0 := by
  refine zRet_of hκ (by decide) (by decide +kernel) (Nat.le_of_ble_eq_true rfl) fun ω C hK he => ?_
  refine z_aloadn C rfl rfl ?_
  refine z_aloadn C rfl rfl ?_
  refine z_putr C rfl (zS_call c h12) rfl ⟨_, rfl⟩ ?_
  refine z_aloadn C rfl rfl ?_
  refine z_iloadn C rfl rfl ?_
  refine z_puti C rfl (zS_call c h12) rfl ⟨_, rfl⟩ ?_
  refine z_aloadn C rfl rfl ?_
  refine z_lloadn C rfl rfl ?_
  refine z_putj C rfl (zS_call c h12) rfl ⟨_, rfl⟩ ?_
  refine z_aloadn C rfl rfl ?_
  refine z_iconst C rfl ?_
  refine z_puti C rfl (zS_call c h12) rfl ⟨_, rfl⟩ ?_
  refine z_aloadn C rfl rfl ?_
  refine z_iconst C rfl ?_
  refine z_puti C rfl (zS_call c h12) rfl ⟨_, rfl⟩ ?_
  refine z_aloadn C rfl rfl ?_
  have hw0 := zK_cb0 (n := n) (id := id) hw h12 hf
  refine z_gets C rfl (zS_call c h12) rfl (hw0.1.1.2.2.2.2.2.2.2.2.1 c h12).2.1 ?_
  refine z_astore C rfl ?_
  refine z_aload C rfl rfl ?_
  refine z_alen C rfl (zS_carr c h12) (by decide) ?_
  refine z_istore C rfl ?_
  refine z_iconst C rfl ?_
  refine z_istore C rfl ?_
  exact z_ll [(7, zi (nI 0)), (6, zi (nI 4)), (5, zr (some (782 + 6 * c))), (1, zr (some (751 + 3 * f))), (0, zr (some (781 + 6 * c)))] ⟨rfl, rfl, rfl, rfl, rfl, trivial⟩ (l_cb C h12 hf 4 0 _ rfl ⟨zK_cb0 hw h12 hf, (zcb0_f h12)⟩ (z_return C rfl he ⟨Nat.le_refl _, Nat.le_refl _⟩ rfl))

