/-! codes over the stack and the heap -/
/-- what a code leaves: the invariant, what is kept, its fault; a fault 9 is a throw that lies ready -/
def zP0 (h : zH) (d n : Nat) : Option zV → zH → Prop := fun v h' => ∃ T s x, zRI h' T s d ∧ zSt h h' n ∧ zGk h h' ∧ v = some (zi x) ∧ (x = 9 → zGd h' 749)
theorem zstkF {h : zH} (hw : zWk h) : h.2.2.2 1 6 = some 332 := hw.1.1.2.1.2.2.2.1
theorem zheaF {h : zH} (hw : zWk h) : h.2.2.2 1 0 = some 2 := hw.1.1.2.1.1
theorem zcarF {h : zH} (hw : zWk h) : h.2.2.2 1 11 = some 748 := hw.1.1.2.1.2.2.2.2.2.1
theorem zthrF {h : zH} (hw : zWk h) : h.2.2.2 1 12 = some 749 := hw.1.1.2.1.2.2.2.2.2.2.1
theorem zresF {h : zH} (hw : zWk h) : h.2.2.2 1 10 = some 747 := hw.1.1.2.1.2.2.2.2.1
theorem zcalF {h : zH} (hw : zWk h) : h.2.2.2 1 3 = some 331 := hw.1.1.2.1.2.2.1
theorem zfunF {h : zH} (hw : zWk h) : h.2.2.2 1 1 = some 330 := hw.1.1.2.1.2.1
theorem ztrF {h : zH} (hw : zWk h) : h.2.2.2 1 14 = some 750 := hw.1.1.2.1.2.2.2.2.2.2.2
theorem zRI_s {h : zH} {T s d : Nat} (R : zRI h T s d) : h.1 332 2 = nI s ∧ s ≤ 412 := ⟨R.2.2.2.2.1.2.2.1, Nat.le_trans R.2.2.2.2.1.2.1 R.2.2.2.2.1.1⟩
theorem zsubN {a b : Nat} (h : b ≤ a) : nI a - nI b = nI (a - b) := by
  have e : nI a = nI (a - b) + nI b := by rw [nI_add]; congr 1; omega
  rw [e, Int32.add_sub_cancel]
theorem zun_at {s j : Nat} (hs : s ≤ 412) (hj : j + 1 ≤ s) {y : Int32} (hy : y = nI j) : zun (nI s - Int32.ofInt (Int.ofNat 1) - y) = 335 + (s - 1 - j) := by
  subst hy
  have e1 : nI s - Int32.ofInt (Int.ofNat 1) = nI (s - 1) := zsubN (by omega)
  rw [e1, zsubN (by omega)]
  unfold zun
  rw [if_pos (zwt (by omega) (by decide)), nI_clamp (by omega)]
theorem zV_apply {h h' : zH} {k : Nat} (hw : zWk h) (hn : zNn h) (hk : zS k = (0, 6, 6)) (g : zGd h k) (hN : zisNum (h.1 k 0) = true) (hq : h' = h ∨ h' = zbStrange h k ∨ (∃ z, vf_n64 z ∧ h' = zbReal h k z) ∨ ∃ x, h' = zbWhole h k (h.1 k 0) x) : zVW h k h' := by
  rcases hq with rfl | rfl | ⟨z, hz, rfl⟩ | ⟨x, rfl⟩
  · exact zVW_refl hw hn g
  · exact zV_strange hw hn hk
  · exact zV_real hw hn hk hz
  · refine zV_whole hw hn hk (hw.2.1 k hk).1 (fun e => ?_)
    rw [e] at hN
    exact absurd hN (by decide)
set_option maxHeartbeats 400000 in
set_option maxRecDepth 20000 in
theorem q_combine {κ : zK} (hκ : zKg κ) {T s d : Nat} {l o : Int32} (h : zH) (R : zRI h T s d) (h2 : 2 ≤ s) : zRq κ 46 [zr (some 1), zi l, zi o] h (zP0 h d 0) 0 0 := by
  refine zRq_of hκ (by decide) (by decide +kernel) (Nat.le_of_ble_eq_true rfl) fun ω C hK he => ?_
  have hw := R.1
  have hs := zRI_s R
  have hU : zS (335 + (s - 1)) = (0, 6, 6) := zS_cell _ (by omega)
  have hL : zS (335 + (s - 2)) = (0, 6, 6) := zS_cell _ (by omega)
  have gL : zGd h (335 + (s - 2)) := R.2.2.2.2.1.2.2.2 _ (by have := R.2.2.2.2.1.2.1; omega)
  have u0 : zun (h.1 332 2 - Int32.ofInt (Int.ofNat 1) - Int32.ofInt (Int.ofNat 0)) = 335 + (s - 1) := by rw [hs.1]; exact zun_at hs.2 (j := 0) (by omega) rfl
  have u1 : zun (h.1 332 2 - Int32.ofInt (Int.ofNat 1) - Int32.ofInt (Int.ofNat 1)) = 335 + (s - 2) := by rw [hs.1]; exact zun_at hs.2 (j := 1) (by omega) rfl
  have k124 : ∀ (h1 : zH) (x : Int32), zVW h (335 + (s - 2)) h1 → x ≠ 9 → ZG ω 46 124 [(6, zi x), (0, zr (some 1))] [] h1 0 0 := by
    intro h1 x v hx
    have R1 := zRI_vw R hL (by omega) v
    refine z_aloadn C rfl rfl ?_
    refine z_gets C rfl zS_1 rfl (zstkF R1.1) ?_
    refine z_callv C rfl ⟨by decide, by decide⟩ zS_332 (c_pop (zKg_of C) (zRI_s R1).2 _ R1.1.1.1 (zRI_s R1).1) rfl rfl (Nat.le_of_ble_eq_true rfl) ⟨(Nat.le_of_ble_eq_true rfl), (Nat.le_of_ble_eq_true rfl)⟩ ?_
    refine z_pop C rfl rfl ?_
    refine z_iload C rfl rfl ?_
    exact z_ireturnq C rfl he ⟨Nat.le_refl _, Nat.le_refl _⟩ rfl ⟨T, s - 1, x, zRI_pop R1, zSt_tr (zSt_vw hL v) zpoH_st, zGk_tr (zGk_vw hL v) zpoH_gk, rfl, fun e => absurd e hx⟩
  refine z_aloadn C rfl rfl ?_
  refine z_gets C rfl zS_1 rfl (zstkF hw) ?_
  refine z_iconst C rfl ?_
  refine z_callv C rfl ⟨by decide, by decide⟩ zS_332 (c_under (zKg_of C) _ hw.1.1) rfl rfl (Nat.le_of_ble_eq_true rfl) ⟨(Nat.le_of_ble_eq_true rfl), (Nat.le_of_ble_eq_true rfl)⟩ ?_
  rw [u0]
  refine z_astoren C rfl ?_
  refine z_aloadn C rfl rfl ?_
  refine z_gets C rfl zS_1 rfl (zstkF hw) ?_
  refine z_iconst C rfl ?_
  refine z_callv C rfl ⟨by decide, by decide⟩ zS_332 (c_under (zKg_of C) _ hw.1.1) rfl rfl (Nat.le_of_ble_eq_true rfl) ⟨(Nat.le_of_ble_eq_true rfl), (Nat.le_of_ble_eq_true rfl)⟩ ?_
  rw [u1]
  refine z_astore C rfl ?_
  refine z_aloadn C rfl rfl ?_
  refine z_callv C rfl ⟨by decide, by decide⟩ hU (c_isNumber (zKg_of C) hU _) rfl rfl (Nat.le_of_ble_eq_true rfl) ⟨(Nat.le_of_ble_eq_true rfl), (Nat.le_of_ble_eq_true rfl)⟩ ?_
  refine z_if C rfl (fun hc1 => ?_) (fun hc1 => ?_)
  · skip
    skip
    refine z_iconst C rfl ?_
    refine z_istore C rfl ?_
    refine z_iloadn C rfl rfl ?_
    refine z_bipush C rfl ?_
    refine z_icmp C rfl (fun hc2 => ?_) (fun hc2 => ?_)
    · skip
      skip
      refine z_iconst C rfl ?_
      refine z_istore C rfl ?_
      refine z_iloadn C rfl rfl ?_
      refine z_bipush C rfl ?_
      refine z_icmp C rfl (fun hc3 => ?_) (fun hc3 => ?_)
      · skip
        skip
        refine z_iloadn C rfl rfl ?_
        refine z_bipush C rfl ?_
        refine z_icmp C rfl (fun hc4 => ?_) (fun hc4 => ?_)
        · skip
          skip
          refine z_iloadn C rfl rfl ?_
          refine z_aload C rfl rfl ?_
          refine z_aloadn C rfl rfl ?_
          refine z_callsq C rfl ⟨by decide, by decide, by decide⟩ (q_apply (zKg_of C) hL hU _ hw R.2.1) rfl rfl (Nat.le_of_ble_eq_true rfl) ⟨Nat.le_of_ble_eq_true rfl, Nat.le_of_ble_eq_true rfl⟩ fun v5 g5 q5 => ?_
          obtain ⟨⟨x, rfl, hx⟩, hq⟩ := q5
          refine z_istore C rfl ?_
          first | (refine z_ll [(6, zi (Int32.ofInt (Int.ofNat 0))), (0, zr (some 1))] ⟨rfl, rfl, trivial⟩ (k124 _ _ (zV_num hw R.2.1 hL) (by decide))) | (refine z_ll [(6, zi x), (0, zr (some 1))] ⟨rfl, rfl, trivial⟩ (k124 _ _ ?_ hx); exact zV_apply hw R.2.1 hL gL (by first | exact zbq2 hc1 | exact zbq2 hc2 | exact zbq2 hc3 | exact zbq2 hc4 | fail) hq) | exact absurd hc1 hc2 | exact absurd hc1 hc3 | exact absurd hc1 hc4 | exact absurd hc2 hc3 | exact absurd hc2 hc4 | exact absurd hc3 hc4 | exact absurd hc2 hc1 | exact absurd hc3 hc1 | exact absurd hc4 hc1 | exact absurd hc3 hc2 | exact absurd hc4 hc2 | exact absurd hc4 hc3 | exact absurd rfl hc1 | exact absurd rfl hc2 | exact absurd rfl hc3 | exact absurd rfl hc4 | exact absurd (by decide) hc1 | exact absurd (by decide) hc2 | exact absurd (by decide) hc3 | exact absurd (by decide) hc4 | fail
        · skip
          skip
          skip
          refine z_aload C rfl rfl ?_
          refine z_iloadn C rfl rfl ?_
          refine z_aload C rfl rfl ?_
          refine z_aloadn C rfl rfl ?_
          refine z_callv C rfl ⟨by decide, by decide⟩ hL (c_less (zKg_of C) hL hU _) rfl rfl (Nat.le_of_ble_eq_true rfl) ⟨(Nat.le_of_ble_eq_true rfl), (Nat.le_of_ble_eq_true rfl)⟩ ?_
          refine z_if C rfl (fun hc6 => ?_) (fun hc6 => ?_)
          · skip
            skip
            refine z_iconst C rfl ?_
            refine z_callv C rfl ⟨by decide, by decide⟩ hL (c_becomeNumber (zKg_of C) hL _) rfl rfl (Nat.le_of_ble_eq_true rfl) ⟨(Nat.le_of_ble_eq_true rfl), (Nat.le_of_ble_eq_true rfl)⟩ ?_
            refine z_goto C rfl ?_
            first | (refine z_ll [(6, zi (Int32.ofInt (Int.ofNat 0))), (0, zr (some 1))] ⟨rfl, rfl, trivial⟩ (k124 _ _ (zV_num hw R.2.1 hL) (by decide))) | (refine z_ll [(6, zi x), (0, zr (some 1))] ⟨rfl, rfl, trivial⟩ (k124 _ _ ?_ hx); exact zV_apply hw R.2.1 hL gL (by first | exact zbq2 hc1 | exact zbq2 hc2 | exact zbq2 hc3 | exact zbq2 hc4 | exact zbq2 hc6 | fail) hq) | exact absurd hc1 hc2 | exact absurd hc1 hc3 | exact absurd hc1 hc4 | exact absurd hc1 hc6 | exact absurd hc2 hc3 | exact absurd hc2 hc4 | exact absurd hc2 hc6 | exact absurd hc3 hc4 | exact absurd hc3 hc6 | exact absurd hc4 hc6 | exact absurd hc2 hc1 | exact absurd hc3 hc1 | exact absurd hc4 hc1 | exact absurd hc6 hc1 | exact absurd hc3 hc2 | exact absurd hc4 hc2 | exact absurd hc6 hc2 | exact absurd hc4 hc3 | exact absurd hc6 hc3 | exact absurd hc6 hc4 | exact absurd rfl hc1 | exact absurd rfl hc2 | exact absurd rfl hc3 | exact absurd rfl hc4 | exact absurd rfl hc6 | exact absurd (by decide) hc1 | exact absurd (by decide) hc2 | exact absurd (by decide) hc3 | exact absurd (by decide) hc4 | exact absurd (by decide) hc6 | fail
          · skip
            skip
            refine z_iconst C rfl ?_
            refine z_goto C rfl ?_
            refine z_callv C rfl ⟨by decide, by decide⟩ hL (c_becomeNumber (zKg_of C) hL _) rfl rfl (Nat.le_of_ble_eq_true rfl) ⟨(Nat.le_of_ble_eq_true rfl), (Nat.le_of_ble_eq_true rfl)⟩ ?_
            refine z_goto C rfl ?_
            first | (refine z_ll [(6, zi (Int32.ofInt (Int.ofNat 0))), (0, zr (some 1))] ⟨rfl, rfl, trivial⟩ (k124 _ _ (zV_num hw R.2.1 hL) (by decide))) | (refine z_ll [(6, zi x), (0, zr (some 1))] ⟨rfl, rfl, trivial⟩ (k124 _ _ ?_ hx); exact zV_apply hw R.2.1 hL gL (by first | exact zbq2 hc1 | exact zbq2 hc2 | exact zbq2 hc3 | exact zbq2 hc4 | exact zbq2 hc6 | fail) hq) | exact absurd hc1 hc2 | exact absurd hc1 hc3 | exact absurd hc1 hc4 | exact absurd hc1 hc6 | exact absurd hc2 hc3 | exact absurd hc2 hc4 | exact absurd hc2 hc6 | exact absurd hc3 hc4 | exact absurd hc3 hc6 | exact absurd hc4 hc6 | exact absurd hc2 hc1 | exact absurd hc3 hc1 | exact absurd hc4 hc1 | exact absurd hc6 hc1 | exact absurd hc3 hc2 | exact absurd hc4 hc2 | exact absurd hc6 hc2 | exact absurd hc4 hc3 | exact absurd hc6 hc3 | exact absurd hc6 hc4 | exact absurd rfl hc1 | exact absurd rfl hc2 | exact absurd rfl hc3 | exact absurd rfl hc4 | exact absurd rfl hc6 | exact absurd (by decide) hc1 | exact absurd (by decide) hc2 | exact absurd (by decide) hc3 | exact absurd (by decide) hc4 | exact absurd (by decide) hc6 | fail
      · skip
        skip
        refine z_aload C rfl rfl ?_
        refine z_iloadn C rfl rfl ?_
        refine z_aload C rfl rfl ?_
        refine z_aloadn C rfl rfl ?_
        refine z_callvq C rfl ⟨by decide, by decide⟩ (by first | assumption | rfl | decide) (q_same (zKg_of C) hL hU _) rfl rfl (Nat.le_of_ble_eq_true rfl) ⟨Nat.le_of_ble_eq_true rfl, Nat.le_of_ble_eq_true rfl⟩ fun v7 g7 q7 => ?_
        obtain ⟨hg, b, rfl⟩ := q7
        rw [hg]
        refine z_if C rfl (fun hc8 => ?_) (fun hc8 => ?_)
        · skip
          skip
          refine z_iconst C rfl ?_
          refine z_callv C rfl ⟨by decide, by decide⟩ hL (c_becomeNumber (zKg_of C) hL _) rfl rfl (Nat.le_of_ble_eq_true rfl) ⟨(Nat.le_of_ble_eq_true rfl), (Nat.le_of_ble_eq_true rfl)⟩ ?_
          refine z_goto C rfl ?_
          first | (refine z_ll [(6, zi (Int32.ofInt (Int.ofNat 0))), (0, zr (some 1))] ⟨rfl, rfl, trivial⟩ (k124 _ _ (zV_num hw R.2.1 hL) (by decide))) | (refine z_ll [(6, zi x), (0, zr (some 1))] ⟨rfl, rfl, trivial⟩ (k124 _ _ ?_ hx); exact zV_apply hw R.2.1 hL gL (by first | exact zbq2 hc1 | exact zbq2 hc2 | exact zbq2 hc3 | exact zbq2 hc8 | fail) hq) | exact absurd hc1 hc2 | exact absurd hc1 hc3 | exact absurd hc1 hc8 | exact absurd hc2 hc3 | exact absurd hc2 hc8 | exact absurd hc3 hc8 | exact absurd hc2 hc1 | exact absurd hc3 hc1 | exact absurd hc8 hc1 | exact absurd hc3 hc2 | exact absurd hc8 hc2 | exact absurd hc8 hc3 | exact absurd rfl hc1 | exact absurd rfl hc2 | exact absurd rfl hc3 | exact absurd rfl hc8 | exact absurd (by decide) hc1 | exact absurd (by decide) hc2 | exact absurd (by decide) hc3 | exact absurd (by decide) hc8 | fail
        · skip
          skip
          refine z_iconst C rfl ?_
          refine z_goto C rfl ?_
          refine z_callv C rfl ⟨by decide, by decide⟩ hL (c_becomeNumber (zKg_of C) hL _) rfl rfl (Nat.le_of_ble_eq_true rfl) ⟨(Nat.le_of_ble_eq_true rfl), (Nat.le_of_ble_eq_true rfl)⟩ ?_
          refine z_goto C rfl ?_
          first | (refine z_ll [(6, zi (Int32.ofInt (Int.ofNat 0))), (0, zr (some 1))] ⟨rfl, rfl, trivial⟩ (k124 _ _ (zV_num hw R.2.1 hL) (by decide))) | (refine z_ll [(6, zi x), (0, zr (some 1))] ⟨rfl, rfl, trivial⟩ (k124 _ _ ?_ hx); exact zV_apply hw R.2.1 hL gL (by first | exact zbq2 hc1 | exact zbq2 hc2 | exact zbq2 hc3 | exact zbq2 hc8 | fail) hq) | exact absurd hc1 hc2 | exact absurd hc1 hc3 | exact absurd hc1 hc8 | exact absurd hc2 hc3 | exact absurd hc2 hc8 | exact absurd hc3 hc8 | exact absurd hc2 hc1 | exact absurd hc3 hc1 | exact absurd hc8 hc1 | exact absurd hc3 hc2 | exact absurd hc8 hc2 | exact absurd hc8 hc3 | exact absurd rfl hc1 | exact absurd rfl hc2 | exact absurd rfl hc3 | exact absurd rfl hc8 | exact absurd (by decide) hc1 | exact absurd (by decide) hc2 | exact absurd (by decide) hc3 | exact absurd (by decide) hc8 | fail
    · skip
      skip
      refine z_iload C rfl rfl ?_
      refine z_if C rfl (fun hc9 => ?_) (fun hc9 => ?_)
      · skip
        skip
        refine z_iconst C rfl ?_
        refine z_istore C rfl ?_
        refine z_iloadn C rfl rfl ?_
        refine z_bipush C rfl ?_
        refine z_icmp C rfl (fun hc10 => ?_) (fun hc10 => ?_)
        · skip
          skip
          refine z_iloadn C rfl rfl ?_
          refine z_bipush C rfl ?_
          refine z_icmp C rfl (fun hc11 => ?_) (fun hc11 => ?_)
          · skip
            skip
            refine z_iloadn C rfl rfl ?_
            refine z_aload C rfl rfl ?_
            refine z_aloadn C rfl rfl ?_
            refine z_callsq C rfl ⟨by decide, by decide, by decide⟩ (q_apply (zKg_of C) hL hU _ hw R.2.1) rfl rfl (Nat.le_of_ble_eq_true rfl) ⟨Nat.le_of_ble_eq_true rfl, Nat.le_of_ble_eq_true rfl⟩ fun v12 g12 q12 => ?_
            obtain ⟨⟨x, rfl, hx⟩, hq⟩ := q12
            refine z_istore C rfl ?_
            first | (refine z_ll [(6, zi (Int32.ofInt (Int.ofNat 0))), (0, zr (some 1))] ⟨rfl, rfl, trivial⟩ (k124 _ _ (zV_num hw R.2.1 hL) (by decide))) | (refine z_ll [(6, zi x), (0, zr (some 1))] ⟨rfl, rfl, trivial⟩ (k124 _ _ ?_ hx); exact zV_apply hw R.2.1 hL gL (by first | exact zbq2 hc1 | exact zbq2 hc2 | exact zbq2 hc9 | exact zbq2 hc10 | exact zbq2 hc11 | fail) hq) | exact absurd hc1 hc2 | exact absurd hc1 hc9 | exact absurd hc1 hc10 | exact absurd hc1 hc11 | exact absurd hc2 hc9 | exact absurd hc2 hc10 | exact absurd hc2 hc11 | exact absurd hc9 hc10 | exact absurd hc9 hc11 | exact absurd hc10 hc11 | exact absurd hc2 hc1 | exact absurd hc9 hc1 | exact absurd hc10 hc1 | exact absurd hc11 hc1 | exact absurd hc9 hc2 | exact absurd hc10 hc2 | exact absurd hc11 hc2 | exact absurd hc10 hc9 | exact absurd hc11 hc9 | exact absurd hc11 hc10 | exact absurd rfl hc1 | exact absurd rfl hc2 | exact absurd rfl hc9 | exact absurd rfl hc10 | exact absurd rfl hc11 | exact absurd (by decide) hc1 | exact absurd (by decide) hc2 | exact absurd (by decide) hc9 | exact absurd (by decide) hc10 | exact absurd (by decide) hc11 | fail
          · skip
            skip
            skip
            refine z_aload C rfl rfl ?_
            refine z_iloadn C rfl rfl ?_
            refine z_aload C rfl rfl ?_
            refine z_aloadn C rfl rfl ?_
            refine z_callv C rfl ⟨by decide, by decide⟩ hL (c_less (zKg_of C) hL hU _) rfl rfl (Nat.le_of_ble_eq_true rfl) ⟨(Nat.le_of_ble_eq_true rfl), (Nat.le_of_ble_eq_true rfl)⟩ ?_
            refine z_if C rfl (fun hc13 => ?_) (fun hc13 => ?_)
            · skip
              skip
              refine z_iconst C rfl ?_
              refine z_callv C rfl ⟨by decide, by decide⟩ hL (c_becomeNumber (zKg_of C) hL _) rfl rfl (Nat.le_of_ble_eq_true rfl) ⟨(Nat.le_of_ble_eq_true rfl), (Nat.le_of_ble_eq_true rfl)⟩ ?_
              refine z_goto C rfl ?_
              first | (refine z_ll [(6, zi (Int32.ofInt (Int.ofNat 0))), (0, zr (some 1))] ⟨rfl, rfl, trivial⟩ (k124 _ _ (zV_num hw R.2.1 hL) (by decide))) | (refine z_ll [(6, zi x), (0, zr (some 1))] ⟨rfl, rfl, trivial⟩ (k124 _ _ ?_ hx); exact zV_apply hw R.2.1 hL gL (by first | exact zbq2 hc1 | exact zbq2 hc2 | exact zbq2 hc9 | exact zbq2 hc10 | exact zbq2 hc11 | exact zbq2 hc13 | fail) hq) | exact absurd hc1 hc2 | exact absurd hc1 hc9 | exact absurd hc1 hc10 | exact absurd hc1 hc11 | exact absurd hc1 hc13 | exact absurd hc2 hc9 | exact absurd hc2 hc10 | exact absurd hc2 hc11 | exact absurd hc2 hc13 | exact absurd hc9 hc10 | exact absurd hc9 hc11 | exact absurd hc9 hc13 | exact absurd hc10 hc11 | exact absurd hc10 hc13 | exact absurd hc11 hc13 | exact absurd hc2 hc1 | exact absurd hc9 hc1 | exact absurd hc10 hc1 | exact absurd hc11 hc1 | exact absurd hc13 hc1 | exact absurd hc9 hc2 | exact absurd hc10 hc2 | exact absurd hc11 hc2 | exact absurd hc13 hc2 | exact absurd hc10 hc9 | exact absurd hc11 hc9 | exact absurd hc13 hc9 | exact absurd hc11 hc10 | exact absurd hc13 hc10 | exact absurd hc13 hc11 | exact absurd rfl hc1 | exact absurd rfl hc2 | exact absurd rfl hc9 | exact absurd rfl hc10 | exact absurd rfl hc11 | exact absurd rfl hc13 | exact absurd (by decide) hc1 | exact absurd (by decide) hc2 | exact absurd (by decide) hc9 | exact absurd (by decide) hc10 | exact absurd (by decide) hc11 | exact absurd (by decide) hc13 | fail
            · skip
              skip
              refine z_iconst C rfl ?_
              refine z_goto C rfl ?_
              refine z_callv C rfl ⟨by decide, by decide⟩ hL (c_becomeNumber (zKg_of C) hL _) rfl rfl (Nat.le_of_ble_eq_true rfl) ⟨(Nat.le_of_ble_eq_true rfl), (Nat.le_of_ble_eq_true rfl)⟩ ?_
              refine z_goto C rfl ?_
              first | (refine z_ll [(6, zi (Int32.ofInt (Int.ofNat 0))), (0, zr (some 1))] ⟨rfl, rfl, trivial⟩ (k124 _ _ (zV_num hw R.2.1 hL) (by decide))) | (refine z_ll [(6, zi x), (0, zr (some 1))] ⟨rfl, rfl, trivial⟩ (k124 _ _ ?_ hx); exact zV_apply hw R.2.1 hL gL (by first | exact zbq2 hc1 | exact zbq2 hc2 | exact zbq2 hc9 | exact zbq2 hc10 | exact zbq2 hc11 | exact zbq2 hc13 | fail) hq) | exact absurd hc1 hc2 | exact absurd hc1 hc9 | exact absurd hc1 hc10 | exact absurd hc1 hc11 | exact absurd hc1 hc13 | exact absurd hc2 hc9 | exact absurd hc2 hc10 | exact absurd hc2 hc11 | exact absurd hc2 hc13 | exact absurd hc9 hc10 | exact absurd hc9 hc11 | exact absurd hc9 hc13 | exact absurd hc10 hc11 | exact absurd hc10 hc13 | exact absurd hc11 hc13 | exact absurd hc2 hc1 | exact absurd hc9 hc1 | exact absurd hc10 hc1 | exact absurd hc11 hc1 | exact absurd hc13 hc1 | exact absurd hc9 hc2 | exact absurd hc10 hc2 | exact absurd hc11 hc2 | exact absurd hc13 hc2 | exact absurd hc10 hc9 | exact absurd hc11 hc9 | exact absurd hc13 hc9 | exact absurd hc11 hc10 | exact absurd hc13 hc10 | exact absurd hc13 hc11 | exact absurd rfl hc1 | exact absurd rfl hc2 | exact absurd rfl hc9 | exact absurd rfl hc10 | exact absurd rfl hc11 | exact absurd rfl hc13 | exact absurd (by decide) hc1 | exact absurd (by decide) hc2 | exact absurd (by decide) hc9 | exact absurd (by decide) hc10 | exact absurd (by decide) hc11 | exact absurd (by decide) hc13 | fail
        · skip
          skip
          refine z_aload C rfl rfl ?_
          refine z_iloadn C rfl rfl ?_
          refine z_aload C rfl rfl ?_
          refine z_aloadn C rfl rfl ?_
          refine z_callvq C rfl ⟨by decide, by decide⟩ (by first | assumption | rfl | decide) (q_same (zKg_of C) hL hU _) rfl rfl (Nat.le_of_ble_eq_true rfl) ⟨Nat.le_of_ble_eq_true rfl, Nat.le_of_ble_eq_true rfl⟩ fun v14 g14 q14 => ?_
          obtain ⟨hg, b, rfl⟩ := q14
          rw [hg]
          refine z_if C rfl (fun hc15 => ?_) (fun hc15 => ?_)
          · skip
            skip
            refine z_iconst C rfl ?_
            refine z_callv C rfl ⟨by decide, by decide⟩ hL (c_becomeNumber (zKg_of C) hL _) rfl rfl (Nat.le_of_ble_eq_true rfl) ⟨(Nat.le_of_ble_eq_true rfl), (Nat.le_of_ble_eq_true rfl)⟩ ?_
            refine z_goto C rfl ?_
            first | (refine z_ll [(6, zi (Int32.ofInt (Int.ofNat 0))), (0, zr (some 1))] ⟨rfl, rfl, trivial⟩ (k124 _ _ (zV_num hw R.2.1 hL) (by decide))) | (refine z_ll [(6, zi x), (0, zr (some 1))] ⟨rfl, rfl, trivial⟩ (k124 _ _ ?_ hx); exact zV_apply hw R.2.1 hL gL (by first | exact zbq2 hc1 | exact zbq2 hc2 | exact zbq2 hc9 | exact zbq2 hc10 | exact zbq2 hc15 | fail) hq) | exact absurd hc1 hc2 | exact absurd hc1 hc9 | exact absurd hc1 hc10 | exact absurd hc1 hc15 | exact absurd hc2 hc9 | exact absurd hc2 hc10 | exact absurd hc2 hc15 | exact absurd hc9 hc10 | exact absurd hc9 hc15 | exact absurd hc10 hc15 | exact absurd hc2 hc1 | exact absurd hc9 hc1 | exact absurd hc10 hc1 | exact absurd hc15 hc1 | exact absurd hc9 hc2 | exact absurd hc10 hc2 | exact absurd hc15 hc2 | exact absurd hc10 hc9 | exact absurd hc15 hc9 | exact absurd hc15 hc10 | exact absurd rfl hc1 | exact absurd rfl hc2 | exact absurd rfl hc9 | exact absurd rfl hc10 | exact absurd rfl hc15 | exact absurd (by decide) hc1 | exact absurd (by decide) hc2 | exact absurd (by decide) hc9 | exact absurd (by decide) hc10 | exact absurd (by decide) hc15 | fail
          · skip
            skip
            refine z_iconst C rfl ?_
            refine z_goto C rfl ?_
            refine z_callv C rfl ⟨by decide, by decide⟩ hL (c_becomeNumber (zKg_of C) hL _) rfl rfl (Nat.le_of_ble_eq_true rfl) ⟨(Nat.le_of_ble_eq_true rfl), (Nat.le_of_ble_eq_true rfl)⟩ ?_
            refine z_goto C rfl ?_
            first | (refine z_ll [(6, zi (Int32.ofInt (Int.ofNat 0))), (0, zr (some 1))] ⟨rfl, rfl, trivial⟩ (k124 _ _ (zV_num hw R.2.1 hL) (by decide))) | (refine z_ll [(6, zi x), (0, zr (some 1))] ⟨rfl, rfl, trivial⟩ (k124 _ _ ?_ hx); exact zV_apply hw R.2.1 hL gL (by first | exact zbq2 hc1 | exact zbq2 hc2 | exact zbq2 hc9 | exact zbq2 hc10 | exact zbq2 hc15 | fail) hq) | exact absurd hc1 hc2 | exact absurd hc1 hc9 | exact absurd hc1 hc10 | exact absurd hc1 hc15 | exact absurd hc2 hc9 | exact absurd hc2 hc10 | exact absurd hc2 hc15 | exact absurd hc9 hc10 | exact absurd hc9 hc15 | exact absurd hc10 hc15 | exact absurd hc2 hc1 | exact absurd hc9 hc1 | exact absurd hc10 hc1 | exact absurd hc15 hc1 | exact absurd hc9 hc2 | exact absurd hc10 hc2 | exact absurd hc15 hc2 | exact absurd hc10 hc9 | exact absurd hc15 hc9 | exact absurd hc15 hc10 | exact absurd rfl hc1 | exact absurd rfl hc2 | exact absurd rfl hc9 | exact absurd rfl hc10 | exact absurd rfl hc15 | exact absurd (by decide) hc1 | exact absurd (by decide) hc2 | exact absurd (by decide) hc9 | exact absurd (by decide) hc10 | exact absurd (by decide) hc15 | fail
      · skip
        skip
        refine z_iconst C rfl ?_
        exact z_ireturnq C rfl he ⟨Nat.le_refl _, Nat.le_refl _⟩ rfl ⟨T, s, _, R, zSt_refl, zGk_refl, rfl, fun e => absurd e (by decide)⟩
  · skip
    skip
    refine z_aload C rfl rfl ?_
    refine z_callv C rfl ⟨by decide, by decide⟩ hL (c_isNumber (zKg_of C) hL _) rfl rfl (Nat.le_of_ble_eq_true rfl) ⟨(Nat.le_of_ble_eq_true rfl), (Nat.le_of_ble_eq_true rfl)⟩ ?_
    refine z_if C rfl (fun hc16 => ?_) (fun hc16 => ?_)
    · skip
      skip
      refine z_iconst C rfl ?_
      refine z_istore C rfl ?_
      refine z_iloadn C rfl rfl ?_
      refine z_bipush C rfl ?_
      refine z_icmp C rfl (fun hc17 => ?_) (fun hc17 => ?_)
      · skip
        skip
        refine z_iconst C rfl ?_
        refine z_istore C rfl ?_
        refine z_iloadn C rfl rfl ?_
        refine z_bipush C rfl ?_
        refine z_icmp C rfl (fun hc18 => ?_) (fun hc18 => ?_)
        · skip
          skip
          refine z_iloadn C rfl rfl ?_
          refine z_bipush C rfl ?_
          refine z_icmp C rfl (fun hc19 => ?_) (fun hc19 => ?_)
          · skip
            skip
            refine z_iloadn C rfl rfl ?_
            refine z_aload C rfl rfl ?_
            refine z_aloadn C rfl rfl ?_
            refine z_callsq C rfl ⟨by decide, by decide, by decide⟩ (q_apply (zKg_of C) hL hU _ hw R.2.1) rfl rfl (Nat.le_of_ble_eq_true rfl) ⟨Nat.le_of_ble_eq_true rfl, Nat.le_of_ble_eq_true rfl⟩ fun v20 g20 q20 => ?_
            obtain ⟨⟨x, rfl, hx⟩, hq⟩ := q20
            refine z_istore C rfl ?_
            first | (refine z_ll [(6, zi (Int32.ofInt (Int.ofNat 0))), (0, zr (some 1))] ⟨rfl, rfl, trivial⟩ (k124 _ _ (zV_num hw R.2.1 hL) (by decide))) | (refine z_ll [(6, zi x), (0, zr (some 1))] ⟨rfl, rfl, trivial⟩ (k124 _ _ ?_ hx); exact zV_apply hw R.2.1 hL gL (by first | exact zbq2 hc1 | exact zbq2 hc16 | exact zbq2 hc17 | exact zbq2 hc18 | exact zbq2 hc19 | fail) hq) | exact absurd hc1 hc16 | exact absurd hc1 hc17 | exact absurd hc1 hc18 | exact absurd hc1 hc19 | exact absurd hc16 hc17 | exact absurd hc16 hc18 | exact absurd hc16 hc19 | exact absurd hc17 hc18 | exact absurd hc17 hc19 | exact absurd hc18 hc19 | exact absurd hc16 hc1 | exact absurd hc17 hc1 | exact absurd hc18 hc1 | exact absurd hc19 hc1 | exact absurd hc17 hc16 | exact absurd hc18 hc16 | exact absurd hc19 hc16 | exact absurd hc18 hc17 | exact absurd hc19 hc17 | exact absurd hc19 hc18 | exact absurd rfl hc1 | exact absurd rfl hc16 | exact absurd rfl hc17 | exact absurd rfl hc18 | exact absurd rfl hc19 | exact absurd (by decide) hc1 | exact absurd (by decide) hc16 | exact absurd (by decide) hc17 | exact absurd (by decide) hc18 | exact absurd (by decide) hc19 | fail
          · skip
            skip
            skip
            refine z_aload C rfl rfl ?_
            refine z_iloadn C rfl rfl ?_
            refine z_aload C rfl rfl ?_
            refine z_aloadn C rfl rfl ?_
            refine z_callv C rfl ⟨by decide, by decide⟩ hL (c_less (zKg_of C) hL hU _) rfl rfl (Nat.le_of_ble_eq_true rfl) ⟨(Nat.le_of_ble_eq_true rfl), (Nat.le_of_ble_eq_true rfl)⟩ ?_
            refine z_if C rfl (fun hc21 => ?_) (fun hc21 => ?_)
            · skip
              skip
              refine z_iconst C rfl ?_
              refine z_callv C rfl ⟨by decide, by decide⟩ hL (c_becomeNumber (zKg_of C) hL _) rfl rfl (Nat.le_of_ble_eq_true rfl) ⟨(Nat.le_of_ble_eq_true rfl), (Nat.le_of_ble_eq_true rfl)⟩ ?_
              refine z_goto C rfl ?_
              first | (refine z_ll [(6, zi (Int32.ofInt (Int.ofNat 0))), (0, zr (some 1))] ⟨rfl, rfl, trivial⟩ (k124 _ _ (zV_num hw R.2.1 hL) (by decide))) | (refine z_ll [(6, zi x), (0, zr (some 1))] ⟨rfl, rfl, trivial⟩ (k124 _ _ ?_ hx); exact zV_apply hw R.2.1 hL gL (by first | exact zbq2 hc1 | exact zbq2 hc16 | exact zbq2 hc17 | exact zbq2 hc18 | exact zbq2 hc19 | exact zbq2 hc21 | fail) hq) | exact absurd hc1 hc16 | exact absurd hc1 hc17 | exact absurd hc1 hc18 | exact absurd hc1 hc19 | exact absurd hc1 hc21 | exact absurd hc16 hc17 | exact absurd hc16 hc18 | exact absurd hc16 hc19 | exact absurd hc16 hc21 | exact absurd hc17 hc18 | exact absurd hc17 hc19 | exact absurd hc17 hc21 | exact absurd hc18 hc19 | exact absurd hc18 hc21 | exact absurd hc19 hc21 | exact absurd hc16 hc1 | exact absurd hc17 hc1 | exact absurd hc18 hc1 | exact absurd hc19 hc1 | exact absurd hc21 hc1 | exact absurd hc17 hc16 | exact absurd hc18 hc16 | exact absurd hc19 hc16 | exact absurd hc21 hc16 | exact absurd hc18 hc17 | exact absurd hc19 hc17 | exact absurd hc21 hc17 | exact absurd hc19 hc18 | exact absurd hc21 hc18 | exact absurd hc21 hc19 | exact absurd rfl hc1 | exact absurd rfl hc16 | exact absurd rfl hc17 | exact absurd rfl hc18 | exact absurd rfl hc19 | exact absurd rfl hc21 | exact absurd (by decide) hc1 | exact absurd (by decide) hc16 | exact absurd (by decide) hc17 | exact absurd (by decide) hc18 | exact absurd (by decide) hc19 | exact absurd (by decide) hc21 | fail
            · skip
              skip
              refine z_iconst C rfl ?_
              refine z_goto C rfl ?_
              refine z_callv C rfl ⟨by decide, by decide⟩ hL (c_becomeNumber (zKg_of C) hL _) rfl rfl (Nat.le_of_ble_eq_true rfl) ⟨(Nat.le_of_ble_eq_true rfl), (Nat.le_of_ble_eq_true rfl)⟩ ?_
              refine z_goto C rfl ?_
              first | (refine z_ll [(6, zi (Int32.ofInt (Int.ofNat 0))), (0, zr (some 1))] ⟨rfl, rfl, trivial⟩ (k124 _ _ (zV_num hw R.2.1 hL) (by decide))) | (refine z_ll [(6, zi x), (0, zr (some 1))] ⟨rfl, rfl, trivial⟩ (k124 _ _ ?_ hx); exact zV_apply hw R.2.1 hL gL (by first | exact zbq2 hc1 | exact zbq2 hc16 | exact zbq2 hc17 | exact zbq2 hc18 | exact zbq2 hc19 | exact zbq2 hc21 | fail) hq) | exact absurd hc1 hc16 | exact absurd hc1 hc17 | exact absurd hc1 hc18 | exact absurd hc1 hc19 | exact absurd hc1 hc21 | exact absurd hc16 hc17 | exact absurd hc16 hc18 | exact absurd hc16 hc19 | exact absurd hc16 hc21 | exact absurd hc17 hc18 | exact absurd hc17 hc19 | exact absurd hc17 hc21 | exact absurd hc18 hc19 | exact absurd hc18 hc21 | exact absurd hc19 hc21 | exact absurd hc16 hc1 | exact absurd hc17 hc1 | exact absurd hc18 hc1 | exact absurd hc19 hc1 | exact absurd hc21 hc1 | exact absurd hc17 hc16 | exact absurd hc18 hc16 | exact absurd hc19 hc16 | exact absurd hc21 hc16 | exact absurd hc18 hc17 | exact absurd hc19 hc17 | exact absurd hc21 hc17 | exact absurd hc19 hc18 | exact absurd hc21 hc18 | exact absurd hc21 hc19 | exact absurd rfl hc1 | exact absurd rfl hc16 | exact absurd rfl hc17 | exact absurd rfl hc18 | exact absurd rfl hc19 | exact absurd rfl hc21 | exact absurd (by decide) hc1 | exact absurd (by decide) hc16 | exact absurd (by decide) hc17 | exact absurd (by decide) hc18 | exact absurd (by decide) hc19 | exact absurd (by decide) hc21 | fail
        · skip
          skip
          refine z_aload C rfl rfl ?_
          refine z_iloadn C rfl rfl ?_
          refine z_aload C rfl rfl ?_
          refine z_aloadn C rfl rfl ?_
          refine z_callvq C rfl ⟨by decide, by decide⟩ (by first | assumption | rfl | decide) (q_same (zKg_of C) hL hU _) rfl rfl (Nat.le_of_ble_eq_true rfl) ⟨Nat.le_of_ble_eq_true rfl, Nat.le_of_ble_eq_true rfl⟩ fun v22 g22 q22 => ?_
          obtain ⟨hg, b, rfl⟩ := q22
          rw [hg]
          refine z_if C rfl (fun hc23 => ?_) (fun hc23 => ?_)
          · skip
            skip
            refine z_iconst C rfl ?_
            refine z_callv C rfl ⟨by decide, by decide⟩ hL (c_becomeNumber (zKg_of C) hL _) rfl rfl (Nat.le_of_ble_eq_true rfl) ⟨(Nat.le_of_ble_eq_true rfl), (Nat.le_of_ble_eq_true rfl)⟩ ?_
            refine z_goto C rfl ?_
            first | (refine z_ll [(6, zi (Int32.ofInt (Int.ofNat 0))), (0, zr (some 1))] ⟨rfl, rfl, trivial⟩ (k124 _ _ (zV_num hw R.2.1 hL) (by decide))) | (refine z_ll [(6, zi x), (0, zr (some 1))] ⟨rfl, rfl, trivial⟩ (k124 _ _ ?_ hx); exact zV_apply hw R.2.1 hL gL (by first | exact zbq2 hc1 | exact zbq2 hc16 | exact zbq2 hc17 | exact zbq2 hc18 | exact zbq2 hc23 | fail) hq) | exact absurd hc1 hc16 | exact absurd hc1 hc17 | exact absurd hc1 hc18 | exact absurd hc1 hc23 | exact absurd hc16 hc17 | exact absurd hc16 hc18 | exact absurd hc16 hc23 | exact absurd hc17 hc18 | exact absurd hc17 hc23 | exact absurd hc18 hc23 | exact absurd hc16 hc1 | exact absurd hc17 hc1 | exact absurd hc18 hc1 | exact absurd hc23 hc1 | exact absurd hc17 hc16 | exact absurd hc18 hc16 | exact absurd hc23 hc16 | exact absurd hc18 hc17 | exact absurd hc23 hc17 | exact absurd hc23 hc18 | exact absurd rfl hc1 | exact absurd rfl hc16 | exact absurd rfl hc17 | exact absurd rfl hc18 | exact absurd rfl hc23 | exact absurd (by decide) hc1 | exact absurd (by decide) hc16 | exact absurd (by decide) hc17 | exact absurd (by decide) hc18 | exact absurd (by decide) hc23 | fail
          · skip
            skip
            refine z_iconst C rfl ?_
            refine z_goto C rfl ?_
            refine z_callv C rfl ⟨by decide, by decide⟩ hL (c_becomeNumber (zKg_of C) hL _) rfl rfl (Nat.le_of_ble_eq_true rfl) ⟨(Nat.le_of_ble_eq_true rfl), (Nat.le_of_ble_eq_true rfl)⟩ ?_
            refine z_goto C rfl ?_
            first | (refine z_ll [(6, zi (Int32.ofInt (Int.ofNat 0))), (0, zr (some 1))] ⟨rfl, rfl, trivial⟩ (k124 _ _ (zV_num hw R.2.1 hL) (by decide))) | (refine z_ll [(6, zi x), (0, zr (some 1))] ⟨rfl, rfl, trivial⟩ (k124 _ _ ?_ hx); exact zV_apply hw R.2.1 hL gL (by first | exact zbq2 hc1 | exact zbq2 hc16 | exact zbq2 hc17 | exact zbq2 hc18 | exact zbq2 hc23 | fail) hq) | exact absurd hc1 hc16 | exact absurd hc1 hc17 | exact absurd hc1 hc18 | exact absurd hc1 hc23 | exact absurd hc16 hc17 | exact absurd hc16 hc18 | exact absurd hc16 hc23 | exact absurd hc17 hc18 | exact absurd hc17 hc23 | exact absurd hc18 hc23 | exact absurd hc16 hc1 | exact absurd hc17 hc1 | exact absurd hc18 hc1 | exact absurd hc23 hc1 | exact absurd hc17 hc16 | exact absurd hc18 hc16 | exact absurd hc23 hc16 | exact absurd hc18 hc17 | exact absurd hc23 hc17 | exact absurd hc23 hc18 | exact absurd rfl hc1 | exact absurd rfl hc16 | exact absurd rfl hc17 | exact absurd rfl hc18 | exact absurd rfl hc23 | exact absurd (by decide) hc1 | exact absurd (by decide) hc16 | exact absurd (by decide) hc17 | exact absurd (by decide) hc18 | exact absurd (by decide) hc23 | fail
      · skip
        skip
        refine z_iload C rfl rfl ?_
        refine z_if C rfl (fun hc24 => ?_) (fun hc24 => ?_)
        · skip
          skip
          refine z_iconst C rfl ?_
          refine z_istore C rfl ?_
          refine z_iloadn C rfl rfl ?_
          refine z_bipush C rfl ?_
          refine z_icmp C rfl (fun hc25 => ?_) (fun hc25 => ?_)
          · skip
            skip
            refine z_iloadn C rfl rfl ?_
            refine z_bipush C rfl ?_
            refine z_icmp C rfl (fun hc26 => ?_) (fun hc26 => ?_)
            · skip
              skip
              refine z_iloadn C rfl rfl ?_
              refine z_aload C rfl rfl ?_
              refine z_aloadn C rfl rfl ?_
              refine z_callsq C rfl ⟨by decide, by decide, by decide⟩ (q_apply (zKg_of C) hL hU _ hw R.2.1) rfl rfl (Nat.le_of_ble_eq_true rfl) ⟨Nat.le_of_ble_eq_true rfl, Nat.le_of_ble_eq_true rfl⟩ fun v27 g27 q27 => ?_
              obtain ⟨⟨x, rfl, hx⟩, hq⟩ := q27
              refine z_istore C rfl ?_
              first | (refine z_ll [(6, zi (Int32.ofInt (Int.ofNat 0))), (0, zr (some 1))] ⟨rfl, rfl, trivial⟩ (k124 _ _ (zV_num hw R.2.1 hL) (by decide))) | (refine z_ll [(6, zi x), (0, zr (some 1))] ⟨rfl, rfl, trivial⟩ (k124 _ _ ?_ hx); exact zV_apply hw R.2.1 hL gL (by first | exact zbq2 hc1 | exact zbq2 hc16 | exact zbq2 hc17 | exact zbq2 hc24 | exact zbq2 hc25 | exact zbq2 hc26 | fail) hq) | exact absurd hc1 hc16 | exact absurd hc1 hc17 | exact absurd hc1 hc24 | exact absurd hc1 hc25 | exact absurd hc1 hc26 | exact absurd hc16 hc17 | exact absurd hc16 hc24 | exact absurd hc16 hc25 | exact absurd hc16 hc26 | exact absurd hc17 hc24 | exact absurd hc17 hc25 | exact absurd hc17 hc26 | exact absurd hc24 hc25 | exact absurd hc24 hc26 | exact absurd hc25 hc26 | exact absurd hc16 hc1 | exact absurd hc17 hc1 | exact absurd hc24 hc1 | exact absurd hc25 hc1 | exact absurd hc26 hc1 | exact absurd hc17 hc16 | exact absurd hc24 hc16 | exact absurd hc25 hc16 | exact absurd hc26 hc16 | exact absurd hc24 hc17 | exact absurd hc25 hc17 | exact absurd hc26 hc17 | exact absurd hc25 hc24 | exact absurd hc26 hc24 | exact absurd hc26 hc25 | exact absurd rfl hc1 | exact absurd rfl hc16 | exact absurd rfl hc17 | exact absurd rfl hc24 | exact absurd rfl hc25 | exact absurd rfl hc26 | exact absurd (by decide) hc1 | exact absurd (by decide) hc16 | exact absurd (by decide) hc17 | exact absurd (by decide) hc24 | exact absurd (by decide) hc25 | exact absurd (by decide) hc26 | fail
            · skip
              skip
              skip
              refine z_aload C rfl rfl ?_
              refine z_iloadn C rfl rfl ?_
              refine z_aload C rfl rfl ?_
              refine z_aloadn C rfl rfl ?_
              refine z_callv C rfl ⟨by decide, by decide⟩ hL (c_less (zKg_of C) hL hU _) rfl rfl (Nat.le_of_ble_eq_true rfl) ⟨(Nat.le_of_ble_eq_true rfl), (Nat.le_of_ble_eq_true rfl)⟩ ?_
              refine z_if C rfl (fun hc28 => ?_) (fun hc28 => ?_)
              · skip
                skip
                refine z_iconst C rfl ?_
                refine z_callv C rfl ⟨by decide, by decide⟩ hL (c_becomeNumber (zKg_of C) hL _) rfl rfl (Nat.le_of_ble_eq_true rfl) ⟨(Nat.le_of_ble_eq_true rfl), (Nat.le_of_ble_eq_true rfl)⟩ ?_
                refine z_goto C rfl ?_
                first | (refine z_ll [(6, zi (Int32.ofInt (Int.ofNat 0))), (0, zr (some 1))] ⟨rfl, rfl, trivial⟩ (k124 _ _ (zV_num hw R.2.1 hL) (by decide))) | (refine z_ll [(6, zi x), (0, zr (some 1))] ⟨rfl, rfl, trivial⟩ (k124 _ _ ?_ hx); exact zV_apply hw R.2.1 hL gL (by first | exact zbq2 hc1 | exact zbq2 hc16 | exact zbq2 hc17 | exact zbq2 hc24 | exact zbq2 hc25 | exact zbq2 hc26 | exact zbq2 hc28 | fail) hq) | exact absurd hc1 hc16 | exact absurd hc1 hc17 | exact absurd hc1 hc24 | exact absurd hc1 hc25 | exact absurd hc1 hc26 | exact absurd hc1 hc28 | exact absurd hc16 hc17 | exact absurd hc16 hc24 | exact absurd hc16 hc25 | exact absurd hc16 hc26 | exact absurd hc16 hc28 | exact absurd hc17 hc24 | exact absurd hc17 hc25 | exact absurd hc17 hc26 | exact absurd hc17 hc28 | exact absurd hc24 hc25 | exact absurd hc24 hc26 | exact absurd hc24 hc28 | exact absurd hc25 hc26 | exact absurd hc25 hc28 | exact absurd hc26 hc28 | exact absurd hc16 hc1 | exact absurd hc17 hc1 | exact absurd hc24 hc1 | exact absurd hc25 hc1 | exact absurd hc26 hc1 | exact absurd hc28 hc1 | exact absurd hc17 hc16 | exact absurd hc24 hc16 | exact absurd hc25 hc16 | exact absurd hc26 hc16 | exact absurd hc28 hc16 | exact absurd hc24 hc17 | exact absurd hc25 hc17 | exact absurd hc26 hc17 | exact absurd hc28 hc17 | exact absurd hc25 hc24 | exact absurd hc26 hc24 | exact absurd hc28 hc24 | exact absurd hc26 hc25 | exact absurd hc28 hc25 | exact absurd hc28 hc26 | exact absurd rfl hc1 | exact absurd rfl hc16 | exact absurd rfl hc17 | exact absurd rfl hc24 | exact absurd rfl hc25 | exact absurd rfl hc26 | exact absurd rfl hc28 | exact absurd (by decide) hc1 | exact absurd (by decide) hc16 | exact absurd (by decide) hc17 | exact absurd (by decide) hc24 | exact absurd (by decide) hc25 | exact absurd (by decide) hc26 | exact absurd (by decide) hc28 | fail
              · skip
                skip
                refine z_iconst C rfl ?_
                refine z_goto C rfl ?_
                refine z_callv C rfl ⟨by decide, by decide⟩ hL (c_becomeNumber (zKg_of C) hL _) rfl rfl (Nat.le_of_ble_eq_true rfl) ⟨(Nat.le_of_ble_eq_true rfl), (Nat.le_of_ble_eq_true rfl)⟩ ?_
                refine z_goto C rfl ?_
                first | (refine z_ll [(6, zi (Int32.ofInt (Int.ofNat 0))), (0, zr (some 1))] ⟨rfl, rfl, trivial⟩ (k124 _ _ (zV_num hw R.2.1 hL) (by decide))) | (refine z_ll [(6, zi x), (0, zr (some 1))] ⟨rfl, rfl, trivial⟩ (k124 _ _ ?_ hx); exact zV_apply hw R.2.1 hL gL (by first | exact zbq2 hc1 | exact zbq2 hc16 | exact zbq2 hc17 | exact zbq2 hc24 | exact zbq2 hc25 | exact zbq2 hc26 | exact zbq2 hc28 | fail) hq) | exact absurd hc1 hc16 | exact absurd hc1 hc17 | exact absurd hc1 hc24 | exact absurd hc1 hc25 | exact absurd hc1 hc26 | exact absurd hc1 hc28 | exact absurd hc16 hc17 | exact absurd hc16 hc24 | exact absurd hc16 hc25 | exact absurd hc16 hc26 | exact absurd hc16 hc28 | exact absurd hc17 hc24 | exact absurd hc17 hc25 | exact absurd hc17 hc26 | exact absurd hc17 hc28 | exact absurd hc24 hc25 | exact absurd hc24 hc26 | exact absurd hc24 hc28 | exact absurd hc25 hc26 | exact absurd hc25 hc28 | exact absurd hc26 hc28 | exact absurd hc16 hc1 | exact absurd hc17 hc1 | exact absurd hc24 hc1 | exact absurd hc25 hc1 | exact absurd hc26 hc1 | exact absurd hc28 hc1 | exact absurd hc17 hc16 | exact absurd hc24 hc16 | exact absurd hc25 hc16 | exact absurd hc26 hc16 | exact absurd hc28 hc16 | exact absurd hc24 hc17 | exact absurd hc25 hc17 | exact absurd hc26 hc17 | exact absurd hc28 hc17 | exact absurd hc25 hc24 | exact absurd hc26 hc24 | exact absurd hc28 hc24 | exact absurd hc26 hc25 | exact absurd hc28 hc25 | exact absurd hc28 hc26 | exact absurd rfl hc1 | exact absurd rfl hc16 | exact absurd rfl hc17 | exact absurd rfl hc24 | exact absurd rfl hc25 | exact absurd rfl hc26 | exact absurd rfl hc28 | exact absurd (by decide) hc1 | exact absurd (by decide) hc16 | exact absurd (by decide) hc17 | exact absurd (by decide) hc24 | exact absurd (by decide) hc25 | exact absurd (by decide) hc26 | exact absurd (by decide) hc28 | fail
          · skip
            skip
            refine z_aload C rfl rfl ?_
            refine z_iloadn C rfl rfl ?_
            refine z_aload C rfl rfl ?_
            refine z_aloadn C rfl rfl ?_
            refine z_callvq C rfl ⟨by decide, by decide⟩ (by first | assumption | rfl | decide) (q_same (zKg_of C) hL hU _) rfl rfl (Nat.le_of_ble_eq_true rfl) ⟨Nat.le_of_ble_eq_true rfl, Nat.le_of_ble_eq_true rfl⟩ fun v29 g29 q29 => ?_
            obtain ⟨hg, b, rfl⟩ := q29
            rw [hg]
            refine z_if C rfl (fun hc30 => ?_) (fun hc30 => ?_)
            · skip
              skip
              refine z_iconst C rfl ?_
              refine z_callv C rfl ⟨by decide, by decide⟩ hL (c_becomeNumber (zKg_of C) hL _) rfl rfl (Nat.le_of_ble_eq_true rfl) ⟨(Nat.le_of_ble_eq_true rfl), (Nat.le_of_ble_eq_true rfl)⟩ ?_
              refine z_goto C rfl ?_
              first | (refine z_ll [(6, zi (Int32.ofInt (Int.ofNat 0))), (0, zr (some 1))] ⟨rfl, rfl, trivial⟩ (k124 _ _ (zV_num hw R.2.1 hL) (by decide))) | (refine z_ll [(6, zi x), (0, zr (some 1))] ⟨rfl, rfl, trivial⟩ (k124 _ _ ?_ hx); exact zV_apply hw R.2.1 hL gL (by first | exact zbq2 hc1 | exact zbq2 hc16 | exact zbq2 hc17 | exact zbq2 hc24 | exact zbq2 hc25 | exact zbq2 hc30 | fail) hq) | exact absurd hc1 hc16 | exact absurd hc1 hc17 | exact absurd hc1 hc24 | exact absurd hc1 hc25 | exact absurd hc1 hc30 | exact absurd hc16 hc17 | exact absurd hc16 hc24 | exact absurd hc16 hc25 | exact absurd hc16 hc30 | exact absurd hc17 hc24 | exact absurd hc17 hc25 | exact absurd hc17 hc30 | exact absurd hc24 hc25 | exact absurd hc24 hc30 | exact absurd hc25 hc30 | exact absurd hc16 hc1 | exact absurd hc17 hc1 | exact absurd hc24 hc1 | exact absurd hc25 hc1 | exact absurd hc30 hc1 | exact absurd hc17 hc16 | exact absurd hc24 hc16 | exact absurd hc25 hc16 | exact absurd hc30 hc16 | exact absurd hc24 hc17 | exact absurd hc25 hc17 | exact absurd hc30 hc17 | exact absurd hc25 hc24 | exact absurd hc30 hc24 | exact absurd hc30 hc25 | exact absurd rfl hc1 | exact absurd rfl hc16 | exact absurd rfl hc17 | exact absurd rfl hc24 | exact absurd rfl hc25 | exact absurd rfl hc30 | exact absurd (by decide) hc1 | exact absurd (by decide) hc16 | exact absurd (by decide) hc17 | exact absurd (by decide) hc24 | exact absurd (by decide) hc25 | exact absurd (by decide) hc30 | fail
            · skip
              skip
              refine z_iconst C rfl ?_
              refine z_goto C rfl ?_
              refine z_callv C rfl ⟨by decide, by decide⟩ hL (c_becomeNumber (zKg_of C) hL _) rfl rfl (Nat.le_of_ble_eq_true rfl) ⟨(Nat.le_of_ble_eq_true rfl), (Nat.le_of_ble_eq_true rfl)⟩ ?_
              refine z_goto C rfl ?_
              first | (refine z_ll [(6, zi (Int32.ofInt (Int.ofNat 0))), (0, zr (some 1))] ⟨rfl, rfl, trivial⟩ (k124 _ _ (zV_num hw R.2.1 hL) (by decide))) | (refine z_ll [(6, zi x), (0, zr (some 1))] ⟨rfl, rfl, trivial⟩ (k124 _ _ ?_ hx); exact zV_apply hw R.2.1 hL gL (by first | exact zbq2 hc1 | exact zbq2 hc16 | exact zbq2 hc17 | exact zbq2 hc24 | exact zbq2 hc25 | exact zbq2 hc30 | fail) hq) | exact absurd hc1 hc16 | exact absurd hc1 hc17 | exact absurd hc1 hc24 | exact absurd hc1 hc25 | exact absurd hc1 hc30 | exact absurd hc16 hc17 | exact absurd hc16 hc24 | exact absurd hc16 hc25 | exact absurd hc16 hc30 | exact absurd hc17 hc24 | exact absurd hc17 hc25 | exact absurd hc17 hc30 | exact absurd hc24 hc25 | exact absurd hc24 hc30 | exact absurd hc25 hc30 | exact absurd hc16 hc1 | exact absurd hc17 hc1 | exact absurd hc24 hc1 | exact absurd hc25 hc1 | exact absurd hc30 hc1 | exact absurd hc17 hc16 | exact absurd hc24 hc16 | exact absurd hc25 hc16 | exact absurd hc30 hc16 | exact absurd hc24 hc17 | exact absurd hc25 hc17 | exact absurd hc30 hc17 | exact absurd hc25 hc24 | exact absurd hc30 hc24 | exact absurd hc30 hc25 | exact absurd rfl hc1 | exact absurd rfl hc16 | exact absurd rfl hc17 | exact absurd rfl hc24 | exact absurd rfl hc25 | exact absurd rfl hc30 | exact absurd (by decide) hc1 | exact absurd (by decide) hc16 | exact absurd (by decide) hc17 | exact absurd (by decide) hc24 | exact absurd (by decide) hc25 | exact absurd (by decide) hc30 | fail
        · skip
          skip
          refine z_iconst C rfl ?_
          exact z_ireturnq C rfl he ⟨Nat.le_refl _, Nat.le_refl _⟩ rfl ⟨T, s, _, R, zSt_refl, zGk_refl, rfl, fun e => absurd e (by decide)⟩
    · skip
      skip
      refine z_iconst C rfl ?_
      refine z_goto C rfl ?_
      refine z_istore C rfl ?_
      refine z_iloadn C rfl rfl ?_
      refine z_bipush C rfl ?_
      refine z_icmp C rfl (fun hc31 => ?_) (fun hc31 => ?_)
      · skip
        skip
        refine z_iconst C rfl ?_
        refine z_istore C rfl ?_
        refine z_iloadn C rfl rfl ?_
        refine z_bipush C rfl ?_
        refine z_icmp C rfl (fun hc32 => ?_) (fun hc32 => ?_)
        · skip
          skip
          refine z_iloadn C rfl rfl ?_
          refine z_bipush C rfl ?_
          refine z_icmp C rfl (fun hc33 => ?_) (fun hc33 => ?_)
          · skip
            skip
            refine z_iloadn C rfl rfl ?_
            refine z_aload C rfl rfl ?_
            refine z_aloadn C rfl rfl ?_
            refine z_callsq C rfl ⟨by decide, by decide, by decide⟩ (q_apply (zKg_of C) hL hU _ hw R.2.1) rfl rfl (Nat.le_of_ble_eq_true rfl) ⟨Nat.le_of_ble_eq_true rfl, Nat.le_of_ble_eq_true rfl⟩ fun v34 g34 q34 => ?_
            obtain ⟨⟨x, rfl, hx⟩, hq⟩ := q34
            refine z_istore C rfl ?_
            first | (refine z_ll [(6, zi (Int32.ofInt (Int.ofNat 0))), (0, zr (some 1))] ⟨rfl, rfl, trivial⟩ (k124 _ _ (zV_num hw R.2.1 hL) (by decide))) | (refine z_ll [(6, zi x), (0, zr (some 1))] ⟨rfl, rfl, trivial⟩ (k124 _ _ ?_ hx); exact zV_apply hw R.2.1 hL gL (by first | exact zbq2 hc1 | exact zbq2 hc16 | exact zbq2 hc31 | exact zbq2 hc32 | exact zbq2 hc33 | fail) hq) | exact absurd hc1 hc16 | exact absurd hc1 hc31 | exact absurd hc1 hc32 | exact absurd hc1 hc33 | exact absurd hc16 hc31 | exact absurd hc16 hc32 | exact absurd hc16 hc33 | exact absurd hc31 hc32 | exact absurd hc31 hc33 | exact absurd hc32 hc33 | exact absurd hc16 hc1 | exact absurd hc31 hc1 | exact absurd hc32 hc1 | exact absurd hc33 hc1 | exact absurd hc31 hc16 | exact absurd hc32 hc16 | exact absurd hc33 hc16 | exact absurd hc32 hc31 | exact absurd hc33 hc31 | exact absurd hc33 hc32 | exact absurd rfl hc1 | exact absurd rfl hc16 | exact absurd rfl hc31 | exact absurd rfl hc32 | exact absurd rfl hc33 | exact absurd (by decide) hc1 | exact absurd (by decide) hc16 | exact absurd (by decide) hc31 | exact absurd (by decide) hc32 | exact absurd (by decide) hc33 | fail
          · skip
            skip
            skip
            refine z_aload C rfl rfl ?_
            refine z_iloadn C rfl rfl ?_
            refine z_aload C rfl rfl ?_
            refine z_aloadn C rfl rfl ?_
            refine z_callv C rfl ⟨by decide, by decide⟩ hL (c_less (zKg_of C) hL hU _) rfl rfl (Nat.le_of_ble_eq_true rfl) ⟨(Nat.le_of_ble_eq_true rfl), (Nat.le_of_ble_eq_true rfl)⟩ ?_
            refine z_if C rfl (fun hc35 => ?_) (fun hc35 => ?_)
            · skip
              skip
              refine z_iconst C rfl ?_
              refine z_callv C rfl ⟨by decide, by decide⟩ hL (c_becomeNumber (zKg_of C) hL _) rfl rfl (Nat.le_of_ble_eq_true rfl) ⟨(Nat.le_of_ble_eq_true rfl), (Nat.le_of_ble_eq_true rfl)⟩ ?_
              refine z_goto C rfl ?_
              first | (refine z_ll [(6, zi (Int32.ofInt (Int.ofNat 0))), (0, zr (some 1))] ⟨rfl, rfl, trivial⟩ (k124 _ _ (zV_num hw R.2.1 hL) (by decide))) | (refine z_ll [(6, zi x), (0, zr (some 1))] ⟨rfl, rfl, trivial⟩ (k124 _ _ ?_ hx); exact zV_apply hw R.2.1 hL gL (by first | exact zbq2 hc1 | exact zbq2 hc16 | exact zbq2 hc31 | exact zbq2 hc32 | exact zbq2 hc33 | exact zbq2 hc35 | fail) hq) | exact absurd hc1 hc16 | exact absurd hc1 hc31 | exact absurd hc1 hc32 | exact absurd hc1 hc33 | exact absurd hc1 hc35 | exact absurd hc16 hc31 | exact absurd hc16 hc32 | exact absurd hc16 hc33 | exact absurd hc16 hc35 | exact absurd hc31 hc32 | exact absurd hc31 hc33 | exact absurd hc31 hc35 | exact absurd hc32 hc33 | exact absurd hc32 hc35 | exact absurd hc33 hc35 | exact absurd hc16 hc1 | exact absurd hc31 hc1 | exact absurd hc32 hc1 | exact absurd hc33 hc1 | exact absurd hc35 hc1 | exact absurd hc31 hc16 | exact absurd hc32 hc16 | exact absurd hc33 hc16 | exact absurd hc35 hc16 | exact absurd hc32 hc31 | exact absurd hc33 hc31 | exact absurd hc35 hc31 | exact absurd hc33 hc32 | exact absurd hc35 hc32 | exact absurd hc35 hc33 | exact absurd rfl hc1 | exact absurd rfl hc16 | exact absurd rfl hc31 | exact absurd rfl hc32 | exact absurd rfl hc33 | exact absurd rfl hc35 | exact absurd (by decide) hc1 | exact absurd (by decide) hc16 | exact absurd (by decide) hc31 | exact absurd (by decide) hc32 | exact absurd (by decide) hc33 | exact absurd (by decide) hc35 | fail
            · skip
              skip
              refine z_iconst C rfl ?_
              refine z_goto C rfl ?_
              refine z_callv C rfl ⟨by decide, by decide⟩ hL (c_becomeNumber (zKg_of C) hL _) rfl rfl (Nat.le_of_ble_eq_true rfl) ⟨(Nat.le_of_ble_eq_true rfl), (Nat.le_of_ble_eq_true rfl)⟩ ?_
              refine z_goto C rfl ?_
              first | (refine z_ll [(6, zi (Int32.ofInt (Int.ofNat 0))), (0, zr (some 1))] ⟨rfl, rfl, trivial⟩ (k124 _ _ (zV_num hw R.2.1 hL) (by decide))) | (refine z_ll [(6, zi x), (0, zr (some 1))] ⟨rfl, rfl, trivial⟩ (k124 _ _ ?_ hx); exact zV_apply hw R.2.1 hL gL (by first | exact zbq2 hc1 | exact zbq2 hc16 | exact zbq2 hc31 | exact zbq2 hc32 | exact zbq2 hc33 | exact zbq2 hc35 | fail) hq) | exact absurd hc1 hc16 | exact absurd hc1 hc31 | exact absurd hc1 hc32 | exact absurd hc1 hc33 | exact absurd hc1 hc35 | exact absurd hc16 hc31 | exact absurd hc16 hc32 | exact absurd hc16 hc33 | exact absurd hc16 hc35 | exact absurd hc31 hc32 | exact absurd hc31 hc33 | exact absurd hc31 hc35 | exact absurd hc32 hc33 | exact absurd hc32 hc35 | exact absurd hc33 hc35 | exact absurd hc16 hc1 | exact absurd hc31 hc1 | exact absurd hc32 hc1 | exact absurd hc33 hc1 | exact absurd hc35 hc1 | exact absurd hc31 hc16 | exact absurd hc32 hc16 | exact absurd hc33 hc16 | exact absurd hc35 hc16 | exact absurd hc32 hc31 | exact absurd hc33 hc31 | exact absurd hc35 hc31 | exact absurd hc33 hc32 | exact absurd hc35 hc32 | exact absurd hc35 hc33 | exact absurd rfl hc1 | exact absurd rfl hc16 | exact absurd rfl hc31 | exact absurd rfl hc32 | exact absurd rfl hc33 | exact absurd rfl hc35 | exact absurd (by decide) hc1 | exact absurd (by decide) hc16 | exact absurd (by decide) hc31 | exact absurd (by decide) hc32 | exact absurd (by decide) hc33 | exact absurd (by decide) hc35 | fail
        · skip
          skip
          refine z_aload C rfl rfl ?_
          refine z_iloadn C rfl rfl ?_
          refine z_aload C rfl rfl ?_
          refine z_aloadn C rfl rfl ?_
          refine z_callvq C rfl ⟨by decide, by decide⟩ (by first | assumption | rfl | decide) (q_same (zKg_of C) hL hU _) rfl rfl (Nat.le_of_ble_eq_true rfl) ⟨Nat.le_of_ble_eq_true rfl, Nat.le_of_ble_eq_true rfl⟩ fun v36 g36 q36 => ?_
          obtain ⟨hg, b, rfl⟩ := q36
          rw [hg]
          refine z_if C rfl (fun hc37 => ?_) (fun hc37 => ?_)
          · skip
            skip
            refine z_iconst C rfl ?_
            refine z_callv C rfl ⟨by decide, by decide⟩ hL (c_becomeNumber (zKg_of C) hL _) rfl rfl (Nat.le_of_ble_eq_true rfl) ⟨(Nat.le_of_ble_eq_true rfl), (Nat.le_of_ble_eq_true rfl)⟩ ?_
            refine z_goto C rfl ?_
            first | (refine z_ll [(6, zi (Int32.ofInt (Int.ofNat 0))), (0, zr (some 1))] ⟨rfl, rfl, trivial⟩ (k124 _ _ (zV_num hw R.2.1 hL) (by decide))) | (refine z_ll [(6, zi x), (0, zr (some 1))] ⟨rfl, rfl, trivial⟩ (k124 _ _ ?_ hx); exact zV_apply hw R.2.1 hL gL (by first | exact zbq2 hc1 | exact zbq2 hc16 | exact zbq2 hc31 | exact zbq2 hc32 | exact zbq2 hc37 | fail) hq) | exact absurd hc1 hc16 | exact absurd hc1 hc31 | exact absurd hc1 hc32 | exact absurd hc1 hc37 | exact absurd hc16 hc31 | exact absurd hc16 hc32 | exact absurd hc16 hc37 | exact absurd hc31 hc32 | exact absurd hc31 hc37 | exact absurd hc32 hc37 | exact absurd hc16 hc1 | exact absurd hc31 hc1 | exact absurd hc32 hc1 | exact absurd hc37 hc1 | exact absurd hc31 hc16 | exact absurd hc32 hc16 | exact absurd hc37 hc16 | exact absurd hc32 hc31 | exact absurd hc37 hc31 | exact absurd hc37 hc32 | exact absurd rfl hc1 | exact absurd rfl hc16 | exact absurd rfl hc31 | exact absurd rfl hc32 | exact absurd rfl hc37 | exact absurd (by decide) hc1 | exact absurd (by decide) hc16 | exact absurd (by decide) hc31 | exact absurd (by decide) hc32 | exact absurd (by decide) hc37 | fail
          · skip
            skip
            refine z_iconst C rfl ?_
            refine z_goto C rfl ?_
            refine z_callv C rfl ⟨by decide, by decide⟩ hL (c_becomeNumber (zKg_of C) hL _) rfl rfl (Nat.le_of_ble_eq_true rfl) ⟨(Nat.le_of_ble_eq_true rfl), (Nat.le_of_ble_eq_true rfl)⟩ ?_
            refine z_goto C rfl ?_
            first | (refine z_ll [(6, zi (Int32.ofInt (Int.ofNat 0))), (0, zr (some 1))] ⟨rfl, rfl, trivial⟩ (k124 _ _ (zV_num hw R.2.1 hL) (by decide))) | (refine z_ll [(6, zi x), (0, zr (some 1))] ⟨rfl, rfl, trivial⟩ (k124 _ _ ?_ hx); exact zV_apply hw R.2.1 hL gL (by first | exact zbq2 hc1 | exact zbq2 hc16 | exact zbq2 hc31 | exact zbq2 hc32 | exact zbq2 hc37 | fail) hq) | exact absurd hc1 hc16 | exact absurd hc1 hc31 | exact absurd hc1 hc32 | exact absurd hc1 hc37 | exact absurd hc16 hc31 | exact absurd hc16 hc32 | exact absurd hc16 hc37 | exact absurd hc31 hc32 | exact absurd hc31 hc37 | exact absurd hc32 hc37 | exact absurd hc16 hc1 | exact absurd hc31 hc1 | exact absurd hc32 hc1 | exact absurd hc37 hc1 | exact absurd hc31 hc16 | exact absurd hc32 hc16 | exact absurd hc37 hc16 | exact absurd hc32 hc31 | exact absurd hc37 hc31 | exact absurd hc37 hc32 | exact absurd rfl hc1 | exact absurd rfl hc16 | exact absurd rfl hc31 | exact absurd rfl hc32 | exact absurd rfl hc37 | exact absurd (by decide) hc1 | exact absurd (by decide) hc16 | exact absurd (by decide) hc31 | exact absurd (by decide) hc32 | exact absurd (by decide) hc37 | fail
      · skip
        skip
        refine z_iload C rfl rfl ?_
        refine z_if C rfl (fun hc38 => ?_) (fun hc38 => ?_)
        · skip
          skip
          refine z_iconst C rfl ?_
          refine z_istore C rfl ?_
          refine z_iloadn C rfl rfl ?_
          refine z_bipush C rfl ?_
          refine z_icmp C rfl (fun hc39 => ?_) (fun hc39 => ?_)
          · skip
            skip
            refine z_iloadn C rfl rfl ?_
            refine z_bipush C rfl ?_
            refine z_icmp C rfl (fun hc40 => ?_) (fun hc40 => ?_)
            · skip
              skip
              refine z_iloadn C rfl rfl ?_
              refine z_aload C rfl rfl ?_
              refine z_aloadn C rfl rfl ?_
              refine z_callsq C rfl ⟨by decide, by decide, by decide⟩ (q_apply (zKg_of C) hL hU _ hw R.2.1) rfl rfl (Nat.le_of_ble_eq_true rfl) ⟨Nat.le_of_ble_eq_true rfl, Nat.le_of_ble_eq_true rfl⟩ fun v41 g41 q41 => ?_
              obtain ⟨⟨x, rfl, hx⟩, hq⟩ := q41
              refine z_istore C rfl ?_
              first | (refine z_ll [(6, zi (Int32.ofInt (Int.ofNat 0))), (0, zr (some 1))] ⟨rfl, rfl, trivial⟩ (k124 _ _ (zV_num hw R.2.1 hL) (by decide))) | (refine z_ll [(6, zi x), (0, zr (some 1))] ⟨rfl, rfl, trivial⟩ (k124 _ _ ?_ hx); exact zV_apply hw R.2.1 hL gL (by first | exact zbq2 hc1 | exact zbq2 hc16 | exact zbq2 hc31 | exact zbq2 hc38 | exact zbq2 hc39 | exact zbq2 hc40 | fail) hq) | exact absurd hc1 hc16 | exact absurd hc1 hc31 | exact absurd hc1 hc38 | exact absurd hc1 hc39 | exact absurd hc1 hc40 | exact absurd hc16 hc31 | exact absurd hc16 hc38 | exact absurd hc16 hc39 | exact absurd hc16 hc40 | exact absurd hc31 hc38 | exact absurd hc31 hc39 | exact absurd hc31 hc40 | exact absurd hc38 hc39 | exact absurd hc38 hc40 | exact absurd hc39 hc40 | exact absurd hc16 hc1 | exact absurd hc31 hc1 | exact absurd hc38 hc1 | exact absurd hc39 hc1 | exact absurd hc40 hc1 | exact absurd hc31 hc16 | exact absurd hc38 hc16 | exact absurd hc39 hc16 | exact absurd hc40 hc16 | exact absurd hc38 hc31 | exact absurd hc39 hc31 | exact absurd hc40 hc31 | exact absurd hc39 hc38 | exact absurd hc40 hc38 | exact absurd hc40 hc39 | exact absurd rfl hc1 | exact absurd rfl hc16 | exact absurd rfl hc31 | exact absurd rfl hc38 | exact absurd rfl hc39 | exact absurd rfl hc40 | exact absurd (by decide) hc1 | exact absurd (by decide) hc16 | exact absurd (by decide) hc31 | exact absurd (by decide) hc38 | exact absurd (by decide) hc39 | exact absurd (by decide) hc40 | fail
            · skip
              skip
              skip
              refine z_aload C rfl rfl ?_
              refine z_iloadn C rfl rfl ?_
              refine z_aload C rfl rfl ?_
              refine z_aloadn C rfl rfl ?_
              refine z_callv C rfl ⟨by decide, by decide⟩ hL (c_less (zKg_of C) hL hU _) rfl rfl (Nat.le_of_ble_eq_true rfl) ⟨(Nat.le_of_ble_eq_true rfl), (Nat.le_of_ble_eq_true rfl)⟩ ?_
              refine z_if C rfl (fun hc42 => ?_) (fun hc42 => ?_)
              · skip
                skip
                refine z_iconst C rfl ?_
                refine z_callv C rfl ⟨by decide, by decide⟩ hL (c_becomeNumber (zKg_of C) hL _) rfl rfl (Nat.le_of_ble_eq_true rfl) ⟨(Nat.le_of_ble_eq_true rfl), (Nat.le_of_ble_eq_true rfl)⟩ ?_
                refine z_goto C rfl ?_
                first | (refine z_ll [(6, zi (Int32.ofInt (Int.ofNat 0))), (0, zr (some 1))] ⟨rfl, rfl, trivial⟩ (k124 _ _ (zV_num hw R.2.1 hL) (by decide))) | (refine z_ll [(6, zi x), (0, zr (some 1))] ⟨rfl, rfl, trivial⟩ (k124 _ _ ?_ hx); exact zV_apply hw R.2.1 hL gL (by first | exact zbq2 hc1 | exact zbq2 hc16 | exact zbq2 hc31 | exact zbq2 hc38 | exact zbq2 hc39 | exact zbq2 hc40 | exact zbq2 hc42 | fail) hq) | exact absurd hc1 hc16 | exact absurd hc1 hc31 | exact absurd hc1 hc38 | exact absurd hc1 hc39 | exact absurd hc1 hc40 | exact absurd hc1 hc42 | exact absurd hc16 hc31 | exact absurd hc16 hc38 | exact absurd hc16 hc39 | exact absurd hc16 hc40 | exact absurd hc16 hc42 | exact absurd hc31 hc38 | exact absurd hc31 hc39 | exact absurd hc31 hc40 | exact absurd hc31 hc42 | exact absurd hc38 hc39 | exact absurd hc38 hc40 | exact absurd hc38 hc42 | exact absurd hc39 hc40 | exact absurd hc39 hc42 | exact absurd hc40 hc42 | exact absurd hc16 hc1 | exact absurd hc31 hc1 | exact absurd hc38 hc1 | exact absurd hc39 hc1 | exact absurd hc40 hc1 | exact absurd hc42 hc1 | exact absurd hc31 hc16 | exact absurd hc38 hc16 | exact absurd hc39 hc16 | exact absurd hc40 hc16 | exact absurd hc42 hc16 | exact absurd hc38 hc31 | exact absurd hc39 hc31 | exact absurd hc40 hc31 | exact absurd hc42 hc31 | exact absurd hc39 hc38 | exact absurd hc40 hc38 | exact absurd hc42 hc38 | exact absurd hc40 hc39 | exact absurd hc42 hc39 | exact absurd hc42 hc40 | exact absurd rfl hc1 | exact absurd rfl hc16 | exact absurd rfl hc31 | exact absurd rfl hc38 | exact absurd rfl hc39 | exact absurd rfl hc40 | exact absurd rfl hc42 | exact absurd (by decide) hc1 | exact absurd (by decide) hc16 | exact absurd (by decide) hc31 | exact absurd (by decide) hc38 | exact absurd (by decide) hc39 | exact absurd (by decide) hc40 | exact absurd (by decide) hc42 | fail
              · skip
                skip
                refine z_iconst C rfl ?_
                refine z_goto C rfl ?_
                refine z_callv C rfl ⟨by decide, by decide⟩ hL (c_becomeNumber (zKg_of C) hL _) rfl rfl (Nat.le_of_ble_eq_true rfl) ⟨(Nat.le_of_ble_eq_true rfl), (Nat.le_of_ble_eq_true rfl)⟩ ?_
                refine z_goto C rfl ?_
                first | (refine z_ll [(6, zi (Int32.ofInt (Int.ofNat 0))), (0, zr (some 1))] ⟨rfl, rfl, trivial⟩ (k124 _ _ (zV_num hw R.2.1 hL) (by decide))) | (refine z_ll [(6, zi x), (0, zr (some 1))] ⟨rfl, rfl, trivial⟩ (k124 _ _ ?_ hx); exact zV_apply hw R.2.1 hL gL (by first | exact zbq2 hc1 | exact zbq2 hc16 | exact zbq2 hc31 | exact zbq2 hc38 | exact zbq2 hc39 | exact zbq2 hc40 | exact zbq2 hc42 | fail) hq) | exact absurd hc1 hc16 | exact absurd hc1 hc31 | exact absurd hc1 hc38 | exact absurd hc1 hc39 | exact absurd hc1 hc40 | exact absurd hc1 hc42 | exact absurd hc16 hc31 | exact absurd hc16 hc38 | exact absurd hc16 hc39 | exact absurd hc16 hc40 | exact absurd hc16 hc42 | exact absurd hc31 hc38 | exact absurd hc31 hc39 | exact absurd hc31 hc40 | exact absurd hc31 hc42 | exact absurd hc38 hc39 | exact absurd hc38 hc40 | exact absurd hc38 hc42 | exact absurd hc39 hc40 | exact absurd hc39 hc42 | exact absurd hc40 hc42 | exact absurd hc16 hc1 | exact absurd hc31 hc1 | exact absurd hc38 hc1 | exact absurd hc39 hc1 | exact absurd hc40 hc1 | exact absurd hc42 hc1 | exact absurd hc31 hc16 | exact absurd hc38 hc16 | exact absurd hc39 hc16 | exact absurd hc40 hc16 | exact absurd hc42 hc16 | exact absurd hc38 hc31 | exact absurd hc39 hc31 | exact absurd hc40 hc31 | exact absurd hc42 hc31 | exact absurd hc39 hc38 | exact absurd hc40 hc38 | exact absurd hc42 hc38 | exact absurd hc40 hc39 | exact absurd hc42 hc39 | exact absurd hc42 hc40 | exact absurd rfl hc1 | exact absurd rfl hc16 | exact absurd rfl hc31 | exact absurd rfl hc38 | exact absurd rfl hc39 | exact absurd rfl hc40 | exact absurd rfl hc42 | exact absurd (by decide) hc1 | exact absurd (by decide) hc16 | exact absurd (by decide) hc31 | exact absurd (by decide) hc38 | exact absurd (by decide) hc39 | exact absurd (by decide) hc40 | exact absurd (by decide) hc42 | fail
          · skip
            skip
            refine z_aload C rfl rfl ?_
            refine z_iloadn C rfl rfl ?_
            refine z_aload C rfl rfl ?_
            refine z_aloadn C rfl rfl ?_
            refine z_callvq C rfl ⟨by decide, by decide⟩ (by first | assumption | rfl | decide) (q_same (zKg_of C) hL hU _) rfl rfl (Nat.le_of_ble_eq_true rfl) ⟨Nat.le_of_ble_eq_true rfl, Nat.le_of_ble_eq_true rfl⟩ fun v43 g43 q43 => ?_
            obtain ⟨hg, b, rfl⟩ := q43
            rw [hg]
            refine z_if C rfl (fun hc44 => ?_) (fun hc44 => ?_)
            · skip
              skip
              refine z_iconst C rfl ?_
              refine z_callv C rfl ⟨by decide, by decide⟩ hL (c_becomeNumber (zKg_of C) hL _) rfl rfl (Nat.le_of_ble_eq_true rfl) ⟨(Nat.le_of_ble_eq_true rfl), (Nat.le_of_ble_eq_true rfl)⟩ ?_
              refine z_goto C rfl ?_
              first | (refine z_ll [(6, zi (Int32.ofInt (Int.ofNat 0))), (0, zr (some 1))] ⟨rfl, rfl, trivial⟩ (k124 _ _ (zV_num hw R.2.1 hL) (by decide))) | (refine z_ll [(6, zi x), (0, zr (some 1))] ⟨rfl, rfl, trivial⟩ (k124 _ _ ?_ hx); exact zV_apply hw R.2.1 hL gL (by first | exact zbq2 hc1 | exact zbq2 hc16 | exact zbq2 hc31 | exact zbq2 hc38 | exact zbq2 hc39 | exact zbq2 hc44 | fail) hq) | exact absurd hc1 hc16 | exact absurd hc1 hc31 | exact absurd hc1 hc38 | exact absurd hc1 hc39 | exact absurd hc1 hc44 | exact absurd hc16 hc31 | exact absurd hc16 hc38 | exact absurd hc16 hc39 | exact absurd hc16 hc44 | exact absurd hc31 hc38 | exact absurd hc31 hc39 | exact absurd hc31 hc44 | exact absurd hc38 hc39 | exact absurd hc38 hc44 | exact absurd hc39 hc44 | exact absurd hc16 hc1 | exact absurd hc31 hc1 | exact absurd hc38 hc1 | exact absurd hc39 hc1 | exact absurd hc44 hc1 | exact absurd hc31 hc16 | exact absurd hc38 hc16 | exact absurd hc39 hc16 | exact absurd hc44 hc16 | exact absurd hc38 hc31 | exact absurd hc39 hc31 | exact absurd hc44 hc31 | exact absurd hc39 hc38 | exact absurd hc44 hc38 | exact absurd hc44 hc39 | exact absurd rfl hc1 | exact absurd rfl hc16 | exact absurd rfl hc31 | exact absurd rfl hc38 | exact absurd rfl hc39 | exact absurd rfl hc44 | exact absurd (by decide) hc1 | exact absurd (by decide) hc16 | exact absurd (by decide) hc31 | exact absurd (by decide) hc38 | exact absurd (by decide) hc39 | exact absurd (by decide) hc44 | fail
            · skip
              skip
              refine z_iconst C rfl ?_
              refine z_goto C rfl ?_
              refine z_callv C rfl ⟨by decide, by decide⟩ hL (c_becomeNumber (zKg_of C) hL _) rfl rfl (Nat.le_of_ble_eq_true rfl) ⟨(Nat.le_of_ble_eq_true rfl), (Nat.le_of_ble_eq_true rfl)⟩ ?_
              refine z_goto C rfl ?_
              first | (refine z_ll [(6, zi (Int32.ofInt (Int.ofNat 0))), (0, zr (some 1))] ⟨rfl, rfl, trivial⟩ (k124 _ _ (zV_num hw R.2.1 hL) (by decide))) | (refine z_ll [(6, zi x), (0, zr (some 1))] ⟨rfl, rfl, trivial⟩ (k124 _ _ ?_ hx); exact zV_apply hw R.2.1 hL gL (by first | exact zbq2 hc1 | exact zbq2 hc16 | exact zbq2 hc31 | exact zbq2 hc38 | exact zbq2 hc39 | exact zbq2 hc44 | fail) hq) | exact absurd hc1 hc16 | exact absurd hc1 hc31 | exact absurd hc1 hc38 | exact absurd hc1 hc39 | exact absurd hc1 hc44 | exact absurd hc16 hc31 | exact absurd hc16 hc38 | exact absurd hc16 hc39 | exact absurd hc16 hc44 | exact absurd hc31 hc38 | exact absurd hc31 hc39 | exact absurd hc31 hc44 | exact absurd hc38 hc39 | exact absurd hc38 hc44 | exact absurd hc39 hc44 | exact absurd hc16 hc1 | exact absurd hc31 hc1 | exact absurd hc38 hc1 | exact absurd hc39 hc1 | exact absurd hc44 hc1 | exact absurd hc31 hc16 | exact absurd hc38 hc16 | exact absurd hc39 hc16 | exact absurd hc44 hc16 | exact absurd hc38 hc31 | exact absurd hc39 hc31 | exact absurd hc44 hc31 | exact absurd hc39 hc38 | exact absurd hc44 hc38 | exact absurd hc44 hc39 | exact absurd rfl hc1 | exact absurd rfl hc16 | exact absurd rfl hc31 | exact absurd rfl hc38 | exact absurd rfl hc39 | exact absurd rfl hc44 | exact absurd (by decide) hc1 | exact absurd (by decide) hc16 | exact absurd (by decide) hc31 | exact absurd (by decide) hc38 | exact absurd (by decide) hc39 | exact absurd (by decide) hc44 | fail
        · skip
          skip
          refine z_iconst C rfl ?_
          exact z_ireturnq C rfl he ⟨Nat.le_refl _, Nat.le_refl _⟩ rfl ⟨T, s, _, R, zSt_refl, zGk_refl, rfl, fun e => absurd e (by decide)⟩

