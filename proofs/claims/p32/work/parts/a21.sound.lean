/-! the law's sound -/
section ZCW2
variable {ω : zO} {mi pc a b : Nat} {ls : List (Nat × zV)} {st : List zV} {h : zH} {idx iy iz : Nat} {ps : List Nat} {d0 : Drawn}
theorem zg_numR (C : zX ω mi) (hd0 : (oS ω).drawn.sameBut d0 lw_cs) (ht : zat mi pc = some (.invokestatic idx, (pc, 3, 128, iy, iz), 0, ps)) (hz : zh 128 + 1 ≤ zh mi) {l g r : Nat} {c d : Int32} (hl : l < 3) (hg : g < 8) (hw : zWk h) (e : h.1 (6 + (8 * l + g)) 0 = 116) (e1 : h.2.2.2 (6 + (8 * l + g)) 5 = some (30 + 5 * r)) (e3 : (h.1 (30 + 5 * r) 0).toInt64 = h.2.1 (6 + (8 * l + g)) 3 ∧ h.1 (6 + (8 * l + g)) 2 = 0) (hsum : zsum st ≤ 8) (hca : a ≤ (oR ω).cells ∧ b ≤ (oR ω).slots)
    (kk : ∀ d1, (oS ω).drawn.sameBut d1 lw_cs → ZG (zod ω d1) mi (pc + 3) ls (zi (h.1 (30 + 5 * r) 0) :: st) h a b) : ZG (zod ω d0) mi pc ls (zi d :: zi c :: zi (nI g) :: zi (nI l) :: zi (Int32.ofInt (Int.ofNat 22)) :: zr (some 0) :: st) h a b := by
  refine z_callsDH C hd0 ht ⟨by decide, hz, by decide⟩ (w_22 (zKg_of C) (d_numOf (zKg_of C) hl hg h hw (zgd_NR e e1))) rfl rfl hsum hca fun v h1 d1 q hd1 => ?_
  obtain ⟨q1, q2⟩ := q
  rw [q1, q2, zgd_told e e3]
  exact kk d1 hd1
theorem zg_couR (C : zX ω mi) (ht : zat mi pc = some (.invokestatic idx, (pc, 3, 128, iy, iz), 0, ps)) (hz : zh 128 + 1 ≤ zh mi) {n x c d : Int32} {r : Nat} (hw : zWk h) (hn : zwithin n (h.1 2 4) = true) (hr : r < 60) (hf : zfnd h n 60 0 = some (30 + 5 * r)) (hsum : zsum st ≤ 8) (hca : a ≤ (oR ω).cells ∧ b ≤ (oR ω).slots)
    (kk : ∀ h1, zTE h1 h → ZG ω mi (pc + 3) ls (zi (nI (zow h (30 + 5 * r))) :: st) h1 a b) : ZG ω mi pc ls (zi d :: zi c :: zi x :: zi n :: zi (Int32.ofInt (Int.ofNat 18)) :: zr (some 0) :: st) h a b := by
  have k := kk (ztally h) (ztally_TE hw.1)
  rw [← zown_t hw.1 hr] at k
  exact z_callsH C ht ⟨by decide, hz, by decide⟩ (w_18 (zKg_of C) (c_count (zKg_of C) h hw hn hf)) rfl rfl hsum hca k
end ZCW2
def zth3 (h : zH) : Nat → Int32
  | 0 => Int32.ofInt (Int.ofNat 0)
  | i + 1 => zth3 h i + zcnt h (nI i) 60 0 (Int32.ofInt (Int.ofNat 0))
theorem zth3_ok {h : zH} (F : zFld h) : zth3 h 3 = nI (zlv h 60) := by
  have a := zcnt_3 F
  rw [← a]
  unfold zth3 zth3 zth3 zth3
  rw [show Int32.ofInt (Int.ofNat 0) = 0 from rfl, Int32.zero_add]
theorem zFIL {h : zH} (C : zCnt h) : h.1 2 4 - h.1 2 5 = nI (zlv h 60) := by
  obtain ⟨F, hF, e1, e2⟩ := C
  rw [e1, e2, zsubL (Nat.le_add_right _ _), Nat.add_sub_cancel_left]
theorem zTE_ni {g h : zH} (e : zTE g h) {n : Int32} : zfnd g n 60 0 = zfnd h n 60 0 := zTE_fnd e 60 0
set_option maxHeartbeats 400000 in
set_option maxRecDepth 20000 in
theorem l_sd1 {ω : zO} (C : zX ω 130) {h : zH} {a b : Nat} (hw : zWk h) (hab : a ≤ (oR ω).cells ∧ b ≤ (oR ω).slots) : ∀ m i, i + m = 3 → ZG ω 130 28 [(1, zi (zth3 h 3)), (0, zr (some 0))] [] h a b → ZG ω 130 4 [(2, zi (nI i)), (1, zi (zth3 h i)), (0, zr (some 0))] [] h a b := by
  intro m
  induction m with
  | zero =>
    intro i e kk
    obtain rfl : i = 3 := by omega
    refine z_iloadn C rfl rfl ?_
    refine z_iconst C rfl ?_
    refine z_icmp C rfl (fun hc => ?_) (fun hc => absurd (Int32.le_refl _) hc)
    exact z_ll [(1, zi (zth3 h 3)), (0, zr (some 0))] ⟨rfl, rfl, trivial⟩ kk
  | succ m ih =>
    intro i e kk
    have hi : i < 3 := by omega
    refine z_iloadn C rfl rfl ?_
    refine z_iconst C rfl ?_
    refine z_icmp C rfl (fun hc => absurd hc (nI_ge hi (by decide))) (fun hc => ?_)
    refine z_iloadn C rfl rfl ?_
    refine z_aloadn C rfl rfl ?_
    refine z_bipush C rfl ?_
    refine z_iloadn C rfl rfl ?_
    refine z_iconst C rfl ?_
    refine z_iconst C rfl ?_
    refine z_iconst C rfl ?_
    refine zg_things C rfl (by decide) hw (zwt (by omega) (by decide)) (Nat.le_of_ble_eq_true rfl) hab ?_
    refine z_iadd C rfl ?_
    refine z_istoren C rfl ?_
    refine z_iinc C rfl rfl ?_
    refine z_goto C rfl ?_
    exact z_ll [(2, zi (nI (i + 1))), (1, zi (zth3 h (i + 1))), (0, zr (some 0))] ⟨znx i, rfl, rfl, trivial⟩ (ih (i + 1) (by omega) kk)
theorem zwin {x n : Int32} (h0 : 0 ≤ x) (h1 : x < n) : zwithin x n = true := by
  unfold zwithin
  rw [decide_eq_true h0, decide_eq_true h1]
  rfl
theorem Int32_lt8 {i : Nat} (hi : i < 24) (hc : ¬ xCmp .ge (nI i) (Int32.ofInt (Int.ofNat 8))) : i < 8 := by
  by_cases q : i < 8
  · exact q
  · exact absurd (nI_le (a := 8) (b := i) (by omega) (by omega)) hc
theorem zlow1 {h : zH} {t : Nat} (h1 : 1 ≤ zow h t) : Int32.ofInt (Int.ofNat 1) ≤ nI (zow h t) := nI_le (a := 1) h1 (Nat.lt_of_le_of_lt zow_le (by decide))
set_option maxHeartbeats 400000 in
set_option maxRecDepth 20000 in
theorem l_sd2 {ω : zO} (C0 : zX ω 130) {h : zH} {t : Int32} {a b : Nat} (hw : zWk h) (H : zHI h) (hab : a ≤ (oR ω).cells ∧ b ≤ (oR ω).slots) : ∀ (m i : Nat) (g : zH) (d0 : Drawn), i + m = 24 → zTE g h → (oS ω).drawn.sameBut d0 lw_cs →
    (∀ g1 d1, zTE g1 h → (oS ω).drawn.sameBut d1 lw_cs → ZG (zod ω d1) 130 133 [(1, zi t), (0, zr (some 0))] [] g1 a b) →
    ZG (zod ω d0) 130 30 [(2, zi (nI i)), (1, zi t), (0, zr (some 0))] [] g a b := by
  intro m
  induction m with
  | zero =>
    intro i g d0 e eg hd0 kk
    have C := zX_od C0 d0
    obtain rfl : i = 24 := by omega
    refine z_iloadn C rfl rfl ?_
    refine z_bipush C rfl ?_
    refine z_icmp C rfl (fun hc => ?_) (fun hc => absurd (Int32.le_refl _) hc)
    exact z_ll [(1, zi t), (0, zr (some 0))] ⟨rfl, rfl, trivial⟩ (kk g d0 eg hd0)
  | succ m ih =>
    intro i g d0 e eg hd0 kk
    have C := zX_od C0 d0
    have hi : i < 24 := by omega
    have hl : i / 8 < 3 := by omega
    have hg : i % 8 < 8 := by omega
    refine z_iloadn C rfl rfl ?_
    refine z_bipush C rfl ?_
    refine z_icmp C rfl (fun hc => absurd hc (nI_ge hi (by decide))) (fun hc => ?_)
    refine z_aloadn C rfl rfl ?_
    refine z_bipush C rfl ?_
    refine z_iloadn C rfl rfl ?_
    refine z_bipush C rfl ?_
    refine z_idiv C rfl (by decide) ?_
    refine z_iloadn C rfl rfl ?_
    refine z_bipush C rfl ?_
    refine z_irem C rfl (by decide) ?_
    refine z_iconst C rfl ?_
    refine z_iconst C rfl ?_
    rw [zrm8 hi, zdv8 hi]
    refine zg_kind C rfl (by decide) hl hg (zTE_Wk eg hw) (Nat.le_of_ble_eq_true rfl) ⟨(show a ≤ (oR ω).cells from hab.1), (show b ≤ (oR ω).slots from hab.2)⟩ ?_
    rw [zk8, zTE_0 eg (by decide)]
    refine z_bipush C rfl ?_
    refine z_icmp C rfl (fun hc1 => ?_) (fun hc1 => ?_)
    · skip
      skip
      refine z_iinc C rfl rfl ?_
      refine z_goto C rfl ?_
      first | exact z_ll [(2, zi (nI (i + 1))), (1, zi t), (0, zr (some 0))] ⟨znx i, rfl, rfl, trivial⟩ (ih (i + 1) g1 _ (by omega) eg1 hd0 kk) | exact z_ll [(2, zi (nI (i + 1))), (1, zi t), (0, zr (some 0))] ⟨znx i, rfl, rfl, trivial⟩ (ih (i + 1) g _ (by omega) eg hd0 kk)
    · skip
      skip
      have ek : h.1 (6 + i) 0 = 116 := Decidable.of_not_not hc1
      obtain ⟨r, hr, e1, e2, e3⟩ := (H.1 i hi).1 ek
      have hwi : zwithin (h.1 (30 + 5 * r) 0) (h.1 2 4) = true := zwin e2 (H.2.2.1.1 r hr e2)
      refine z_aloadn C rfl rfl ?_
      refine z_bipush C rfl ?_
      refine z_aloadn C rfl rfl ?_
      refine z_bipush C rfl ?_
      refine z_iloadn C rfl rfl ?_
      refine z_bipush C rfl ?_
      refine z_idiv C rfl (by decide) ?_
      refine z_iloadn C rfl rfl ?_
      refine z_bipush C rfl ?_
      refine z_irem C rfl (by decide) ?_
      refine z_iconst C rfl ?_
      refine z_iconst C rfl ?_
      rw [zrm8 hi, zdv8 hi]
      refine zg_numR C0 hd0 rfl (by decide) hl hg (zTE_Wk eg hw) (by rw [zk8, zTE_0 eg (by decide)]; exact ek) (by rw [zk8, zTE_R eg]; exact e1) (by rw [zk8, zTE_0 eg (by decide), zTE_0 eg (by decide), show g.2.1 = h.2.1 from congrArg Prod.fst eg.1]; exact e3) (Nat.le_of_ble_eq_true rfl) hab fun d7 hD7 => ?_
      have C := zX_od C0 d7
      have hd0 := hD7
      rw [zTE_0 eg (by decide)]
      refine z_iconst C rfl ?_
      refine z_iconst C rfl ?_
      refine z_iconst C rfl ?_
      refine zg_there C rfl (by decide) (zTE_Wk eg hw) (by rw [zTE_n eg zTh_2]; exact hwi) (Nat.le_of_ble_eq_true rfl) ⟨(show a ≤ (oR ω).cells from hab.1), (show b ≤ (oR ω).slots from hab.2)⟩ ?_
      rw [zTE_ni eg, zfnd_r H.2.2.1 hr e2]
      refine z_iconst C rfl ?_
      refine z_icmp C rfl (fun hc2 => ?_) (fun hc2 => ?_)
      · skip
        skip
        first | exact absurd rfl hc2 | exact absurd (zlow1 (zow_G (h := h) (i := i) (Int32_lt8 hi hc3) ek e1)) hc4 | exact absurd (nI_pos' (n := zow h (30 + 5 * r)) (Nat.lt_of_le_of_lt zow_le (by decide))) hc4 | exact absurd (zlow1 (zow_G (h := h) (i := i) (Int32_lt8 hi hc3) ek e1)) hc5
      · skip
        skip
        refine z_aloadn C rfl rfl ?_
        refine z_bipush C rfl ?_
        refine z_aloadn C rfl rfl ?_
        refine z_bipush C rfl ?_
        refine z_iloadn C rfl rfl ?_
        refine z_bipush C rfl ?_
        refine z_idiv C rfl (by decide) ?_
        refine z_iloadn C rfl rfl ?_
        refine z_bipush C rfl ?_
        refine z_irem C rfl (by decide) ?_
        refine z_iconst C rfl ?_
        refine z_iconst C rfl ?_
        rw [zrm8 hi, zdv8 hi]
        refine zg_numR C0 hd0 rfl (by decide) hl hg (zTE_Wk eg hw) (by rw [zk8, zTE_0 eg (by decide)]; exact ek) (by rw [zk8, zTE_R eg]; exact e1) (by rw [zk8, zTE_0 eg (by decide), zTE_0 eg (by decide), show g.2.1 = h.2.1 from congrArg Prod.fst eg.1]; exact e3) (Nat.le_of_ble_eq_true rfl) hab fun d8 hD8 => ?_
        have C := zX_od C0 d8
        have hd0 := hD8
        rw [zTE_0 eg (by decide)]
        refine z_iconst C rfl ?_
        refine z_iconst C rfl ?_
        refine z_iconst C rfl ?_
        refine zg_couR C rfl (by decide) (zTE_Wk eg hw) (by rw [zTE_n eg zTh_2]; exact hwi) hr (by rw [zTE_ni eg]; exact zfnd_r H.2.2.1 hr e2) (Nat.le_of_ble_eq_true rfl) ⟨(show a ≤ (oR ω).cells from hab.1), (show b ≤ (oR ω).slots from hab.2)⟩ fun g1 e9 => ?_
        rw [zTE_ow eg]
        have eg1 := zTE_tr e9 eg
        refine z_iloadn C rfl rfl ?_
        refine z_bipush C rfl ?_
        refine z_icmp C rfl (fun hc3 => ?_) (fun hc3 => ?_)
        · skip
          skip
          refine z_iconst C rfl ?_
          refine z_icmp C rfl (fun hc4 => ?_) (fun hc4 => ?_)
          · skip
            skip
            refine z_iinc C rfl rfl ?_
            refine z_goto C rfl ?_
            first | exact z_ll [(2, zi (nI (i + 1))), (1, zi t), (0, zr (some 0))] ⟨znx i, rfl, rfl, trivial⟩ (ih (i + 1) g1 _ (by omega) eg1 hd0 kk) | exact z_ll [(2, zi (nI (i + 1))), (1, zi t), (0, zr (some 0))] ⟨znx i, rfl, rfl, trivial⟩ (ih (i + 1) g _ (by omega) eg hd0 kk)
          · skip
            skip
            first | exact absurd rfl hc2 | exact absurd (zlow1 (zow_G (h := h) (i := i) (Int32_lt8 hi hc3) ek e1)) hc4 | exact absurd (nI_pos' (n := zow h (30 + 5 * r)) (Nat.lt_of_le_of_lt zow_le (by decide))) hc4 | exact absurd (zlow1 (zow_G (h := h) (i := i) (Int32_lt8 hi hc3) ek e1)) hc5
        · skip
          skip
          refine z_iconst C rfl ?_
          refine z_goto C rfl ?_
          refine z_icmp C rfl (fun hc5 => ?_) (fun hc5 => ?_)
          · skip
            skip
            refine z_iinc C rfl rfl ?_
            refine z_goto C rfl ?_
            first | exact z_ll [(2, zi (nI (i + 1))), (1, zi t), (0, zr (some 0))] ⟨znx i, rfl, rfl, trivial⟩ (ih (i + 1) g1 _ (by omega) eg1 hd0 kk) | exact z_ll [(2, zi (nI (i + 1))), (1, zi t), (0, zr (some 0))] ⟨znx i, rfl, rfl, trivial⟩ (ih (i + 1) g _ (by omega) eg hd0 kk)
          · skip
            skip
            first | exact absurd rfl hc2 | exact absurd (zlow1 (zow_G (h := h) (i := i) (Int32_lt8 hi hc3) ek e1)) hc4 | exact absurd (nI_pos' (n := zow h (30 + 5 * r)) (Nat.lt_of_le_of_lt zow_le (by decide))) hc4 | exact absurd (zlow1 (zow_G (h := h) (i := i) (Int32_lt8 hi hc3) ek e1)) hc5
set_option maxHeartbeats 400000 in
set_option maxRecDepth 20000 in
theorem d_sound {κ : zK} (hκ : zKg κ) (h : zH) (hw : zWk h) (H : zHI h) (S : zSd h) : zRD κ 130 [zr (some 0)] h (fun v h' => v = some (zi 1) ∧ zTE h' h) 0 0 := by
  refine zRD_of hκ (by decide) (by decide +kernel) (Nat.le_of_ble_eq_true rfl) fun ω C0 hK he d0 hd0 => ?_
  have C := zX_od C0 d0
  refine z_iconst C rfl ?_
  refine z_istoren C rfl ?_
  refine z_iconst C rfl ?_
  refine z_istoren C rfl ?_
  refine z_ll [(2, zi (nI 0)), (1, zi (zth3 h 0)), (0, zr (some 0))] ⟨rfl, rfl, rfl, trivial⟩ ?_
  refine l_sd1 C hw ⟨Nat.zero_le _, Nat.zero_le _⟩ 3 0 rfl ?_
  refine z_iconst C rfl ?_
  refine z_istoren C rfl ?_
  refine z_ll [(2, zi (nI 0)), (1, zi (zth3 h 3)), (0, zr (some 0))] ⟨rfl, rfl, rfl, trivial⟩ ?_
  refine l_sd2 C0 hw H ⟨Nat.zero_le _, Nat.zero_le _⟩ 24 0 h d0 rfl zTE_refl hd0 fun g1 d1 eg1 hd1 => ?_
  have C := zX_od C0 d1
  have hd0 := hd1
  refine z_iloadn C rfl rfl ?_
  refine z_aloadn C rfl rfl ?_
  refine z_callv C rfl ⟨by decide, by decide⟩ zS_0 (c_made (zKg_of C) g1 (zTE_Wk eg1 hw)) rfl rfl (Nat.le_of_ble_eq_true rfl) ⟨Nat.le_of_ble_eq_true rfl, Nat.le_of_ble_eq_true rfl⟩ ?_
  refine z_aloadn C rfl rfl ?_
  refine z_callv C rfl ⟨by decide, by decide⟩ zS_0 (c_freed (zKg_of C) g1 (zTE_Wk eg1 hw)) rfl rfl (Nat.le_of_ble_eq_true rfl) ⟨Nat.le_of_ble_eq_true rfl, Nat.le_of_ble_eq_true rfl⟩ ?_
  rw [zTE_n eg1 zTh_2]
  refine z_isub C rfl ?_
  rw [zFIL H.2.2.2, zth3_ok H.2.1]
  refine z_icmp C rfl (fun hc1 => ?_) (fun hc1 => ?_)
  · skip
    skip
    first | exact absurd rfl hc1 | exact absurd hc2 (nI_nlt (a := 60) (zlv_le 60) (by decide)) | exact absurd (show zB true = 0 from hc3) (by decide)
  · skip
    skip
    refine z_iloadn C rfl rfl ?_
    refine z_bipush C rfl ?_
    refine z_icmp C rfl (fun hc2 => ?_) (fun hc2 => ?_)
    · skip
      skip
      first | exact absurd rfl hc1 | exact absurd hc2 (nI_nlt (a := 60) (zlv_le 60) (by decide)) | exact absurd (show zB true = 0 from hc3) (by decide)
    · skip
      skip
      refine z_aloadn C rfl rfl ?_
      refine z_callv C rfl ⟨by decide, by decide⟩ zS_0 (c_isSound (zKg_of C) g1 (zTE_Wk eg1 hw)) rfl rfl (Nat.le_of_ble_eq_true rfl) ⟨Nat.le_of_ble_eq_true rfl, Nat.le_of_ble_eq_true rfl⟩ ?_
      rw [zTE_tally eg1 hw.1, zhold_ok hw H S]
      refine z_if C rfl (fun hc3 => ?_) (fun hc3 => ?_)
      · skip
        skip
        first | exact absurd rfl hc1 | exact absurd hc2 (nI_nlt (a := 60) (zlv_le 60) (by decide)) | exact absurd (show zB true = 0 from hc3) (by decide)
      · skip
        skip
        refine z_iconst C rfl ?_
        refine z_goto C rfl ?_
        exact z_zreturnD C0 hd0 rfl he ⟨Nat.le_refl _, Nat.le_refl _⟩ rfl rfl ⟨rfl, ztally_TE hw.1⟩
