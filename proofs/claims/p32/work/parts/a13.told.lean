/-! told, numberOf; the law's cell and low; what its call catches -/
theorem z_ldci {ω : zO} {mi pc a b : Nat} {ls : List (Nat × zV)} {st : List zV} {h : zH} (C : zX ω mi) {index : Nat} {v : Int32} (hd : decode (xBy mi) pc = .ok (.ldc index, 2)) (hc : Cond.constant (xY mi).cls index v ∈ lw_tbl) (kk : ZG ω mi (pc + 2) ls (zi v :: st) h a b) : ZG ω mi pc ls st h a b := by
  obtain ⟨⟨hx, hb, hml, how, hnm⟩, hts, hrest⟩ := C
  exact fun H locs lsA hR hL => lv_ldc hx hb how (hts _ (xgw_of hc rfl)) hd (kk H locs lsA hR hL)
theorem z_i2c {ω : zO} {mi pc a b : Nat} {ls : List (Nat × zV)} {st : List zV} {h : zH} (C : zX ω mi) {x : Int32} (hd : decode (xBy mi) pc = .ok (.i2c, 1)) (kk : ZG ω mi (pc + 1) ls (zi (x.toUInt32 % 65536).toInt32 :: st) h a b) : ZG ω mi pc ls (zi x :: st) h a b := by
  obtain ⟨⟨hx, hb, hml, how, hnm⟩, hts, hrest⟩ := C
  exact fun H locs lsA hR hL => lv_i2c hx hb hd rfl (kk H locs lsA hR hL)
/-- the script -/
theorem z_slen {ω : zO} {mi pc a b : Nat} {ls : List (Nat × zV)} {st : List zV} {h : zH} (C : zX ω mi) (hd : decode (xBy mi) pc = .ok (.arraylength, 1)) (kk : ZG ω mi (pc + 1) ls (zi (nI (kN (oK ω))) :: st) h a b) : ZG ω mi pc ls (zs :: st) h a b := by
  obtain ⟨⟨hx, hb, hml, hown, hnm⟩, hts, ⟨hW, hX, hbl, hs0⟩, hrest⟩ := C
  exact fun H locs lsA hR hL => va_slen hx hb hX hbl (A := fun q => (kρ (oK ω)).1 ≤ q) (by have hB : (kρ (oK ω)).1 = (kH (oK ω)).size := hR.2.2; show ¬ _ ≤ _; omega) hR.2.1 hd (kk H locs lsA hR hL)
theorem z_sld {ω : zO} {mi pc a b : Nat} {ls : List (Nat × zV)} {st : List zV} {h : zH} (C : zX ω mi) {i : Int32} (hd : decode (xBy mi) pc = .ok (.iaload, 1)) (hin : vp_in i (kN (oK ω))) (kk : ZG ω mi (pc + 1) ls (zi ((kρ (oK ω)).2.2 i.toNatClampNeg) :: st) h a b) : ZG ω mi pc ls (zi i :: zs :: st) h a b := by
  obtain ⟨⟨hx, hb, hml, hown, hnm⟩, hts, ⟨hW, hX, hbl, hs0⟩, hrest⟩ := C
  exact fun H locs lsA hR hL => va_sld hx hb hX hbl (A := fun q => (kρ (oK ω)).1 ≤ q) (by have hB : (kρ (oK ω)).1 = (kH (oK ω)).size := hR.2.2; show ¬ _ ≤ _; omega) hR.2.1 hin hd (kk H locs lsA hR hL)
/-- a NaN as an int -/
theorem zd2i_nan {r : UInt64} (h : isNaN64 r = true) : FP.d2i r = 0 := by
  unfold isNaN64 at h
  have h : (0x7ff0000000000000 : UInt64) < r &&& 0x7fffffffffffffff := of_decide_eq_true h
  rw [UInt64.lt_iff_toNat_lt, UInt64.toNat_and] at h
  have e : (0x7fffffffffffffff : UInt64).toNat = 2 ^ 63 - 1 := by decide
  have e2 : (0x7ff0000000000000 : UInt64).toNat = 2047 * 2 ^ 52 := by decide
  rw [e, e2, Nat.and_two_pow_sub_one_eq_mod] at h
  have hx : r.toNat < 2 ^ 64 := r.toNat_lt
  have hd : FP.Core.decode FP.Core.b64 r.toNat = .nan := by
    generalize r.toNat = n at h hx
    unfold FP.Core.decode FP.Core.fieldE FP.Core.fieldT
    rw [zfT64, zfE64]
    rw [if_pos (by omega), if_neg (by omega)]
  show FP.Core.toI (FP.Core.decode FP.Core.b64 r.toNat) = 0
  rw [hd]
  decide
theorem zd2i_00 {r : UInt64} (h : alike64 r (FP.ddiv FP.dconst0 FP.dconst0) = true) : FP.d2i r = 0 := by
  unfold alike64 at h
  rw [Bool.or_eq_true, Bool.and_eq_true, decide_eq_true_iff] at h
  rcases h with h | h
  · subst h
    decide +kernel
  · exact zd2i_nan h.1
def ztold (h : zH) (k : Nat) : Int32 := if h.1 k 2 = 0 then FP.d2i (zasD h k) else 0
def zisNR (h : zH) (k : Nat) : Bool := zisNum (h.1 k 0) || zisRef h k
set_option maxHeartbeats 400000 in
set_option maxRecDepth 20000 in
theorem d_told {κ : zK} (hκ : zKg κ) {k : Nat} (hS : zS k = (0, 6, 6)) (h : zH) : zRD κ 85 [zr (some k)] h (fun v h' => h' = h ∧ ∃ x, v = some (zd x) ∧ FP.d2i x = ztold h k) 0 0 := by
  refine zRD_of hκ (by decide) (by decide +kernel) (Nat.le_of_ble_eq_true rfl) fun ω C0 hK he d0 hd0 => ?_
  have C := zX_od C0 d0
  refine z_dconst0 C rfl ?_
  refine z_dstoren C rfl ?_
  refine z_aloadn C rfl rfl ?_
  refine z_geti C rfl hS rfl ?_
  refine z_if C rfl (fun hc1 => ?_) (fun hc1 => ?_)
  · skip
    skip
    refine z_aloadn C rfl rfl ?_
    refine z_callv C rfl ⟨by decide, by decide⟩ hS (c_asDouble (zKg_of C) hS _) rfl rfl (Nat.le_of_ble_eq_true rfl) ⟨Nat.le_of_ble_eq_true rfl, Nat.le_of_ble_eq_true rfl⟩ ?_
    exact z_dreturnD C0 hd0 rfl he ⟨Nat.le_refl _, Nat.le_refl _⟩ rfl (by first | exact ⟨rfl, _, rfl, (if_pos (show h.1 k 2 = 0 from hc1)).symm⟩ | exact ⟨rfl, _, rfl, (zd2i_00 (by assumption)).trans (if_neg (show ¬ h.1 k 2 = 0 from hc1)).symm⟩)
  · skip
    skip
    refine z_dloadn C rfl rfl ?_
    refine z_dloadn C rfl rfl ?_
    refine z_ddivD C0 hd0 rfl (fun r2 d2 hal2 hD2 => ?_)
    have C := zX_od C0 d2
    have hd0 := hD2
    refine z_goto C rfl ?_
    exact z_dreturnD C0 hd0 rfl he ⟨Nat.le_refl _, Nat.le_refl _⟩ rfl (by first | exact ⟨rfl, _, rfl, (if_pos (show h.1 k 2 = 0 from hc1)).symm⟩ | exact ⟨rfl, _, rfl, (zd2i_00 (by assumption)).trans (if_neg (show ¬ h.1 k 2 = 0 from hc1)).symm⟩)

set_option maxHeartbeats 400000 in
set_option maxRecDepth 20000 in
theorem d_numOf {κ : zK} (hκ : zKg κ) {l g : Nat} (hl : l < 3) (hg : g < 8) (h : zH) (hw : zWk h) (hnr : zisNR h (6 + (8 * l + g)) = true) : zRD κ 106 [zr (some 0), zi (nI l), zi (nI g)] h (fun v h' => h' = h ∧ ∃ x, v = some (zd x) ∧ FP.d2i x = ztold h (6 + (8 * l + g))) 0 0 := by
  refine zRD_of hκ (by decide) (by decide +kernel) (Nat.le_of_ble_eq_true rfl) fun ω C0 hK he d0 hd0 => ?_
  have C := zX_od C0 d0
  refine z_iloadn C rfl rfl ?_
  refine z_iloadn C rfl rfl ?_
  refine z_calls C rfl ⟨by decide, by decide, by decide⟩ (c_reqG (zKg_of C) (zwt hl (by decide)) (zwt hg (by decide)) _) rfl rfl (Nat.le_of_ble_eq_true rfl) ⟨(Nat.le_of_ble_eq_true rfl), (Nat.le_of_ble_eq_true rfl)⟩ ?_
  refine z_aloadn C rfl rfl ?_
  refine z_gets C rfl zS_0 rfl hw.1.1.1.2.1 ?_
  refine z_iloadn C rfl rfl ?_
  refine z_iloadn C rfl rfl ?_
  refine z_callv C rfl ⟨by decide, by decide⟩ zS_2 (c_globalOf (zKg_of C) hl hg _ hw.1.1) rfl rfl (Nat.le_of_ble_eq_true rfl) ⟨(Nat.le_of_ble_eq_true rfl), (Nat.le_of_ble_eq_true rfl)⟩ ?_
  refine z_astoren C rfl ?_
  refine z_aloadn C rfl rfl ?_
  refine z_callv C rfl ⟨by decide, by decide⟩ (zS_val24 (8 * l + g) (by omega)) (c_isNumber (zKg_of C) (zS_val24 (8 * l + g) (by omega)) _) rfl rfl (Nat.le_of_ble_eq_true rfl) ⟨(Nat.le_of_ble_eq_true rfl), (Nat.le_of_ble_eq_true rfl)⟩ ?_
  refine z_if C rfl (fun hc1 => ?_) (fun hc1 => ?_)
  · skip
    skip
    refine z_aloadn C rfl rfl ?_
    refine z_callvD C0 hd0 rfl ⟨by decide, by decide⟩ (zS_val24 (8 * l + g) (by omega)) (d_told (zKg_of C) (zS_val24 (8 * l + g) (by omega)) _) rfl rfl (Nat.le_of_ble_eq_true rfl) ⟨Nat.le_of_ble_eq_true rfl, Nat.le_of_ble_eq_true rfl⟩ fun v2 g2 d2 q2 hD2 => ?_
    have C := zX_od C0 d2
    have hd0 := hD2
    obtain ⟨hg9, x9, rfl, hx9⟩ := q2
    rw [hg9]
    exact z_dreturnD C0 hd0 rfl he ⟨Nat.le_refl _, Nat.le_refl _⟩ rfl ⟨rfl, _, rfl, hx9⟩
  · skip
    skip
    refine z_aloadn C rfl rfl ?_
    refine z_callv C rfl ⟨by decide, by decide⟩ (zS_val24 (8 * l + g) (by omega)) (c_isReference (zKg_of C) (zS_val24 (8 * l + g) (by omega)) _) rfl rfl (Nat.le_of_ble_eq_true rfl) ⟨(Nat.le_of_ble_eq_true rfl), (Nat.le_of_ble_eq_true rfl)⟩ ?_
    refine z_if C rfl (fun hc3 => ?_) (fun hc3 => ?_)
    · skip
      skip
      refine z_aloadn C rfl rfl ?_
      refine z_callvD C0 hd0 rfl ⟨by decide, by decide⟩ (zS_val24 (8 * l + g) (by omega)) (d_told (zKg_of C) (zS_val24 (8 * l + g) (by omega)) _) rfl rfl (Nat.le_of_ble_eq_true rfl) ⟨Nat.le_of_ble_eq_true rfl, Nat.le_of_ble_eq_true rfl⟩ fun v4 g4 d4 q4 hD4 => ?_
      have C := zX_od C0 d4
      have hd0 := hD4
      obtain ⟨hg9, x9, rfl, hx9⟩ := q4
      rw [hg9]
      exact z_dreturnD C0 hd0 rfl he ⟨Nat.le_refl _, Nat.le_refl _⟩ rfl ⟨rfl, _, rfl, hx9⟩
    · skip
      skip
      exact absurd hnr (by unfold zisNR; rw [zbq4 hc1, zbq4 hc3]; decide)

set_option maxHeartbeats 400000 in
set_option maxRecDepth 20000 in
theorem t_numOf {κ : zK} (hκ : zKg κ) {l g : Nat} (hl : l < 3) (hg : g < 8) (h : zH) (hw : zWk h) (hnr : zisNR h (6 + (8 * l + g)) = false) : zThr κ 106 [zr (some 0), zi (nI l), zi (nI g)] h 2 h 1 6 := by
  refine zThr_of hκ (by decide) (by decide +kernel) (Nat.le_of_ble_eq_true rfl) fun ω C hK he => ?_
  refine z_iloadn C rfl rfl ?_
  refine z_iloadn C rfl rfl ?_
  refine z_calls C rfl ⟨by decide, by decide, by decide⟩ (c_reqG (zKg_of C) (zwt hl (by decide)) (zwt hg (by decide)) _) rfl rfl (Nat.le_of_ble_eq_true rfl) ⟨(Nat.le_of_ble_eq_true rfl), (Nat.le_of_ble_eq_true rfl)⟩ ?_
  refine z_aloadn C rfl rfl ?_
  refine z_gets C rfl zS_0 rfl hw.1.1.1.2.1 ?_
  refine z_iloadn C rfl rfl ?_
  refine z_iloadn C rfl rfl ?_
  refine z_callv C rfl ⟨by decide, by decide⟩ zS_2 (c_globalOf (zKg_of C) hl hg _ hw.1.1) rfl rfl (Nat.le_of_ble_eq_true rfl) ⟨(Nat.le_of_ble_eq_true rfl), (Nat.le_of_ble_eq_true rfl)⟩ ?_
  refine z_astoren C rfl ?_
  refine z_aloadn C rfl rfl ?_
  refine z_callv C rfl ⟨by decide, by decide⟩ (zS_val24 (8 * l + g) (by omega)) (c_isNumber (zKg_of C) (zS_val24 (8 * l + g) (by omega)) _) rfl rfl (Nat.le_of_ble_eq_true rfl) ⟨(Nat.le_of_ble_eq_true rfl), (Nat.le_of_ble_eq_true rfl)⟩ ?_
  refine z_if C rfl (fun hc1 => ?_) (fun hc1 => ?_)
  · skip
    skip
    first | exact absurd hnr (by unfold zisNR; rw [zbq3 hc1, Bool.true_or]; decide) | exact absurd hnr (by unfold zisNR; rw [zbq3 hc2, Bool.or_true]; decide)
  · skip
    skip
    refine z_aloadn C rfl rfl ?_
    refine z_callv C rfl ⟨by decide, by decide⟩ (zS_val24 (8 * l + g) (by omega)) (c_isReference (zKg_of C) (zS_val24 (8 * l + g) (by omega)) _) rfl rfl (Nat.le_of_ble_eq_true rfl) ⟨(Nat.le_of_ble_eq_true rfl), (Nat.le_of_ble_eq_true rfl)⟩ ?_
    refine z_if C rfl (fun hc2 => ?_) (fun hc2 => ?_)
    · skip
      skip
      first | exact absurd hnr (by unfold zisNR; rw [zbq3 hc1, Bool.true_or]; decide) | exact absurd hnr (by unfold zisNR; rw [zbq3 hc2, Bool.or_true]; decide)
    · skip
      skip
      exact z_throw C (i := 120) (E := 2) (by decide +kernel) (by decide +kernel) (by decide +kernel) he (Nat.le_of_ble_eq_true rfl) ⟨Nat.le_refl _, Nat.le_refl _⟩

set_option maxRecDepth 100000 in
theorem kc7 : Cond.constant "PolyglotPierLaw" 7 610031 ∈ lw_tbl := by decide +kernel
set_option maxRecDepth 100000 in
theorem kc8 : Cond.constant "PolyglotPierLaw" 8 2147483647 ∈ lw_tbl := by decide +kernel
set_option maxRecDepth 100000 in
theorem kc108 : Cond.constantLong "PolyglotPierLaw" 108 193 ∈ lw_tbl := by decide +kernel
set_option maxRecDepth 100000 in
theorem kc110 : Cond.constantLong "PolyglotPierLaw" 110 31 ∈ lw_tbl := by decide +kernel
theorem zcellin {N k : Nat} (hN : N < 2 ^ 31) (h : ¬ xCmp .ge (nI k) (nI N)) (hk : k < 1000) : vp_in (nI k) N := vp_in_nI (by
  by_cases q : k < N
  · exact q
  · exact absurd (nI_le (a := N) (b := k) (by omega) (by omega)) h) hN
set_option maxHeartbeats 400000 in
set_option maxRecDepth 20000 in
theorem q_cell {κ : zK} (hκ : zKg κ) {k : Nat} (hk : k < 1000) (h : zH) (hN : kN κ < 2 ^ 31) : zRq κ 126 [zs, zi (nI k)] h (fun v h' => h' = h ∧ ∃ x, v = some (zi x)) 0 0 := by
  refine zRq_of hκ (by decide) (by decide +kernel) (Nat.le_of_ble_eq_true rfl) fun ω C hK he => ?_
  have hN : kN (oK ω) < 2 ^ 31 := by rw [hK]; exact hN
  refine z_iloadn C rfl rfl ?_
  refine z_sloadn C rfl rfl ?_
  refine z_slen C (by decide +kernel) ?_
  refine z_icmp C rfl (fun hc1 => ?_) (fun hc1 => ?_)
  · skip
    skip
    refine z_ldci C (by decide +kernel) kc7 ?_
    refine z_iloadn C rfl rfl ?_
    refine z_imul C rfl ?_
    refine z_bipush C rfl ?_
    refine z_iadd C rfl ?_
    exact z_ireturnq C rfl he ⟨Nat.le_refl _, Nat.le_refl _⟩ rfl ⟨rfl, _, rfl⟩
  · skip
    skip
    refine z_sloadn C rfl rfl ?_
    refine z_iloadn C rfl rfl ?_
    refine z_sld C (by decide +kernel) (zcellin hN hc1 hk) ?_
    refine z_goto C rfl ?_
    exact z_ireturnq C rfl he ⟨Nat.le_refl _, Nat.le_refl _⟩ rfl ⟨rfl, _, rfl⟩

theorem zsubL {a b : Nat} (h : b ≤ a) : nI a - nI b = nI (a - b) := zsubN h
theorem zlow_r {x : Int32} {n : Nat} (h0 : 0 < n) (hn : n < 1000) : ∃ j, j < n ∧ (x &&& 2147483647) - (x &&& 2147483647) / nI n * nI n = nI j := by
  obtain ⟨y, hy, e⟩ := pk_andE x (m := 2147483647) 31 (by decide)
  have e : x &&& 2147483647 = nI y := e
  have hy : y < 2 ^ 31 := hy
  rw [e]
  refine ⟨y % n, Nat.mod_lt _ h0, ?_⟩
  have e1 : nI y / nI n = nI (y / n) := by
    refine Int32.toInt_inj.mp ?_
    rw [Int32.toInt_div_of_ne_right _ _ (by rw [show (-1 : Int32) = Int32.ofInt (-1) from rfl]; intro q; have := congrArg Int32.toInt q; rw [nI_toInt (by omega)] at this; exact absurd this (by rw [show (Int32.ofInt (-1)).toInt = -1 from by decide]; omega)), nI_toInt hy, nI_toInt (by omega), nI_toInt (Nat.lt_of_le_of_lt (Nat.div_le_self _ _) hy)]
    exact Int.ofNat_tdiv y n
  have hd := Nat.div_add_mod y n
  have e2 : nI (y / n) * nI n = nI (y / n * n) := (Int32.ofNat_mul _ _).symm
  rw [e1, e2, zsubL (Nat.div_mul_le_self y n)]
  congr 1
  have := Nat.mod_def y n
  rw [Nat.mul_comm] at this
  exact this.symm
set_option maxHeartbeats 400000 in
set_option maxRecDepth 20000 in
theorem q_low {κ : zK} (hκ : zKg κ) {x : Int32} {n : Nat} (h0 : 0 < n) (hn : n < 1000) (h : zH) : zRq κ 127 [zi x, zi (nI n)] h (fun v h' => h' = h ∧ ∃ j, j < n ∧ v = some (zi (nI j))) 0 0 := by
  refine zRq_of hκ (by decide) (by decide +kernel) (Nat.le_of_ble_eq_true rfl) fun ω C hK he => ?_
  refine z_iloadn C rfl rfl ?_
  refine z_ldci C (by decide +kernel) kc8 ?_
  refine z_iand C rfl ?_
  refine z_iloadn C rfl rfl ?_
  refine z_irem C rfl (nI_ne0 h0 (by omega)) ?_
  exact z_ireturnq C rfl he ⟨Nat.le_refl _, Nat.le_refl _⟩ rfl (by obtain ⟨j, hj, e⟩ := zlow_r (x := x) h0 hn; exact ⟨rfl, j, hj, by rw [← e]⟩)

