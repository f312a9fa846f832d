/-! what is sound -/
def zwir (h : zH) (k : Nat) : Bool := if h.1 k 0 = 116 then (if zisRef h k = true then (match h.2.2.2 k 5 with | none => false | some t => decide ((h.1 t 0).toInt64 = h.2.1 k 3)) else false) else true
def zallF (h : zH) (r : Nat) : Nat → Nat → Bool
  | 0, _ => true
  | m + 1, i => zwir h (32 + 5 * r + i) && zallF h r m (i + 1)
def zsnd (h : zH) (r : Nat) : Bool := zallF h r 3 0 && (decide (¬ h.1 (30 + 5 * r) 1 = 0) || decide (0 < zown h (30 + 5 * r)))
def zallG (h : zH) : Nat → Nat → Bool
  | 0, _ => true
  | m + 1, i => zwir h (6 + i) && zallG h m (i + 1)
def zsn1 (h : zH) (i : Nat) : Bool := if h.1 (30 + 5 * i) 0 < 0 then true else zsnd h i
def zallM (h : zH) : Nat → Nat → Bool
  | 0, _ => true
  | m + 1, i => zsn1 h i && zallM h m (i + 1)
def zhold (h : zH) : Bool := zallG h 24 0 && zallM h 60 0
set_option maxHeartbeats 600000 in
set_option maxRecDepth 20000 in
theorem c_wir {κ : zK} (hκ : zKg κ) {k : Nat} (hS : zS k = (0, 6, 6)) (h : zH) (hw : zWk h) : zRet κ 33 [zr (some k)] h (some (zi (zB (zwir h k)))) h 0 0 := by
  refine zRet_of hκ (by decide) (by decide +kernel) (Nat.le_of_ble_eq_true rfl) fun ω C hK he => ?_
  refine z_aloadn C rfl rfl ?_
  refine z_geti C rfl hS rfl ?_
  refine z_bipush C rfl ?_
  refine z_icmp C rfl (fun hc1 => ?_) (fun hc1 => ?_)
  · skip
    skip
    refine z_iconst C rfl ?_
    refine z_goto C rfl ?_
    exact z_zreturn C rfl (by first | (have q1 : ¬ h.1 k 0 = 116 := hc1; have e : zwir h k = true := if_neg q1; rw [e] at he; exact he) | (have q1 : h.1 k 0 = 116 := Decidable.of_not_not hc1; have q2 : zisRef h k = false := Eq.mp zB0 hc2; have e : zwir h k = false := (by unfold zwir; rw [if_pos q1, q2]; rfl); rw [e] at he; exact he) | (have q1 : h.1 k 0 = 116 := Decidable.of_not_not hc1; have q3 : ¬ (h.1 t 0).toInt64 = h.2.1 k 3 := (fun w => hc3 (Eq.mpr zlc0 w)); have e : zwir h k = false := (by unfold zwir; rw [if_pos q1, if_pos (zbt hc2), ht]; exact decide_eq_false q3); rw [e] at he; exact he) | (have q1 : h.1 k 0 = 116 := Decidable.of_not_not hc1; have q3 : (h.1 t 0).toInt64 = h.2.1 k 3 := Eq.mp zlc0 (Decidable.of_not_not hc3); have e : zwir h k = true := (by unfold zwir; rw [if_pos q1, if_pos (zbt hc2), ht]; exact decide_eq_true q3); rw [e] at he; exact he)) ⟨Nat.le_refl _, Nat.le_refl _⟩ rfl rfl
  · skip
    skip
    refine z_aloadn C rfl rfl ?_
    refine z_callv C rfl ⟨by decide, by decide⟩ hS (c_isReference (zKg_of C) hS _) rfl rfl (Nat.le_of_ble_eq_true rfl) ⟨Nat.le_of_ble_eq_true rfl, Nat.le_of_ble_eq_true rfl⟩ ?_
    refine z_if C rfl (fun hc2 => ?_) (fun hc2 => ?_)
    · skip
      skip
      refine z_iconst C rfl ?_
      exact z_zreturn C rfl (by first | (have q1 : ¬ h.1 k 0 = 116 := hc1; have e : zwir h k = true := if_neg q1; rw [e] at he; exact he) | (have q1 : h.1 k 0 = 116 := Decidable.of_not_not hc1; have q2 : zisRef h k = false := Eq.mp zB0 hc2; have e : zwir h k = false := (by unfold zwir; rw [if_pos q1, q2]; rfl); rw [e] at he; exact he) | (have q1 : h.1 k 0 = 116 := Decidable.of_not_not hc1; have q3 : ¬ (h.1 t 0).toInt64 = h.2.1 k 3 := (fun w => hc3 (Eq.mpr zlc0 w)); have e : zwir h k = false := (by unfold zwir; rw [if_pos q1, if_pos (zbt hc2), ht]; exact decide_eq_false q3); rw [e] at he; exact he) | (have q1 : h.1 k 0 = 116 := Decidable.of_not_not hc1; have q3 : (h.1 t 0).toInt64 = h.2.1 k 3 := Eq.mp zlc0 (Decidable.of_not_not hc3); have e : zwir h k = true := (by unfold zwir; rw [if_pos q1, if_pos (zbt hc2), ht]; exact decide_eq_true q3); rw [e] at he; exact he)) ⟨Nat.le_refl _, Nat.le_refl _⟩ rfl rfl
    · skip
      skip
      refine z_aloadn C rfl rfl ?_
      obtain ⟨t, ht, hth⟩ := zref_t hw.1 hS (zbt hc2)
      refine z_gets C rfl hS rfl ht ?_
      refine z_geti C rfl (zTh_S hth) rfl ?_
      refine z_i2l C rfl ?_
      refine z_aloadn C rfl rfl ?_
      refine z_getj C rfl hS rfl ?_
      refine z_lcmp C rfl ?_
      refine z_if C rfl (fun hc3 => ?_) (fun hc3 => ?_)
      · skip
        skip
        refine z_iconst C rfl ?_
        exact z_zreturn C rfl (by first | (have q1 : ¬ h.1 k 0 = 116 := hc1; have e : zwir h k = true := if_neg q1; rw [e] at he; exact he) | (have q1 : h.1 k 0 = 116 := Decidable.of_not_not hc1; have q2 : zisRef h k = false := Eq.mp zB0 hc2; have e : zwir h k = false := (by unfold zwir; rw [if_pos q1, q2]; rfl); rw [e] at he; exact he) | (have q1 : h.1 k 0 = 116 := Decidable.of_not_not hc1; have q3 : ¬ (h.1 t 0).toInt64 = h.2.1 k 3 := (fun w => hc3 (Eq.mpr zlc0 w)); have e : zwir h k = false := (by unfold zwir; rw [if_pos q1, if_pos (zbt hc2), ht]; exact decide_eq_false q3); rw [e] at he; exact he) | (have q1 : h.1 k 0 = 116 := Decidable.of_not_not hc1; have q3 : (h.1 t 0).toInt64 = h.2.1 k 3 := Eq.mp zlc0 (Decidable.of_not_not hc3); have e : zwir h k = true := (by unfold zwir; rw [if_pos q1, if_pos (zbt hc2), ht]; exact decide_eq_true q3); rw [e] at he; exact he)) ⟨Nat.le_refl _, Nat.le_refl _⟩ rfl rfl
      · skip
        skip
        refine z_iconst C rfl ?_
        refine z_goto C rfl ?_
        exact z_zreturn C rfl (by first | (have q1 : ¬ h.1 k 0 = 116 := hc1; have e : zwir h k = true := if_neg q1; rw [e] at he; exact he) | (have q1 : h.1 k 0 = 116 := Decidable.of_not_not hc1; have q2 : zisRef h k = false := Eq.mp zB0 hc2; have e : zwir h k = false := (by unfold zwir; rw [if_pos q1, q2]; rfl); rw [e] at he; exact he) | (have q1 : h.1 k 0 = 116 := Decidable.of_not_not hc1; have q3 : ¬ (h.1 t 0).toInt64 = h.2.1 k 3 := (fun w => hc3 (Eq.mpr zlc0 w)); have e : zwir h k = false := (by unfold zwir; rw [if_pos q1, if_pos (zbt hc2), ht]; exact decide_eq_false q3); rw [e] at he; exact he) | (have q1 : h.1 k 0 = 116 := Decidable.of_not_not hc1; have q3 : (h.1 t 0).toInt64 = h.2.1 k 3 := Eq.mp zlc0 (Decidable.of_not_not hc3); have e : zwir h k = true := (by unfold zwir; rw [if_pos q1, if_pos (zbt hc2), ht]; exact decide_eq_true q3); rw [e] at he; exact he)) ⟨Nat.le_refl _, Nat.le_refl _⟩ rfl rfl

set_option maxHeartbeats 600000 in
theorem l_snd {ω : zO} (C : zX ω 32) {r : Nat} (hr : r < 60) {h : zH} (hw : zWk h) : ∀ (m i : Nat), i + m = 3 → (zallF h r m i = true → ZG ω 32 36 [(0, zr (some (30 + 5 * r)))] [] h 0 0) → (zallF h r m i = false → zER ω (some (zi (Int32.ofInt (Int.ofNat 0)))) h 0 0) → ZG ω 32 10 [(3, zi (nI i)), (2, zi (nI 3)), (1, zr (some (31 + 5 * r))), (0, zr (some (30 + 5 * r)))] [] h 0 0 := by
  intro m
  induction m with
  | zero =>
    intro i hi hT hF
    obtain rfl : i = 3 := by omega
    refine z_iloadn C rfl rfl ?_
    refine z_iloadn C rfl rfl ?_
    refine z_icmp C rfl (fun hc => ?_) (fun hc => absurd (Int32.le_refl _) hc)
    exact z_ll [(0, zr (some (30 + 5 * r)))] ⟨rfl, trivial⟩ (hT rfl)
  | succ m ih =>
    intro i hi hT hF
    have hiN : i < 3 := by omega
    refine z_iloadn C rfl rfl ?_
    refine z_iloadn C rfl rfl ?_
    refine z_icmp C rfl (fun hc => absurd hc (nI_ge hiN (by decide))) (fun hc => ?_)
    refine z_aloadn C rfl rfl ?_
    refine z_iloadn C rfl rfl ?_
    refine z_aalds C rfl (zS_tarr r hr) (by decide) (by decide) (zin hiN (by decide)) (by rw [zclamp hiN (by decide)]; exact (hw.1.1.2.2.2.2.2.1 r hr).2.2 i hiN) ?_
    refine z_astore C rfl ?_
    refine z_aload C rfl rfl ?_
    refine z_calls C rfl ⟨by decide, by decide, by decide⟩ (c_wir (zKg_of C) (zS_tval r hr i hiN) _ hw) rfl rfl (Nat.le_of_ble_eq_true rfl) ⟨Nat.le_of_ble_eq_true rfl, Nat.le_of_ble_eq_true rfl⟩ ?_
    refine z_if C rfl (fun hc1 => ?_) (fun hc1 => ?_)
    · skip
      skip
      refine z_iinc C rfl rfl ?_
      refine z_goto C rfl ?_
      first
        | (have e1 : zwir h (32 + 5 * r + i) = true := (zbt hc1); exact z_ll [(3, zi (nI (i + 1))), (2, zi (nI 3)), (1, zr (some (31 + 5 * r))), (0, zr (some (30 + 5 * r)))] ⟨znx i, rfl, rfl, rfl, trivial⟩ (ih (i + 1) (by omega) (fun q => hT (by rw [zallF, e1]; exact q)) (fun q => hF (by rw [zallF, e1]; exact q))))
    · skip
      skip
      refine z_iconst C rfl ?_
      exact z_zreturn C rfl (hF (by have e1 : zwir h (32 + 5 * r + i) = false := (Eq.mp zB0 (Decidable.of_not_not hc1)); rw [zallF, e1]; rfl)) ⟨Nat.le_refl _, Nat.le_refl _⟩ rfl rfl
set_option maxHeartbeats 600000 in
set_option maxRecDepth 20000 in
theorem c_snd {κ : zK} (hκ : zKg κ) {r : Nat} (hr : r < 60) (h : zH) (hw : zWk h) : zRet κ 32 [zr (some (30 + 5 * r))] h (some (zi (zB (zsnd h r)))) h 0 0 := by
  refine zRet_of hκ (by decide) (by decide +kernel) (Nat.le_of_ble_eq_true rfl) fun ω C hK he => ?_
  refine z_aloadn C rfl rfl ?_
  refine z_gets C rfl (zS_thing r hr) rfl (hw.1.1.2.2.2.2.2.1 r hr).2.1 ?_
  refine z_astoren C rfl ?_
  refine z_aloadn C rfl rfl ?_
  refine z_alen C rfl (zS_tarr r hr) (by decide) ?_
  refine z_istoren C rfl ?_
  refine z_iconst C rfl ?_
  refine z_istoren C rfl ?_
  refine z_ll [(3, zi (nI 0)), (2, zi (nI 3)), (1, zr (some (31 + 5 * r))), (0, zr (some (30 + 5 * r)))] ⟨rfl, rfl, rfl, rfl, trivial⟩ (l_snd C hr hw 3 0 rfl (fun hq => ?_) (fun hq => (by have e : zsnd h r = false := (by unfold zsnd; rw [hq]; rfl); rw [e] at he; exact he)))
  refine z_aloadn C rfl rfl ?_
  refine z_geti C rfl (zS_thing r hr) rfl ?_
  refine z_if C rfl (fun hc1 => ?_) (fun hc1 => ?_)
  · skip
    skip
    refine z_iconst C rfl ?_
    refine z_goto C rfl ?_
    exact z_zreturn C rfl (by first | (have e : zsnd h r = true := (by unfold zsnd; rw [hq]; simp_all [xCmp, zgt0]); rw [e] at he; exact he) | (have e : zsnd h r = false := (by unfold zsnd; rw [hq]; simp_all [xCmp, zgt0]); rw [e] at he; exact he)) ⟨Nat.le_refl _, Nat.le_refl _⟩ rfl rfl
  · skip
    skip
    refine z_aloadn C rfl rfl ?_
    refine z_callv C rfl ⟨by decide, by decide⟩ (zS_thing r hr) (c_ownCount (zKg_of C) (zS_thing r hr) _) rfl rfl (Nat.le_of_ble_eq_true rfl) ⟨Nat.le_of_ble_eq_true rfl, Nat.le_of_ble_eq_true rfl⟩ ?_
    refine z_if C rfl (fun hc2 => ?_) (fun hc2 => ?_)
    · skip
      skip
      refine z_iconst C rfl ?_
      exact z_zreturn C rfl (by first | (have e : zsnd h r = true := (by unfold zsnd; rw [hq]; simp_all [xCmp, zgt0]); rw [e] at he; exact he) | (have e : zsnd h r = false := (by unfold zsnd; rw [hq]; simp_all [xCmp, zgt0]); rw [e] at he; exact he)) ⟨Nat.le_refl _, Nat.le_refl _⟩ rfl rfl
    · skip
      skip
      refine z_iconst C rfl ?_
      refine z_goto C rfl ?_
      exact z_zreturn C rfl (by first | (have e : zsnd h r = true := (by unfold zsnd; rw [hq]; simp_all [xCmp, zgt0]); rw [e] at he; exact he) | (have e : zsnd h r = false := (by unfold zsnd; rw [hq]; simp_all [xCmp, zgt0]); rw [e] at he; exact he)) ⟨Nat.le_refl _, Nat.le_refl _⟩ rfl rfl

set_option maxHeartbeats 600000 in
theorem l_hG {ω : zO} (C : zX ω 31) {h : zH} (hw : zWk h) : ∀ (m i : Nat), i + m = 24 → (zallG h m i = true → ZG ω 31 40 [(0, zr (some 2))] [] h 0 0) → (zallG h m i = false → zER ω (some (zi (Int32.ofInt (Int.ofNat 0)))) h 0 0) → ZG ω 31 14 [(3, zi (nI i)), (2, zi (nI 24)), (1, zr (some 3)), (0, zr (some 2))] [] h 0 0 := by
  intro m
  induction m with
  | zero =>
    intro i hi hT hF
    obtain rfl : i = 24 := by omega
    refine z_iloadn C rfl rfl ?_
    refine z_iloadn C rfl rfl ?_
    refine z_icmp C rfl (fun hc => ?_) (fun hc => absurd (Int32.le_refl _) hc)
    exact z_ll [(0, zr (some 2))] ⟨rfl, trivial⟩ (hT rfl)
  | succ m ih =>
    intro i hi hT hF
    have hiN : i < 24 := by omega
    refine z_iloadn C rfl rfl ?_
    refine z_iloadn C rfl rfl ?_
    refine z_icmp C rfl (fun hc => absurd hc (nI_ge hiN (by decide))) (fun hc => ?_)
    refine z_aloadn C rfl rfl ?_
    refine z_iloadn C rfl rfl ?_
    refine z_aalds C rfl zS_3 (by decide) (by decide) (zin hiN (by decide)) (by rw [zclamp hiN (by decide)]; exact hw.1.1.2.2.2.2.1 i hiN) ?_
    refine z_astore C rfl ?_
    refine z_aload C rfl rfl ?_
    refine z_calls C rfl ⟨by decide, by decide, by decide⟩ (c_wir (zKg_of C) (zS_val24 i hiN) _ hw) rfl rfl (Nat.le_of_ble_eq_true rfl) ⟨Nat.le_of_ble_eq_true rfl, Nat.le_of_ble_eq_true rfl⟩ ?_
    refine z_if C rfl (fun hc1 => ?_) (fun hc1 => ?_)
    · skip
      skip
      refine z_iinc C rfl rfl ?_
      refine z_goto C rfl ?_
      first
        | (have e1 : zwir h (6 + i) = true := (zbt hc1); exact z_ll [(3, zi (nI (i + 1))), (2, zi (nI 24)), (1, zr (some 3)), (0, zr (some 2))] ⟨znx i, rfl, rfl, rfl, trivial⟩ (ih (i + 1) (by omega) (fun q => hT (by rw [zallG, e1]; exact q)) (fun q => hF (by rw [zallG, e1]; exact q))))
    · skip
      skip
      refine z_iconst C rfl ?_
      exact z_zreturn C rfl (hF (by have e1 : zwir h (6 + i) = false := (Eq.mp zB0 (Decidable.of_not_not hc1)); rw [zallG, e1]; rfl)) ⟨Nat.le_refl _, Nat.le_refl _⟩ rfl rfl
set_option maxHeartbeats 600000 in
theorem l_hM {ω : zO} (C : zX ω 31) {h : zH} (hw : zWk h) : ∀ (m i : Nat), i + m = 60 → (zallM h m i = true → ZG ω 31 84 [] [] h 0 0) → (zallM h m i = false → zER ω (some (zi (Int32.ofInt (Int.ofNat 0)))) h 0 0) → ZG ω 31 50 [(3, zi (nI i)), (2, zi (nI 60)), (1, zr (some 4)), (0, zr (some 2))] [] h 0 0 := by
  intro m
  induction m with
  | zero =>
    intro i hi hT hF
    obtain rfl : i = 60 := by omega
    refine z_iloadn C rfl rfl ?_
    refine z_iloadn C rfl rfl ?_
    refine z_icmp C rfl (fun hc => ?_) (fun hc => absurd (Int32.le_refl _) hc)
    exact z_ll [] trivial (hT rfl)
  | succ m ih =>
    intro i hi hT hF
    have hiN : i < 60 := by omega
    refine z_iloadn C rfl rfl ?_
    refine z_iloadn C rfl rfl ?_
    refine z_icmp C rfl (fun hc => absurd hc (nI_ge hiN (by decide))) (fun hc => ?_)
    refine z_aloadn C rfl rfl ?_
    refine z_iloadn C rfl rfl ?_
    refine z_aalds C rfl zS_4 (by decide) (by decide) (zin hiN (by decide)) (by rw [zclamp hiN (by decide)]; exact zroomR hw.1.1 hiN) ?_
    refine z_astore C rfl ?_
    refine z_aload C rfl rfl ?_
    refine z_geti C rfl (zS_thing i hiN) rfl ?_
    refine z_if C rfl (fun hc1 => ?_) (fun hc1 => ?_)
    · skip
      skip
      refine z_iinc C rfl rfl ?_
      refine z_goto C rfl ?_
      first
        | (have e1 : zsn1 h i = true := (if_pos hc1); exact z_ll [(3, zi (nI (i + 1))), (2, zi (nI 60)), (1, zr (some 4)), (0, zr (some 2))] ⟨znx i, rfl, rfl, rfl, trivial⟩ (ih (i + 1) (by omega) (fun q => hT (by rw [zallM, e1]; exact q)) (fun q => hF (by rw [zallM, e1]; exact q))))
        | (have e1 : zsn1 h i = true := ((if_neg hc1).trans (zbt hc2)); exact z_ll [(3, zi (nI (i + 1))), (2, zi (nI 60)), (1, zr (some 4)), (0, zr (some 2))] ⟨znx i, rfl, rfl, rfl, trivial⟩ (ih (i + 1) (by omega) (fun q => hT (by rw [zallM, e1]; exact q)) (fun q => hF (by rw [zallM, e1]; exact q))))
    · skip
      skip
      refine z_aload C rfl rfl ?_
      refine z_calls C rfl ⟨by decide, by decide, by decide⟩ (c_snd (zKg_of C) hiN _ hw) rfl rfl (Nat.le_of_ble_eq_true rfl) ⟨Nat.le_of_ble_eq_true rfl, Nat.le_of_ble_eq_true rfl⟩ ?_
      refine z_if C rfl (fun hc2 => ?_) (fun hc2 => ?_)
      · skip
        skip
        refine z_iinc C rfl rfl ?_
        refine z_goto C rfl ?_
        first
          | (have e1 : zsn1 h i = true := (if_pos hc1); exact z_ll [(3, zi (nI (i + 1))), (2, zi (nI 60)), (1, zr (some 4)), (0, zr (some 2))] ⟨znx i, rfl, rfl, rfl, trivial⟩ (ih (i + 1) (by omega) (fun q => hT (by rw [zallM, e1]; exact q)) (fun q => hF (by rw [zallM, e1]; exact q))))
          | (have e1 : zsn1 h i = true := ((if_neg hc1).trans (zbt hc2)); exact z_ll [(3, zi (nI (i + 1))), (2, zi (nI 60)), (1, zr (some 4)), (0, zr (some 2))] ⟨znx i, rfl, rfl, rfl, trivial⟩ (ih (i + 1) (by omega) (fun q => hT (by rw [zallM, e1]; exact q)) (fun q => hF (by rw [zallM, e1]; exact q))))
      · skip
        skip
        refine z_iconst C rfl ?_
        exact z_zreturn C rfl (hF (by have e1 : zsn1 h i = false := ((if_neg hc1).trans (Eq.mp zB0 (Decidable.of_not_not hc2))); rw [zallM, e1]; rfl)) ⟨Nat.le_refl _, Nat.le_refl _⟩ rfl rfl
set_option maxHeartbeats 600000 in
set_option maxRecDepth 20000 in
theorem c_hold {κ : zK} (hκ : zKg κ)  (h : zH) (hw : zWk h) : zRet κ 31 [zr (some 2)] h (some (zi (zB (zhold (ztally h))))) (ztally h) 0 0 := by
  refine zRet_of hκ (by decide) (by decide +kernel) (Nat.le_of_ble_eq_true rfl) fun ω C hK he => ?_
  refine z_aloadn C rfl rfl ?_
  refine z_callv C rfl ⟨by decide, by decide⟩ zS_2 (c_tally (zKg_of C) _ hw.1) rfl rfl (Nat.le_of_ble_eq_true rfl) ⟨Nat.le_of_ble_eq_true rfl, Nat.le_of_ble_eq_true rfl⟩ ?_
  have hw1 := zK_tally hw
  refine z_aloadn C rfl rfl ?_
  refine z_gets C rfl zS_2 rfl hw1.1.1.2.2.1.1 ?_
  refine z_astoren C rfl ?_
  refine z_aloadn C rfl rfl ?_
  refine z_alen C rfl zS_3 (by decide) ?_
  refine z_istoren C rfl ?_
  refine z_iconst C rfl ?_
  refine z_istoren C rfl ?_
  refine z_ll [(3, zi (nI 0)), (2, zi (nI 24)), (1, zr (some 3)), (0, zr (some 2))] ⟨rfl, rfl, rfl, rfl, trivial⟩ (l_hG C hw1 24 0 rfl (fun hq => ?_) (fun hq => (by have e : zhold (ztally h) = false := (by unfold zhold; rw [hq]; rfl); rw [e] at he; exact he)))
  refine z_aloadn C rfl rfl ?_
  refine z_gets C rfl zS_2 rfl hw1.1.1.2.2.1.2.1 ?_
  refine z_astoren C rfl ?_
  refine z_aloadn C rfl rfl ?_
  refine z_alen C rfl zS_4 (by decide) ?_
  refine z_istoren C rfl ?_
  refine z_iconst C rfl ?_
  refine z_istoren C rfl ?_
  refine z_ll [(3, zi (nI 0)), (2, zi (nI 60)), (1, zr (some 4)), (0, zr (some 2))] ⟨rfl, rfl, rfl, rfl, trivial⟩ (l_hM C hw1 60 0 rfl (fun hq2 => ?_) (fun hq2 => (by have e : zhold (ztally h) = false := (by unfold zhold; rw [hq, hq2]; rfl); rw [e] at he; exact he)))
  refine z_iconst C rfl ?_
  exact z_zreturn C rfl (by have e : zhold (ztally h) = true := (by unfold zhold; rw [hq, hq2]; rfl); rw [e] at he; exact he) ⟨Nat.le_refl _, Nat.le_refl _⟩ rfl rfl

