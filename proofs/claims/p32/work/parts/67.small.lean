/-! compares of values -/
def zdeq (x y : UInt64) : Bool := decide (Op.cmpValue (FP.dcmp x y) .l = 0)
def zdlt (x y : UInt64) : Bool := decide (Op.cmpValue (FP.dcmp x y) .g < 0)
theorem zlc0 {x y : Int64} : (lg_cmp x y = 0) = (x = y) := by
  unfold lg_cmp
  by_cases h1 : x > y
  · rw [if_pos h1]
    have h2 : ¬ x = y := fun e => by rw [e] at h1; exact absurd h1 (Int64.lt_irrefl)
    simp [h2]
  · rw [if_neg h1]
    by_cases h2 : x = y
    · simp [h2]
    · simp [h2]
theorem zlcl {x y : Int64} : (lg_cmp x y < 0) = (x < y) := by
  unfold lg_cmp
  by_cases h1 : x > y
  · rw [if_pos h1]
    have h2 : ¬ x < y := fun e => absurd (Int64.lt_trans h1 e) (Int64.lt_irrefl)
    simp [h2]
  · rw [if_neg h1]
    by_cases h2 : x = y
    · subst h2
      simp
    · have h3 : x < y := by
        rcases Int64.lt_or_le x y with q | q
        · exact q
        · rcases Int64.lt_or_eq_of_le q with q | q
          · exact absurd q h1
          · exact absurd q.symm h2
      simp [h2, h3]
theorem zBt : zB true = 1 := rfl
theorem zBf : zB false = 0 := rfl
theorem zlcge {x y : Int64} : (0 ≤ lg_cmp x y) = (y ≤ x) := propext (lg_cmp_ge x y)
theorem zltf64 {x y : Int64} (h : y ≤ x) : ¬ x < y := Int64.not_lt.mpr h
def zisZ (h : zH) (k : Nat) : Bool := if h.1 k 0 = 100 then decide (h.1 k 2 = 0) && zdeq (h.2.2.1 k 1) FP.dconst0 else (zisNo (h.1 k 0) || (zisNum (h.1 k 0) && decide (h.2.1 k 3 = 0)))
def zsameN (h : zH) (k o : Nat) : Bool := if h.1 k 2 = 0 ∧ h.1 o 2 = 0 then (if h.1 k 0 = 100 ∨ h.1 o 0 = 100 then zdeq (zasD h k) (zasD h o) else decide (h.2.1 k 3 = h.2.1 o 3)) else false
def zless (h : zH) (k o : Nat) : Bool := if h.1 k 2 = 0 ∧ h.1 o 2 = 0 then (if h.1 k 0 = 100 ∨ h.1 o 0 = 100 then zdlt (zasD h k) (zasD h o) else decide (h.2.1 k 3 < h.2.1 o 3)) else false
set_option maxHeartbeats 4000000 in
set_option maxRecDepth 20000 in
theorem c_isZ {κ : zK} (hκ : zKg κ) {k : Nat} (hS : zS k = (0, 6, 6)) (h : zH) : zRet κ 83 [zr (some k)] h (some (zi (zB (zisZ h k)))) h 0 0 := by
  refine zRet_of hκ (by decide) (by decide +kernel) (Nat.le_of_ble_eq_true rfl) fun ω C hK he => ?_
  refine z_aloadn C rfl rfl ?_
  refine z_geti C rfl (by first | assumption | rfl | decide) rfl ?_
  refine z_bipush C rfl ?_
  refine z_icmp C rfl (fun hc1 => ?_) (fun hc1 => ?_)
  · skip
    skip
    refine z_aloadn C rfl rfl ?_
    refine z_callv C rfl ⟨by decide, by decide⟩ (by first | assumption | rfl | decide) (c_isNothing (zKg_of C) hS _) rfl rfl (Nat.le_of_ble_eq_true rfl) ⟨Nat.le_of_ble_eq_true rfl, Nat.le_of_ble_eq_true rfl⟩ ?_
    refine z_if C rfl (fun hc2 => ?_) (fun hc2 => ?_)
    · skip
      skip
      refine z_iconst C rfl ?_
      refine z_goto C rfl ?_
      exact z_zreturn C rfl (zER_eq he (by first | rfl | simp_all [xCmp, zisZ, zdeq, zlc0, zB0, zBt, zBf]) (by first | rfl | simp_all [xCmp, zisZ, zdeq, zlc0, zB0, zBt, zBf])) ⟨Nat.le_refl _, Nat.le_refl _⟩ rfl rfl
    · skip
      skip
      refine z_aloadn C rfl rfl ?_
      refine z_callv C rfl ⟨by decide, by decide⟩ (by first | assumption | rfl | decide) (c_isNumber (zKg_of C) hS _) rfl rfl (Nat.le_of_ble_eq_true rfl) ⟨Nat.le_of_ble_eq_true rfl, Nat.le_of_ble_eq_true rfl⟩ ?_
      refine z_if C rfl (fun hc3 => ?_) (fun hc3 => ?_)
      · skip
        skip
        refine z_iconst C rfl ?_
        exact z_zreturn C rfl (zER_eq he (by first | rfl | simp_all [xCmp, zisZ, zdeq, zlc0, zB0, zBt, zBf]) (by first | rfl | simp_all [xCmp, zisZ, zdeq, zlc0, zB0, zBt, zBf])) ⟨Nat.le_refl _, Nat.le_refl _⟩ rfl rfl
      · skip
        skip
        refine z_aloadn C rfl rfl ?_
        refine z_getj C rfl (by first | assumption | rfl | decide) rfl ?_
        refine z_lconst C rfl ?_
        refine z_lcmp C rfl ?_
        refine z_if C rfl (fun hc4 => ?_) (fun hc4 => ?_)
        · skip
          skip
          refine z_iconst C rfl ?_
          exact z_zreturn C rfl (zER_eq he (by first | rfl | simp_all [xCmp, zisZ, zdeq, zlc0, zB0, zBt, zBf]) (by first | rfl | simp_all [xCmp, zisZ, zdeq, zlc0, zB0, zBt, zBf])) ⟨Nat.le_refl _, Nat.le_refl _⟩ rfl rfl
        · skip
          skip
          refine z_iconst C rfl ?_
          refine z_goto C rfl ?_
          exact z_zreturn C rfl (zER_eq he (by first | rfl | simp_all [xCmp, zisZ, zdeq, zlc0, zB0, zBt, zBf]) (by first | rfl | simp_all [xCmp, zisZ, zdeq, zlc0, zB0, zBt, zBf])) ⟨Nat.le_refl _, Nat.le_refl _⟩ rfl rfl
  · skip
    skip
    refine z_aloadn C rfl rfl ?_
    refine z_geti C rfl (by first | assumption | rfl | decide) rfl ?_
    refine z_if C rfl (fun hc5 => ?_) (fun hc5 => ?_)
    · skip
      skip
      refine z_iconst C rfl ?_
      exact z_zreturn C rfl (zER_eq he (by first | rfl | simp_all [xCmp, zisZ, zdeq, zlc0, zB0, zBt, zBf]) (by first | rfl | simp_all [xCmp, zisZ, zdeq, zlc0, zB0, zBt, zBf])) ⟨Nat.le_refl _, Nat.le_refl _⟩ rfl rfl
    · skip
      skip
      refine z_aloadn C rfl rfl ?_
      refine z_getd C rfl (by first | assumption | rfl | decide) rfl ?_
      refine z_dconst0 C rfl ?_
      refine z_dcmp C rfl ?_
      refine z_if C rfl (fun hc6 => ?_) (fun hc6 => ?_)
      · skip
        skip
        refine z_iconst C rfl ?_
        exact z_zreturn C rfl (zER_eq he (by first | rfl | simp_all [xCmp, zisZ, zdeq, zlc0, zB0, zBt, zBf]) (by first | rfl | simp_all [xCmp, zisZ, zdeq, zlc0, zB0, zBt, zBf])) ⟨Nat.le_refl _, Nat.le_refl _⟩ rfl rfl
      · skip
        skip
        refine z_iconst C rfl ?_
        refine z_goto C rfl ?_
        exact z_zreturn C rfl (zER_eq he (by first | rfl | simp_all [xCmp, zisZ, zdeq, zlc0, zB0, zBt, zBf]) (by first | rfl | simp_all [xCmp, zisZ, zdeq, zlc0, zB0, zBt, zBf])) ⟨Nat.le_refl _, Nat.le_refl _⟩ rfl rfl

set_option maxHeartbeats 4000000 in
set_option maxRecDepth 20000 in
theorem c_sameN {κ : zK} (hκ : zKg κ) {k o : Nat} (hS : zS k = (0, 6, 6)) (hS2 : zS o = (0, 6, 6)) (h : zH) : zRet κ 87 [zr (some k), zr (some o)] h (some (zi (zB (zsameN h k o)))) h 0 0 := by
  refine zRet_of hκ (by decide) (by decide +kernel) (Nat.le_of_ble_eq_true rfl) fun ω C hK he => ?_
  refine z_aloadn C rfl rfl ?_
  refine z_geti C rfl (by first | assumption | rfl | decide) rfl ?_
  refine z_if C rfl (fun hc1 => ?_) (fun hc1 => ?_)
  · skip
    skip
    refine z_iconst C rfl ?_
    exact z_zreturn C rfl (zER_eq he (by simp_all [xCmp, zsameN, zdeq, zlc0, zB]) rfl) ⟨Nat.le_refl _, Nat.le_refl _⟩ rfl rfl
  · skip
    skip
    refine z_aloadn C rfl rfl ?_
    refine z_geti C rfl (by first | assumption | rfl | decide) rfl ?_
    refine z_if C rfl (fun hc2 => ?_) (fun hc2 => ?_)
    · skip
      skip
      refine z_aloadn C rfl rfl ?_
      refine z_geti C rfl (by first | assumption | rfl | decide) rfl ?_
      refine z_bipush C rfl ?_
      refine z_icmp C rfl (fun hc3 => ?_) (fun hc3 => ?_)
      · skip
        skip
        refine z_aloadn C rfl rfl ?_
        refine z_callv C rfl ⟨by decide, by decide⟩ (by first | assumption | rfl | decide) (c_asDouble (zKg_of C) hS _) rfl rfl (Nat.le_of_ble_eq_true rfl) ⟨Nat.le_of_ble_eq_true rfl, Nat.le_of_ble_eq_true rfl⟩ ?_
        refine z_aloadn C rfl rfl ?_
        refine z_callv C rfl ⟨by decide, by decide⟩ (by first | assumption | rfl | decide) (c_asDouble (zKg_of C) hS2 _) rfl rfl (Nat.le_of_ble_eq_true rfl) ⟨Nat.le_of_ble_eq_true rfl, Nat.le_of_ble_eq_true rfl⟩ ?_
        refine z_dcmp C rfl ?_
        refine z_if C rfl (fun hc4 => ?_) (fun hc4 => ?_)
        · skip
          skip
          refine z_iconst C rfl ?_
          exact z_zreturn C rfl (zER_eq he (by simp_all [xCmp, zsameN, zdeq, zlc0, zB]) rfl) ⟨Nat.le_refl _, Nat.le_refl _⟩ rfl rfl
        · skip
          skip
          refine z_iconst C rfl ?_
          refine z_goto C rfl ?_
          exact z_zreturn C rfl (zER_eq he (by simp_all [xCmp, zsameN, zdeq, zlc0, zB]) rfl) ⟨Nat.le_refl _, Nat.le_refl _⟩ rfl rfl
      · skip
        skip
        refine z_aloadn C rfl rfl ?_
        refine z_geti C rfl (by first | assumption | rfl | decide) rfl ?_
        refine z_bipush C rfl ?_
        refine z_icmp C rfl (fun hc5 => ?_) (fun hc5 => ?_)
        · skip
          skip
          refine z_aloadn C rfl rfl ?_
          refine z_getj C rfl (by first | assumption | rfl | decide) rfl ?_
          refine z_aloadn C rfl rfl ?_
          refine z_getj C rfl (by first | assumption | rfl | decide) rfl ?_
          refine z_lcmp C rfl ?_
          refine z_if C rfl (fun hc6 => ?_) (fun hc6 => ?_)
          · skip
            skip
            refine z_iconst C rfl ?_
            exact z_zreturn C rfl (zER_eq he (by simp_all [xCmp, zsameN, zdeq, zlc0, zB]) rfl) ⟨Nat.le_refl _, Nat.le_refl _⟩ rfl rfl
          · skip
            skip
            refine z_iconst C rfl ?_
            refine z_goto C rfl ?_
            exact z_zreturn C rfl (zER_eq he (by simp_all [xCmp, zsameN, zdeq, zlc0, zB]) rfl) ⟨Nat.le_refl _, Nat.le_refl _⟩ rfl rfl
        · skip
          skip
          refine z_aloadn C rfl rfl ?_
          refine z_callv C rfl ⟨by decide, by decide⟩ (by first | assumption | rfl | decide) (c_asDouble (zKg_of C) hS _) rfl rfl (Nat.le_of_ble_eq_true rfl) ⟨Nat.le_of_ble_eq_true rfl, Nat.le_of_ble_eq_true rfl⟩ ?_
          refine z_aloadn C rfl rfl ?_
          refine z_callv C rfl ⟨by decide, by decide⟩ (by first | assumption | rfl | decide) (c_asDouble (zKg_of C) hS2 _) rfl rfl (Nat.le_of_ble_eq_true rfl) ⟨Nat.le_of_ble_eq_true rfl, Nat.le_of_ble_eq_true rfl⟩ ?_
          refine z_dcmp C rfl ?_
          refine z_if C rfl (fun hc7 => ?_) (fun hc7 => ?_)
          · skip
            skip
            refine z_iconst C rfl ?_
            exact z_zreturn C rfl (zER_eq he (by simp_all [xCmp, zsameN, zdeq, zlc0, zB]) rfl) ⟨Nat.le_refl _, Nat.le_refl _⟩ rfl rfl
          · skip
            skip
            refine z_iconst C rfl ?_
            refine z_goto C rfl ?_
            exact z_zreturn C rfl (zER_eq he (by simp_all [xCmp, zsameN, zdeq, zlc0, zB]) rfl) ⟨Nat.le_refl _, Nat.le_refl _⟩ rfl rfl
    · skip
      skip
      refine z_iconst C rfl ?_
      exact z_zreturn C rfl (zER_eq he (by simp_all [xCmp, zsameN, zdeq, zlc0, zB]) rfl) ⟨Nat.le_refl _, Nat.le_refl _⟩ rfl rfl

set_option maxHeartbeats 4000000 in
set_option maxRecDepth 20000 in
theorem c_less {κ : zK} (hκ : zKg κ) {k o : Nat} (hS : zS k = (0, 6, 6)) (hS2 : zS o = (0, 6, 6)) (h : zH) : zRet κ 88 [zr (some k), zr (some o)] h (some (zi (zB (zless h k o)))) h 0 0 := by
  refine zRet_of hκ (by decide) (by decide +kernel) (Nat.le_of_ble_eq_true rfl) fun ω C hK he => ?_
  refine z_aloadn C rfl rfl ?_
  refine z_geti C rfl (by first | assumption | rfl | decide) rfl ?_
  refine z_if C rfl (fun hc1 => ?_) (fun hc1 => ?_)
  · skip
    skip
    refine z_iconst C rfl ?_
    exact z_zreturn C rfl (zER_eq he (by first | rfl | simp_all [xCmp, zless, zdlt, zlcl, zltf, zlef, zlcge, zltf64, zB0, zBt, zBf]) (by first | rfl | simp_all [xCmp, zless, zdlt, zlcl, zltf, zlef, zlcge, zltf64, zB0, zBt, zBf])) ⟨Nat.le_refl _, Nat.le_refl _⟩ rfl rfl
  · skip
    skip
    refine z_aloadn C rfl rfl ?_
    refine z_geti C rfl (by first | assumption | rfl | decide) rfl ?_
    refine z_if C rfl (fun hc2 => ?_) (fun hc2 => ?_)
    · skip
      skip
      refine z_aloadn C rfl rfl ?_
      refine z_geti C rfl (by first | assumption | rfl | decide) rfl ?_
      refine z_bipush C rfl ?_
      refine z_icmp C rfl (fun hc3 => ?_) (fun hc3 => ?_)
      · skip
        skip
        refine z_aloadn C rfl rfl ?_
        refine z_callv C rfl ⟨by decide, by decide⟩ (by first | assumption | rfl | decide) (c_asDouble (zKg_of C) hS _) rfl rfl (Nat.le_of_ble_eq_true rfl) ⟨Nat.le_of_ble_eq_true rfl, Nat.le_of_ble_eq_true rfl⟩ ?_
        refine z_aloadn C rfl rfl ?_
        refine z_callv C rfl ⟨by decide, by decide⟩ (by first | assumption | rfl | decide) (c_asDouble (zKg_of C) hS2 _) rfl rfl (Nat.le_of_ble_eq_true rfl) ⟨Nat.le_of_ble_eq_true rfl, Nat.le_of_ble_eq_true rfl⟩ ?_
        refine z_dcmp C rfl ?_
        refine z_if C rfl (fun hc4 => ?_) (fun hc4 => ?_)
        · skip
          skip
          refine z_iconst C rfl ?_
          exact z_zreturn C rfl (zER_eq he (by first | rfl | simp_all [xCmp, zless, zdlt, zlcl, zltf, zlef, zlcge, zltf64, zB0, zBt, zBf]) (by first | rfl | simp_all [xCmp, zless, zdlt, zlcl, zltf, zlef, zlcge, zltf64, zB0, zBt, zBf])) ⟨Nat.le_refl _, Nat.le_refl _⟩ rfl rfl
        · skip
          skip
          refine z_iconst C rfl ?_
          refine z_goto C rfl ?_
          exact z_zreturn C rfl (zER_eq he (by first | rfl | simp_all [xCmp, zless, zdlt, zlcl, zltf, zlef, zlcge, zltf64, zB0, zBt, zBf]) (by first | rfl | simp_all [xCmp, zless, zdlt, zlcl, zltf, zlef, zlcge, zltf64, zB0, zBt, zBf])) ⟨Nat.le_refl _, Nat.le_refl _⟩ rfl rfl
      · skip
        skip
        refine z_aloadn C rfl rfl ?_
        refine z_geti C rfl (by first | assumption | rfl | decide) rfl ?_
        refine z_bipush C rfl ?_
        refine z_icmp C rfl (fun hc5 => ?_) (fun hc5 => ?_)
        · skip
          skip
          refine z_aloadn C rfl rfl ?_
          refine z_getj C rfl (by first | assumption | rfl | decide) rfl ?_
          refine z_aloadn C rfl rfl ?_
          refine z_getj C rfl (by first | assumption | rfl | decide) rfl ?_
          refine z_lcmp C rfl ?_
          refine z_if C rfl (fun hc6 => ?_) (fun hc6 => ?_)
          · skip
            skip
            refine z_iconst C rfl ?_
            exact z_zreturn C rfl (zER_eq he (by first | rfl | simp_all [xCmp, zless, zdlt, zlcl, zltf, zlef, zlcge, zltf64, zB0, zBt, zBf]) (by first | rfl | simp_all [xCmp, zless, zdlt, zlcl, zltf, zlef, zlcge, zltf64, zB0, zBt, zBf])) ⟨Nat.le_refl _, Nat.le_refl _⟩ rfl rfl
          · skip
            skip
            refine z_iconst C rfl ?_
            refine z_goto C rfl ?_
            exact z_zreturn C rfl (zER_eq he (by first | rfl | simp_all [xCmp, zless, zdlt, zlcl, zltf, zlef, zlcge, zltf64, zB0, zBt, zBf]) (by first | rfl | simp_all [xCmp, zless, zdlt, zlcl, zltf, zlef, zlcge, zltf64, zB0, zBt, zBf])) ⟨Nat.le_refl _, Nat.le_refl _⟩ rfl rfl
        · skip
          skip
          refine z_aloadn C rfl rfl ?_
          refine z_callv C rfl ⟨by decide, by decide⟩ (by first | assumption | rfl | decide) (c_asDouble (zKg_of C) hS _) rfl rfl (Nat.le_of_ble_eq_true rfl) ⟨Nat.le_of_ble_eq_true rfl, Nat.le_of_ble_eq_true rfl⟩ ?_
          refine z_aloadn C rfl rfl ?_
          refine z_callv C rfl ⟨by decide, by decide⟩ (by first | assumption | rfl | decide) (c_asDouble (zKg_of C) hS2 _) rfl rfl (Nat.le_of_ble_eq_true rfl) ⟨Nat.le_of_ble_eq_true rfl, Nat.le_of_ble_eq_true rfl⟩ ?_
          refine z_dcmp C rfl ?_
          refine z_if C rfl (fun hc7 => ?_) (fun hc7 => ?_)
          · skip
            skip
            refine z_iconst C rfl ?_
            exact z_zreturn C rfl (zER_eq he (by first | rfl | simp_all [xCmp, zless, zdlt, zlcl, zltf, zlef, zlcge, zltf64, zB0, zBt, zBf]) (by first | rfl | simp_all [xCmp, zless, zdlt, zlcl, zltf, zlef, zlcge, zltf64, zB0, zBt, zBf])) ⟨Nat.le_refl _, Nat.le_refl _⟩ rfl rfl
          · skip
            skip
            refine z_iconst C rfl ?_
            refine z_goto C rfl ?_
            exact z_zreturn C rfl (zER_eq he (by first | rfl | simp_all [xCmp, zless, zdlt, zlcl, zltf, zlef, zlcge, zltf64, zB0, zBt, zBf]) (by first | rfl | simp_all [xCmp, zless, zdlt, zlcl, zltf, zlef, zlcge, zltf64, zB0, zBt, zBf])) ⟨Nat.le_refl _, Nat.le_refl _⟩ rfl rfl
    · skip
      skip
      refine z_iconst C rfl ?_
      exact z_zreturn C rfl (zER_eq he (by first | rfl | simp_all [xCmp, zless, zdlt, zlcl, zltf, zlef, zlcge, zltf64, zB0, zBt, zBf]) (by first | rfl | simp_all [xCmp, zless, zdlt, zlcl, zltf, zlef, zlcge, zltf64, zB0, zBt, zBf])) ⟨Nat.le_refl _, Nat.le_refl _⟩ rfl rfl

