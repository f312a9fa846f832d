/-! the border -/
def zisW (x : UInt64) (s : Int32) : Bool := if ¬ s = 0 then false else if Op.cmpValue (FP.dcmp x 14114281232179134464) .g < 0 then false else if ¬ Op.cmpValue (FP.dcmp x 4890909195324358656) .l < 0 then false else if Op.cmpValue (FP.dcmp x FP.dconst0) .l = 0 then decide (¬ Op.cmpValue (FP.dcmp (FP.ddiv FP.dconst1 x) FP.dconst0) .l ≤ 0) else decide (Op.cmpValue (FP.dcmp (FP.l2d (FP.d2l x)) x) .l = 0)
def zta (h : zH) (k : Nat) : Int32 × zH := if h.1 k 0 = 100 then ((Int32.ofInt (Int.ofNat 0)), h) else if 0 ≤ Op.cmpValue (FP.dcmp (FP.l2d (h.2.1 k 3)) 4890909195324358656) .l then ((Int32.ofInt (Int.ofNat 4)), h) else if FP.d2l (FP.l2d (h.2.1 k 3)) = h.2.1 k 3 then ((Int32.ofInt (Int.ofNat 0)), zbReal h k (FP.l2d (h.2.1 k 3))) else ((Int32.ofInt (Int.ofNat 4)), h)
def ztc (h : zH) (k : Nat) : Int32 × zH := if h.1 k 0 = 100 then (if zisW (h.2.2.1 k 1) (h.1 k 2) = true then ((Int32.ofInt (Int.ofNat 0)), zbWhole h k (Int32.ofInt (Int.ofNat 106)) (FP.d2l (h.2.2.1 k 1))) else ((Int32.ofInt (Int.ofNat 4)), h)) else ((Int32.ofInt (Int.ofNat 0)), zbWhole h k (Int32.ofInt (Int.ofNat 106)) (h.2.1 k 3))
def zinB (x : UInt64) (s : Int32) : Bool := zisW x s && (decide (¬ Op.cmpValue (FP.dcmp x 13970166044103278592) .l < 0) && decide (¬ 0 < Op.cmpValue (FP.dcmp x 4746794007244308480) .g))
def ztb (h : zH) (k : Nat) : Int32 × zH := if h.1 k 0 = 100 then ((Int32.ofInt (Int.ofNat 0)), if zinB (h.2.2.1 k 1) (h.1 k 2) = true then zbWhole h k (Int32.ofInt (Int.ofNat 105)) (FP.d2l (h.2.2.1 k 1)) else h) else if (h.2.1 k 3).toInt32.toInt64 = h.2.1 k 3 then ((Int32.ofInt (Int.ofNat 0)), zbWhole h k (Int32.ofInt (Int.ofNat 105)) (h.2.1 k 3)) else ((Int32.ofInt (Int.ofNat 4)), h)
set_option maxHeartbeats 800000 in
set_option maxRecDepth 20000 in
theorem c_isW {κ : zK} (hκ : zKg κ) {k : Nat} (hS : zS k = (0, 6, 6)) (h : zH) : zRet κ 4 [zr (some k)] h (some (zi (zB (zisW (h.2.2.1 k 1) (h.1 k 2))))) h 0 0 := by
  refine zRet_of hκ (by decide) (by decide +kernel) (Nat.le_of_ble_eq_true rfl) fun ω C hK he => ?_
  refine z_aloadn C rfl rfl ?_
  refine z_getd C rfl hS rfl ?_
  refine z_dstoren C rfl ?_
  refine z_aloadn C rfl rfl ?_
  refine z_geti C rfl hS rfl ?_
  refine z_if C rfl (fun hc1 => ?_) (fun hc1 => ?_)
  · skip
    skip
    refine z_iconst C rfl ?_
    exact z_zreturn C rfl (zER_eq he (by first | rfl | simp_all [xCmp, zisW, zlt1, zle1, zB0, zBt, zBf]) (by first | rfl | simp_all [xCmp, zisW, zlt1, zle1, zB0, zBt, zBf])) ⟨Nat.le_refl _, Nat.le_refl _⟩ rfl rfl
  · skip
    skip
    refine z_dloadn C rfl rfl ?_
    refine z_ldcd C (by decide +kernel) kd65 ?_
    refine z_dcmp C rfl ?_
    refine z_if C rfl (fun hc2 => ?_) (fun hc2 => ?_)
    · skip
      skip
      refine z_iconst C rfl ?_
      exact z_zreturn C rfl (zER_eq he (by first | rfl | simp_all [xCmp, zisW, zlt1, zle1, zB0, zBt, zBf]) (by first | rfl | simp_all [xCmp, zisW, zlt1, zle1, zB0, zBt, zBf])) ⟨Nat.le_refl _, Nat.le_refl _⟩ rfl rfl
    · skip
      skip
      refine z_dloadn C rfl rfl ?_
      refine z_ldcd C (by decide +kernel) kd39 ?_
      refine z_dcmp C rfl ?_
      refine z_if C rfl (fun hc3 => ?_) (fun hc3 => ?_)
      · skip
        skip
        refine z_dloadn C rfl rfl ?_
        refine z_dconst0 C rfl ?_
        refine z_dcmp C rfl ?_
        refine z_if C rfl (fun hc4 => ?_) (fun hc4 => ?_)
        · skip
          skip
          refine z_dloadn C rfl rfl ?_
          refine z_d2l C rfl ?_
          refine z_l2d C rfl ?_
          refine z_dloadn C rfl rfl ?_
          refine z_dcmp C rfl ?_
          refine z_if C rfl (fun hc5 => ?_) (fun hc5 => ?_)
          · skip
            skip
            refine z_iconst C rfl ?_
            exact z_zreturn C rfl (zER_eq he (by first | rfl | simp_all [xCmp, zisW, zlt1, zle1, zB0, zBt, zBf]) (by first | rfl | simp_all [xCmp, zisW, zlt1, zle1, zB0, zBt, zBf])) ⟨Nat.le_refl _, Nat.le_refl _⟩ rfl rfl
          · skip
            skip
            refine z_iconst C rfl ?_
            refine z_goto C rfl ?_
            exact z_zreturn C rfl (zER_eq he (by first | rfl | simp_all [xCmp, zisW, zlt1, zle1, zB0, zBt, zBf]) (by first | rfl | simp_all [xCmp, zisW, zlt1, zle1, zB0, zBt, zBf])) ⟨Nat.le_refl _, Nat.le_refl _⟩ rfl rfl
        · skip
          skip
          refine z_dconst1 C rfl ?_
          refine z_dloadn C rfl rfl ?_
          refine z_ddiv C rfl (zdz (decide_eq_true (Decidable.of_not_not hc4))) ?_
          refine z_dconst0 C rfl ?_
          refine z_dcmp C rfl ?_
          refine z_if C rfl (fun hc6 => ?_) (fun hc6 => ?_)
          · skip
            skip
            refine z_iconst C rfl ?_
            exact z_zreturn C rfl (zER_eq he (by first | rfl | simp_all [xCmp, zisW, zlt1, zle1, zB0, zBt, zBf]) (by first | rfl | simp_all [xCmp, zisW, zlt1, zle1, zB0, zBt, zBf])) ⟨Nat.le_refl _, Nat.le_refl _⟩ rfl rfl
          · skip
            skip
            refine z_iconst C rfl ?_
            refine z_goto C rfl ?_
            exact z_zreturn C rfl (zER_eq he (by first | rfl | simp_all [xCmp, zisW, zlt1, zle1, zB0, zBt, zBf]) (by first | rfl | simp_all [xCmp, zisW, zlt1, zle1, zB0, zBt, zBf])) ⟨Nat.le_refl _, Nat.le_refl _⟩ rfl rfl
      · skip
        skip
        refine z_iconst C rfl ?_
        exact z_zreturn C rfl (zER_eq he (by first | rfl | simp_all [xCmp, zisW, zlt1, zle1, zB0, zBt, zBf]) (by first | rfl | simp_all [xCmp, zisW, zlt1, zle1, zB0, zBt, zBf])) ⟨Nat.le_refl _, Nat.le_refl _⟩ rfl rfl

set_option maxHeartbeats 800000 in
set_option maxRecDepth 20000 in
theorem c_toA {κ : zK} (hκ : zKg κ) {k : Nat} (hS : zS k = (0, 6, 6)) (h : zH) : zRet κ 1 [zr (some k)] h (some (zi (zta h k).1)) (zta h k).2 0 0 := by
  refine zRet_of hκ (by decide) (by decide +kernel) (Nat.le_of_ble_eq_true rfl) fun ω C hK he => ?_
  refine z_aloadn C rfl rfl ?_
  refine z_geti C rfl hS rfl ?_
  refine z_bipush C rfl ?_
  refine z_icmp C rfl (fun hc1 => ?_) (fun hc1 => ?_)
  · skip
    skip
    refine z_aloadn C rfl rfl ?_
    refine z_getj C rfl hS rfl ?_
    refine z_l2d C rfl ?_
    refine z_dstoren C rfl ?_
    refine z_dloadn C rfl rfl ?_
    refine z_ldcd C (by decide +kernel) kd39 ?_
    refine z_dcmp C rfl ?_
    refine z_if C rfl (fun hc2 => ?_) (fun hc2 => ?_)
    · skip
      skip
      refine z_iconst C rfl ?_
      exact z_ireturn C rfl (by first | (have e : zta h k = ((Int32.ofInt (Int.ofNat 0)), h) := (by unfold zta; simp_all [xCmp, zB0, zlc0, zlt1, zle1]); rw [e] at he; exact he) | (have e : zta h k = ((Int32.ofInt (Int.ofNat 4)), h) := (by unfold zta; simp_all [xCmp, zB0, zlc0, zlt1, zle1]); rw [e] at he; exact he) | (have e : zta h k = ((Int32.ofInt (Int.ofNat 0)), zbReal h k (FP.l2d (h.2.1 k 3))) := (by unfold zta; simp_all [xCmp, zB0, zlc0, zlt1, zle1]); rw [e] at he; exact he)) ⟨Nat.le_refl _, Nat.le_refl _⟩ rfl
    · skip
      skip
      refine z_dloadn C rfl rfl ?_
      refine z_d2l C rfl ?_
      refine z_aloadn C rfl rfl ?_
      refine z_getj C rfl hS rfl ?_
      refine z_lcmp C rfl ?_
      refine z_if C rfl (fun hc3 => ?_) (fun hc3 => ?_)
      · skip
        skip
        refine z_aloadn C rfl rfl ?_
        refine z_dloadn C rfl rfl ?_
        refine z_callv C rfl ⟨by decide, by decide⟩ hS (c_becomeReal (zKg_of C) hS _) rfl rfl (Nat.le_of_ble_eq_true rfl) ⟨Nat.le_of_ble_eq_true rfl, Nat.le_of_ble_eq_true rfl⟩ ?_
        refine z_iconst C rfl ?_
        exact z_ireturn C rfl (by first | (have e : zta h k = ((Int32.ofInt (Int.ofNat 0)), h) := (by unfold zta; simp_all [xCmp, zB0, zlc0, zlt1, zle1]); rw [e] at he; exact he) | (have e : zta h k = ((Int32.ofInt (Int.ofNat 4)), h) := (by unfold zta; simp_all [xCmp, zB0, zlc0, zlt1, zle1]); rw [e] at he; exact he) | (have e : zta h k = ((Int32.ofInt (Int.ofNat 0)), zbReal h k (FP.l2d (h.2.1 k 3))) := (by unfold zta; simp_all [xCmp, zB0, zlc0, zlt1, zle1]); rw [e] at he; exact he)) ⟨Nat.le_refl _, Nat.le_refl _⟩ rfl
      · skip
        skip
        refine z_iconst C rfl ?_
        exact z_ireturn C rfl (by first | (have e : zta h k = ((Int32.ofInt (Int.ofNat 0)), h) := (by unfold zta; simp_all [xCmp, zB0, zlc0, zlt1, zle1]); rw [e] at he; exact he) | (have e : zta h k = ((Int32.ofInt (Int.ofNat 4)), h) := (by unfold zta; simp_all [xCmp, zB0, zlc0, zlt1, zle1]); rw [e] at he; exact he) | (have e : zta h k = ((Int32.ofInt (Int.ofNat 0)), zbReal h k (FP.l2d (h.2.1 k 3))) := (by unfold zta; simp_all [xCmp, zB0, zlc0, zlt1, zle1]); rw [e] at he; exact he)) ⟨Nat.le_refl _, Nat.le_refl _⟩ rfl
  · skip
    skip
    refine z_iconst C rfl ?_
    exact z_ireturn C rfl (by first | (have e : zta h k = ((Int32.ofInt (Int.ofNat 0)), h) := (by unfold zta; simp_all [xCmp, zB0, zlc0, zlt1, zle1]); rw [e] at he; exact he) | (have e : zta h k = ((Int32.ofInt (Int.ofNat 4)), h) := (by unfold zta; simp_all [xCmp, zB0, zlc0, zlt1, zle1]); rw [e] at he; exact he) | (have e : zta h k = ((Int32.ofInt (Int.ofNat 0)), zbReal h k (FP.l2d (h.2.1 k 3))) := (by unfold zta; simp_all [xCmp, zB0, zlc0, zlt1, zle1]); rw [e] at he; exact he)) ⟨Nat.le_refl _, Nat.le_refl _⟩ rfl

set_option maxHeartbeats 800000 in
set_option maxRecDepth 20000 in
theorem c_toC {κ : zK} (hκ : zKg κ) {k : Nat} (hS : zS k = (0, 6, 6)) (h : zH) : zRet κ 3 [zr (some k)] h (some (zi (ztc h k).1)) (ztc h k).2 0 0 := by
  refine zRet_of hκ (by decide) (by decide +kernel) (Nat.le_of_ble_eq_true rfl) fun ω C hK he => ?_
  refine z_aloadn C rfl rfl ?_
  refine z_geti C rfl hS rfl ?_
  refine z_bipush C rfl ?_
  refine z_icmp C rfl (fun hc1 => ?_) (fun hc1 => ?_)
  · skip
    skip
    refine z_aloadn C rfl rfl ?_
    refine z_calls C rfl ⟨by decide, by decide, by decide⟩ (c_isW (zKg_of C) hS _) rfl rfl (Nat.le_of_ble_eq_true rfl) ⟨Nat.le_of_ble_eq_true rfl, Nat.le_of_ble_eq_true rfl⟩ ?_
    refine z_if C rfl (fun hc2 => ?_) (fun hc2 => ?_)
    · skip
      skip
      refine z_aloadn C rfl rfl ?_
      refine z_bipush C rfl ?_
      refine z_aloadn C rfl rfl ?_
      refine z_getd C rfl hS rfl ?_
      refine z_d2l C rfl ?_
      refine z_callv C rfl ⟨by decide, by decide⟩ hS (c_becomeWhole (zKg_of C) hS ⟨_, rfl, by decide, by decide⟩ _) rfl rfl (Nat.le_of_ble_eq_true rfl) ⟨Nat.le_of_ble_eq_true rfl, Nat.le_of_ble_eq_true rfl⟩ ?_
      refine z_iconst C rfl ?_
      exact z_ireturn C rfl (by first | (have e : ztc h k = ((Int32.ofInt (Int.ofNat 0)), zbWhole h k (Int32.ofInt (Int.ofNat 106)) (h.2.1 k 3)) := (by unfold ztc; simp_all [xCmp, zB0, zlc0, zlt1, zle1]); rw [e] at he; exact he) | (have e : ztc h k = ((Int32.ofInt (Int.ofNat 4)), h) := (by unfold ztc; simp_all [xCmp, zB0, zlc0, zlt1, zle1]); rw [e] at he; exact he) | (have e : ztc h k = ((Int32.ofInt (Int.ofNat 0)), zbWhole h k (Int32.ofInt (Int.ofNat 106)) (FP.d2l (h.2.2.1 k 1))) := (by unfold ztc; simp_all [xCmp, zB0, zlc0, zlt1, zle1]); rw [e] at he; exact he)) ⟨Nat.le_refl _, Nat.le_refl _⟩ rfl
    · skip
      skip
      refine z_iconst C rfl ?_
      exact z_ireturn C rfl (by first | (have e : ztc h k = ((Int32.ofInt (Int.ofNat 0)), zbWhole h k (Int32.ofInt (Int.ofNat 106)) (h.2.1 k 3)) := (by unfold ztc; simp_all [xCmp, zB0, zlc0, zlt1, zle1]); rw [e] at he; exact he) | (have e : ztc h k = ((Int32.ofInt (Int.ofNat 4)), h) := (by unfold ztc; simp_all [xCmp, zB0, zlc0, zlt1, zle1]); rw [e] at he; exact he) | (have e : ztc h k = ((Int32.ofInt (Int.ofNat 0)), zbWhole h k (Int32.ofInt (Int.ofNat 106)) (FP.d2l (h.2.2.1 k 1))) := (by unfold ztc; simp_all [xCmp, zB0, zlc0, zlt1, zle1]); rw [e] at he; exact he)) ⟨Nat.le_refl _, Nat.le_refl _⟩ rfl
  · skip
    skip
    refine z_aloadn C rfl rfl ?_
    refine z_bipush C rfl ?_
    refine z_aloadn C rfl rfl ?_
    refine z_getj C rfl hS rfl ?_
    refine z_callv C rfl ⟨by decide, by decide⟩ hS (c_becomeWhole (zKg_of C) hS ⟨_, rfl, by decide, by decide⟩ _) rfl rfl (Nat.le_of_ble_eq_true rfl) ⟨Nat.le_of_ble_eq_true rfl, Nat.le_of_ble_eq_true rfl⟩ ?_
    refine z_iconst C rfl ?_
    exact z_ireturn C rfl (by first | (have e : ztc h k = ((Int32.ofInt (Int.ofNat 0)), zbWhole h k (Int32.ofInt (Int.ofNat 106)) (h.2.1 k 3)) := (by unfold ztc; simp_all [xCmp, zB0, zlc0, zlt1, zle1]); rw [e] at he; exact he) | (have e : ztc h k = ((Int32.ofInt (Int.ofNat 4)), h) := (by unfold ztc; simp_all [xCmp, zB0, zlc0, zlt1, zle1]); rw [e] at he; exact he) | (have e : ztc h k = ((Int32.ofInt (Int.ofNat 0)), zbWhole h k (Int32.ofInt (Int.ofNat 106)) (FP.d2l (h.2.2.1 k 1))) := (by unfold ztc; simp_all [xCmp, zB0, zlc0, zlt1, zle1]); rw [e] at he; exact he)) ⟨Nat.le_refl _, Nat.le_refl _⟩ rfl

set_option maxHeartbeats 800000 in
set_option maxRecDepth 20000 in
theorem c_toB {κ : zK} (hκ : zKg κ) {k : Nat} (hS : zS k = (0, 6, 6)) (h : zH) : zRet κ 2 [zr (some k)] h (some (zi (ztb h k).1)) (ztb h k).2 0 0 := by
  refine zRet_of hκ (by decide) (by decide +kernel) (Nat.le_of_ble_eq_true rfl) fun ω C hK he => ?_
  refine z_aloadn C rfl rfl ?_
  refine z_geti C rfl hS rfl ?_
  refine z_bipush C rfl ?_
  refine z_icmp C rfl (fun hc1 => ?_) (fun hc1 => ?_)
  · skip
    skip
    refine z_aloadn C rfl rfl ?_
    refine z_getj C rfl hS rfl ?_
    refine z_l2i C rfl ?_
    refine z_i2l C rfl ?_
    refine z_aloadn C rfl rfl ?_
    refine z_getj C rfl hS rfl ?_
    refine z_lcmp C rfl ?_
    refine z_if C rfl (fun hc2 => ?_) (fun hc2 => ?_)
    · skip
      skip
      refine z_aloadn C rfl rfl ?_
      refine z_bipush C rfl ?_
      refine z_aloadn C rfl rfl ?_
      refine z_getj C rfl hS rfl ?_
      refine z_callv C rfl ⟨by decide, by decide⟩ hS (c_becomeWhole (zKg_of C) hS ⟨_, rfl, by decide, by decide⟩ _) rfl rfl (Nat.le_of_ble_eq_true rfl) ⟨Nat.le_of_ble_eq_true rfl, Nat.le_of_ble_eq_true rfl⟩ ?_
      refine z_iconst C rfl ?_
      exact z_ireturn C rfl (by first | (have e : ztb h k = ((Int32.ofInt (Int.ofNat 0)), zbWhole h k (Int32.ofInt (Int.ofNat 105)) (h.2.1 k 3)) := (by unfold ztb zinB; simp_all [xCmp, zB0, zlc0, zlt1, zle1]); rw [e] at he; exact he) | (have e : ztb h k = ((Int32.ofInt (Int.ofNat 4)), h) := (by unfold ztb zinB; simp_all [xCmp, zB0, zlc0, zlt1, zle1]); rw [e] at he; exact he) | (have e : ztb h k = ((Int32.ofInt (Int.ofNat 0)), zbWhole h k (Int32.ofInt (Int.ofNat 105)) (FP.d2l (h.2.2.1 k 1))) := (by unfold ztb zinB; simp_all [xCmp, zB0, zlc0, zlt1, zle1]); rw [e] at he; exact he) | (have e : ztb h k = ((Int32.ofInt (Int.ofNat 0)), h) := (by unfold ztb zinB; simp_all [xCmp, zB0, zlc0, zlt1, zle1]); rw [e] at he; exact he)) ⟨Nat.le_refl _, Nat.le_refl _⟩ rfl
    · skip
      skip
      refine z_iconst C rfl ?_
      exact z_ireturn C rfl (by first | (have e : ztb h k = ((Int32.ofInt (Int.ofNat 0)), zbWhole h k (Int32.ofInt (Int.ofNat 105)) (h.2.1 k 3)) := (by unfold ztb zinB; simp_all [xCmp, zB0, zlc0, zlt1, zle1]); rw [e] at he; exact he) | (have e : ztb h k = ((Int32.ofInt (Int.ofNat 4)), h) := (by unfold ztb zinB; simp_all [xCmp, zB0, zlc0, zlt1, zle1]); rw [e] at he; exact he) | (have e : ztb h k = ((Int32.ofInt (Int.ofNat 0)), zbWhole h k (Int32.ofInt (Int.ofNat 105)) (FP.d2l (h.2.2.1 k 1))) := (by unfold ztb zinB; simp_all [xCmp, zB0, zlc0, zlt1, zle1]); rw [e] at he; exact he) | (have e : ztb h k = ((Int32.ofInt (Int.ofNat 0)), h) := (by unfold ztb zinB; simp_all [xCmp, zB0, zlc0, zlt1, zle1]); rw [e] at he; exact he)) ⟨Nat.le_refl _, Nat.le_refl _⟩ rfl
  · skip
    skip
    refine z_aloadn C rfl rfl ?_
    refine z_calls C rfl ⟨by decide, by decide, by decide⟩ (c_isW (zKg_of C) hS _) rfl rfl (Nat.le_of_ble_eq_true rfl) ⟨Nat.le_of_ble_eq_true rfl, Nat.le_of_ble_eq_true rfl⟩ ?_
    refine z_if C rfl (fun hc3 => ?_) (fun hc3 => ?_)
    · skip
      skip
      refine z_iconst C rfl ?_
      refine z_istoren C rfl ?_
      refine z_iloadn C rfl rfl ?_
      refine z_if C rfl (fun hc4 => ?_) (fun hc4 => ?_)
      · skip
        skip
        refine z_iconst C rfl ?_
        exact z_ireturn C rfl (by first | (have e : ztb h k = ((Int32.ofInt (Int.ofNat 0)), zbWhole h k (Int32.ofInt (Int.ofNat 105)) (h.2.1 k 3)) := (by unfold ztb zinB; simp_all [xCmp, zB0, zlc0, zlt1, zle1]); rw [e] at he; exact he) | (have e : ztb h k = ((Int32.ofInt (Int.ofNat 4)), h) := (by unfold ztb zinB; simp_all [xCmp, zB0, zlc0, zlt1, zle1]); rw [e] at he; exact he) | (have e : ztb h k = ((Int32.ofInt (Int.ofNat 0)), zbWhole h k (Int32.ofInt (Int.ofNat 105)) (FP.d2l (h.2.2.1 k 1))) := (by unfold ztb zinB; simp_all [xCmp, zB0, zlc0, zlt1, zle1]); rw [e] at he; exact he) | (have e : ztb h k = ((Int32.ofInt (Int.ofNat 0)), h) := (by unfold ztb zinB; simp_all [xCmp, zB0, zlc0, zlt1, zle1]); rw [e] at he; exact he)) ⟨Nat.le_refl _, Nat.le_refl _⟩ rfl
      · skip
        skip
        refine z_aloadn C rfl rfl ?_
        refine z_bipush C rfl ?_
        refine z_aloadn C rfl rfl ?_
        refine z_getd C rfl hS rfl ?_
        refine z_d2l C rfl ?_
        refine z_callv C rfl ⟨by decide, by decide⟩ hS (c_becomeWhole (zKg_of C) hS ⟨_, rfl, by decide, by decide⟩ _) rfl rfl (Nat.le_of_ble_eq_true rfl) ⟨Nat.le_of_ble_eq_true rfl, Nat.le_of_ble_eq_true rfl⟩ ?_
        refine z_iconst C rfl ?_
        exact z_ireturn C rfl (by first | (have e : ztb h k = ((Int32.ofInt (Int.ofNat 0)), zbWhole h k (Int32.ofInt (Int.ofNat 105)) (h.2.1 k 3)) := (by unfold ztb zinB; simp_all [xCmp, zB0, zlc0, zlt1, zle1]); rw [e] at he; exact he) | (have e : ztb h k = ((Int32.ofInt (Int.ofNat 4)), h) := (by unfold ztb zinB; simp_all [xCmp, zB0, zlc0, zlt1, zle1]); rw [e] at he; exact he) | (have e : ztb h k = ((Int32.ofInt (Int.ofNat 0)), zbWhole h k (Int32.ofInt (Int.ofNat 105)) (FP.d2l (h.2.2.1 k 1))) := (by unfold ztb zinB; simp_all [xCmp, zB0, zlc0, zlt1, zle1]); rw [e] at he; exact he) | (have e : ztb h k = ((Int32.ofInt (Int.ofNat 0)), h) := (by unfold ztb zinB; simp_all [xCmp, zB0, zlc0, zlt1, zle1]); rw [e] at he; exact he)) ⟨Nat.le_refl _, Nat.le_refl _⟩ rfl
    · skip
      skip
      refine z_aloadn C rfl rfl ?_
      refine z_getd C rfl hS rfl ?_
      refine z_ldcd C (by decide +kernel) kd53 ?_
      refine z_dcmp C rfl ?_
      refine z_if C rfl (fun hc5 => ?_) (fun hc5 => ?_)
      · skip
        skip
        refine z_iconst C rfl ?_
        refine z_istoren C rfl ?_
        refine z_iloadn C rfl rfl ?_
        refine z_if C rfl (fun hc6 => ?_) (fun hc6 => ?_)
        · skip
          skip
          refine z_iconst C rfl ?_
          exact z_ireturn C rfl (by first | (have e : ztb h k = ((Int32.ofInt (Int.ofNat 0)), zbWhole h k (Int32.ofInt (Int.ofNat 105)) (h.2.1 k 3)) := (by unfold ztb zinB; simp_all [xCmp, zB0, zlc0, zlt1, zle1]); rw [e] at he; exact he) | (have e : ztb h k = ((Int32.ofInt (Int.ofNat 4)), h) := (by unfold ztb zinB; simp_all [xCmp, zB0, zlc0, zlt1, zle1]); rw [e] at he; exact he) | (have e : ztb h k = ((Int32.ofInt (Int.ofNat 0)), zbWhole h k (Int32.ofInt (Int.ofNat 105)) (FP.d2l (h.2.2.1 k 1))) := (by unfold ztb zinB; simp_all [xCmp, zB0, zlc0, zlt1, zle1]); rw [e] at he; exact he) | (have e : ztb h k = ((Int32.ofInt (Int.ofNat 0)), h) := (by unfold ztb zinB; simp_all [xCmp, zB0, zlc0, zlt1, zle1]); rw [e] at he; exact he)) ⟨Nat.le_refl _, Nat.le_refl _⟩ rfl
        · skip
          skip
          refine z_aloadn C rfl rfl ?_
          refine z_bipush C rfl ?_
          refine z_aloadn C rfl rfl ?_
          refine z_getd C rfl hS rfl ?_
          refine z_d2l C rfl ?_
          refine z_callv C rfl ⟨by decide, by decide⟩ hS (c_becomeWhole (zKg_of C) hS ⟨_, rfl, by decide, by decide⟩ _) rfl rfl (Nat.le_of_ble_eq_true rfl) ⟨Nat.le_of_ble_eq_true rfl, Nat.le_of_ble_eq_true rfl⟩ ?_
          refine z_iconst C rfl ?_
          exact z_ireturn C rfl (by first | (have e : ztb h k = ((Int32.ofInt (Int.ofNat 0)), zbWhole h k (Int32.ofInt (Int.ofNat 105)) (h.2.1 k 3)) := (by unfold ztb zinB; simp_all [xCmp, zB0, zlc0, zlt1, zle1]); rw [e] at he; exact he) | (have e : ztb h k = ((Int32.ofInt (Int.ofNat 4)), h) := (by unfold ztb zinB; simp_all [xCmp, zB0, zlc0, zlt1, zle1]); rw [e] at he; exact he) | (have e : ztb h k = ((Int32.ofInt (Int.ofNat 0)), zbWhole h k (Int32.ofInt (Int.ofNat 105)) (FP.d2l (h.2.2.1 k 1))) := (by unfold ztb zinB; simp_all [xCmp, zB0, zlc0, zlt1, zle1]); rw [e] at he; exact he) | (have e : ztb h k = ((Int32.ofInt (Int.ofNat 0)), h) := (by unfold ztb zinB; simp_all [xCmp, zB0, zlc0, zlt1, zle1]); rw [e] at he; exact he)) ⟨Nat.le_refl _, Nat.le_refl _⟩ rfl
      · skip
        skip
        refine z_aloadn C rfl rfl ?_
        refine z_getd C rfl hS rfl ?_
        refine z_ldcd C (by decide +kernel) kd55 ?_
        refine z_dcmp C rfl ?_
        refine z_if C rfl (fun hc7 => ?_) (fun hc7 => ?_)
        · skip
          skip
          refine z_iconst C rfl ?_
          refine z_istoren C rfl ?_
          refine z_iloadn C rfl rfl ?_
          refine z_if C rfl (fun hc8 => ?_) (fun hc8 => ?_)
          · skip
            skip
            refine z_iconst C rfl ?_
            exact z_ireturn C rfl (by first | (have e : ztb h k = ((Int32.ofInt (Int.ofNat 0)), zbWhole h k (Int32.ofInt (Int.ofNat 105)) (h.2.1 k 3)) := (by unfold ztb zinB; simp_all [xCmp, zB0, zlc0, zlt1, zle1]); rw [e] at he; exact he) | (have e : ztb h k = ((Int32.ofInt (Int.ofNat 4)), h) := (by unfold ztb zinB; simp_all [xCmp, zB0, zlc0, zlt1, zle1]); rw [e] at he; exact he) | (have e : ztb h k = ((Int32.ofInt (Int.ofNat 0)), zbWhole h k (Int32.ofInt (Int.ofNat 105)) (FP.d2l (h.2.2.1 k 1))) := (by unfold ztb zinB; simp_all [xCmp, zB0, zlc0, zlt1, zle1]); rw [e] at he; exact he) | (have e : ztb h k = ((Int32.ofInt (Int.ofNat 0)), h) := (by unfold ztb zinB; simp_all [xCmp, zB0, zlc0, zlt1, zle1]); rw [e] at he; exact he)) ⟨Nat.le_refl _, Nat.le_refl _⟩ rfl
          · skip
            skip
            refine z_aloadn C rfl rfl ?_
            refine z_bipush C rfl ?_
            refine z_aloadn C rfl rfl ?_
            refine z_getd C rfl hS rfl ?_
            refine z_d2l C rfl ?_
            refine z_callv C rfl ⟨by decide, by decide⟩ hS (c_becomeWhole (zKg_of C) hS ⟨_, rfl, by decide, by decide⟩ _) rfl rfl (Nat.le_of_ble_eq_true rfl) ⟨Nat.le_of_ble_eq_true rfl, Nat.le_of_ble_eq_true rfl⟩ ?_
            refine z_iconst C rfl ?_
            exact z_ireturn C rfl (by first | (have e : ztb h k = ((Int32.ofInt (Int.ofNat 0)), zbWhole h k (Int32.ofInt (Int.ofNat 105)) (h.2.1 k 3)) := (by unfold ztb zinB; simp_all [xCmp, zB0, zlc0, zlt1, zle1]); rw [e] at he; exact he) | (have e : ztb h k = ((Int32.ofInt (Int.ofNat 4)), h) := (by unfold ztb zinB; simp_all [xCmp, zB0, zlc0, zlt1, zle1]); rw [e] at he; exact he) | (have e : ztb h k = ((Int32.ofInt (Int.ofNat 0)), zbWhole h k (Int32.ofInt (Int.ofNat 105)) (FP.d2l (h.2.2.1 k 1))) := (by unfold ztb zinB; simp_all [xCmp, zB0, zlc0, zlt1, zle1]); rw [e] at he; exact he) | (have e : ztb h k = ((Int32.ofInt (Int.ofNat 0)), h) := (by unfold ztb zinB; simp_all [xCmp, zB0, zlc0, zlt1, zle1]); rw [e] at he; exact he)) ⟨Nat.le_refl _, Nat.le_refl _⟩ rfl
        · skip
          skip
          refine z_iconst C rfl ?_
          refine z_goto C rfl ?_
          refine z_istoren C rfl ?_
          refine z_iloadn C rfl rfl ?_
          refine z_if C rfl (fun hc9 => ?_) (fun hc9 => ?_)
          · skip
            skip
            refine z_iconst C rfl ?_
            exact z_ireturn C rfl (by first | (have e : ztb h k = ((Int32.ofInt (Int.ofNat 0)), zbWhole h k (Int32.ofInt (Int.ofNat 105)) (h.2.1 k 3)) := (by unfold ztb zinB; simp_all [xCmp, zB0, zlc0, zlt1, zle1]); rw [e] at he; exact he) | (have e : ztb h k = ((Int32.ofInt (Int.ofNat 4)), h) := (by unfold ztb zinB; simp_all [xCmp, zB0, zlc0, zlt1, zle1]); rw [e] at he; exact he) | (have e : ztb h k = ((Int32.ofInt (Int.ofNat 0)), zbWhole h k (Int32.ofInt (Int.ofNat 105)) (FP.d2l (h.2.2.1 k 1))) := (by unfold ztb zinB; simp_all [xCmp, zB0, zlc0, zlt1, zle1]); rw [e] at he; exact he) | (have e : ztb h k = ((Int32.ofInt (Int.ofNat 0)), h) := (by unfold ztb zinB; simp_all [xCmp, zB0, zlc0, zlt1, zle1]); rw [e] at he; exact he)) ⟨Nat.le_refl _, Nat.le_refl _⟩ rfl
          · skip
            skip
            refine z_aloadn C rfl rfl ?_
            refine z_bipush C rfl ?_
            refine z_aloadn C rfl rfl ?_
            refine z_getd C rfl hS rfl ?_
            refine z_d2l C rfl ?_
            refine z_callv C rfl ⟨by decide, by decide⟩ hS (c_becomeWhole (zKg_of C) hS ⟨_, rfl, by decide, by decide⟩ _) rfl rfl (Nat.le_of_ble_eq_true rfl) ⟨Nat.le_of_ble_eq_true rfl, Nat.le_of_ble_eq_true rfl⟩ ?_
            refine z_iconst C rfl ?_
            exact z_ireturn C rfl (by first | (have e : ztb h k = ((Int32.ofInt (Int.ofNat 0)), zbWhole h k (Int32.ofInt (Int.ofNat 105)) (h.2.1 k 3)) := (by unfold ztb zinB; simp_all [xCmp, zB0, zlc0, zlt1, zle1]); rw [e] at he; exact he) | (have e : ztb h k = ((Int32.ofInt (Int.ofNat 4)), h) := (by unfold ztb zinB; simp_all [xCmp, zB0, zlc0, zlt1, zle1]); rw [e] at he; exact he) | (have e : ztb h k = ((Int32.ofInt (Int.ofNat 0)), zbWhole h k (Int32.ofInt (Int.ofNat 105)) (FP.d2l (h.2.2.1 k 1))) := (by unfold ztb zinB; simp_all [xCmp, zB0, zlc0, zlt1, zle1]); rw [e] at he; exact he) | (have e : ztb h k = ((Int32.ofInt (Int.ofNat 0)), h) := (by unfold ztb zinB; simp_all [xCmp, zB0, zlc0, zlt1, zle1]); rw [e] at he; exact he)) ⟨Nat.le_refl _, Nat.le_refl _⟩ rfl

