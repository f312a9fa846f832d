/-! the types of what the slots hold -/
/-- kinds are chars; strange, hasProxy, isReached, guardTakesAll are booleans; the outcome is a char -/
def zTyp (I : Nat → Nat → Int32) : Prop := (∀ k, zS k = (0, 6, 6) → (0 ≤ (I k 0).toInt ∧ (I k 0).toInt < 65536) ∧ (I k 2 = 0 ∨ I k 2 = 1)) ∧ (∀ k, zS k = (0, 5, 6) → (I k 3 = 0 ∨ I k 3 = 1) ∧ (I k 5 = 0 ∨ I k 5 = 1)) ∧ (∀ k, zS k = (0, 1, 9) → I k 8 = 0 ∨ I k 8 = 1) ∧ (0 ≤ (I 1 9).toInt ∧ (I 1 9).toInt < 65536)
/-- a copy -/
def zcp (h : zH) (k o : Nat) : zH := zupR (zupI (zupJ (zupI (zupD (zupI h k 0 (h.1 o 0)) k 1 (h.2.2.1 o 1)) k 2 (h.1 o 2)) k 3 (h.2.1 o 3)) k 4 (h.1 o 4)) k 5 (h.2.2.2 o 5)
theorem zcp_eq {h : zH} {k o : Nat} : zbecome h k o = zcp h k o := by
  have e2 : (zb1 h k o).1 o 2 = h.1 o 2 := zupI_ne (fun q => absurd q.2 (by decide))
  have e4 : (zb3 h k o).1 o 4 = h.1 o 4 := by
    show (zupI (zb1 h k o) k 2 ((zb1 h k o).1 o 2)).1 o 4 = h.1 o 4
    rw [zupI_ne (fun q => absurd q.2 (by decide))]
    exact zupI_ne (fun q => absurd q.2 (by decide))
  unfold zbecome zb4
  rw [e4]
  unfold zb3 zb2
  rw [e2]
  rfl
def zbNum (h : zH) (k : Nat) (l x : Int32) : zH := if l = 0 then zbReal h k (FP.i2d x) else zbWhole h k (if l = 1 then 105 else 106) x.toInt64
def zbEsc (h : zH) (k : Nat) (x : Int64) (p : Int32) : zH := zupI (zbWhole h k 107 x) k 4 p
def zbRef (h : zH) (k t : Nat) : zH := zupR (zbWhole h k 116 (h.1 t 0).toInt64) k 5 (some t)
def zasD (h : zH) (k : Nat) : UInt64 := if h.1 k 0 = 100 then h.2.2.1 k 1 else FP.l2d (h.2.1 k 3)
def znoOf (l : Int32) : Int32 := if l = 0 then 117 else if l = 1 then 110 else 101
theorem zltf {x n : Int32} (h : n ≤ x) : ¬ x < n := Int32.not_lt.mpr h
theorem zlef {x n : Int32} (h : x < n) : ¬ n ≤ x := Int32.not_le.mpr h
def zwithin (x n : Int32) : Bool := decide (0 ≤ x) && decide (x < n)
set_option maxHeartbeats 4000000 in
set_option maxRecDepth 20000 in
theorem c_become {κ : zK} (hκ : zKg κ) {k o : Nat} (hS : zS k = (0, 6, 6)) (hS2 : zS o = (0, 6, 6)) (h : zH) (hT : zTyp h.1) : zRet κ 71 [zr (some k), zr (some o)] h none (zcp h k o) 0 0 := by
  refine zRet_of hκ (by decide) (by decide +kernel) (Nat.le_of_ble_eq_true rfl) fun ω C hK he => ?_
  refine z_aloadn C rfl rfl ?_
  refine z_aloadn C rfl rfl ?_
  refine z_geti C rfl (by first | assumption | rfl | decide) rfl ?_
  refine z_puti C rfl (by first | assumption | rfl | decide) rfl ⟨_, rfl, (hT.1 o hS2).1⟩ ?_
  refine z_aloadn C rfl rfl ?_
  refine z_aloadn C rfl rfl ?_
  refine z_getd C rfl (by first | assumption | rfl | decide) rfl ?_
  refine z_putd C rfl (by first | assumption | rfl | decide) rfl ⟨_, rfl⟩ ?_
  refine z_aloadn C rfl rfl ?_
  refine z_aloadn C rfl rfl ?_
  refine z_geti C rfl (by first | assumption | rfl | decide) rfl ?_
  refine z_puti C rfl (by first | assumption | rfl | decide) rfl ⟨_, rfl, by have e : (zupI h k 0 (h.1 o 0)).1 o 2 = h.1 o 2 := zupI_ne (fun q => absurd q.2 (by decide)); have g := (hT.1 o hS2).2; rw [← e] at g; exact g⟩ ?_
  refine z_aloadn C rfl rfl ?_
  refine z_aloadn C rfl rfl ?_
  refine z_getj C rfl (by first | assumption | rfl | decide) rfl ?_
  refine z_putj C rfl (by first | assumption | rfl | decide) rfl ⟨_, rfl⟩ ?_
  refine z_aloadn C rfl rfl ?_
  refine z_aloadn C rfl rfl ?_
  refine z_geti C rfl (by first | assumption | rfl | decide) rfl ?_
  refine z_puti C rfl (by first | assumption | rfl | decide) rfl ⟨_, rfl⟩ ?_
  refine z_aloadn C rfl rfl ?_
  refine z_aloadn C rfl rfl ?_
  refine z_getr C rfl (by first | assumption | rfl | decide) rfl ?_
  refine z_putr C rfl (by first | assumption | rfl | decide) rfl ⟨_, rfl⟩ ?_
  exact z_return C rfl (zER_eq he rfl zcp_eq.symm) ⟨Nat.le_refl _, Nat.le_refl _⟩ rfl

set_option maxHeartbeats 4000000 in
set_option maxRecDepth 20000 in
theorem c_nothingOf {κ : zK} (hκ : zKg κ) {l : Int32} (h : zH) : zRet κ 119 [zi l] h (some (zi (znoOf l))) h 0 0 := by
  refine zRet_of hκ (by decide) (by decide +kernel) (Nat.le_of_ble_eq_true rfl) fun ω C hK he => ?_
  refine z_iloadn C rfl rfl ?_
  refine z_if C rfl (fun hc1 => ?_) (fun hc1 => ?_)
  · skip
    skip
    refine z_iloadn C rfl rfl ?_
    refine z_iconst C rfl ?_
    refine z_icmp C rfl (fun hc2 => ?_) (fun hc2 => ?_)
    · skip
      skip
      refine z_bipush C rfl ?_
      exact z_zreturn C rfl (zER_eq he (by simp_all [xCmp, znoOf, zB]) rfl) ⟨Nat.le_refl _, Nat.le_refl _⟩ rfl rfl
    · skip
      skip
      refine z_bipush C rfl ?_
      refine z_goto C rfl ?_
      exact z_zreturn C rfl (zER_eq he (by simp_all [xCmp, znoOf, zB]) rfl) ⟨Nat.le_refl _, Nat.le_refl _⟩ rfl rfl
  · skip
    skip
    refine z_bipush C rfl ?_
    refine z_goto C rfl ?_
    exact z_zreturn C rfl (zER_eq he (by simp_all [xCmp, znoOf, zB]) rfl) ⟨Nat.le_refl _, Nat.le_refl _⟩ rfl rfl

set_option maxHeartbeats 4000000 in
set_option maxRecDepth 20000 in
theorem c_isWithin {κ : zK} (hκ : zKg κ) {x n : Int32} (h : zH) : zRet κ 118 [zi x, zi n] h (some (zi (zB (zwithin x n)))) h 0 0 := by
  refine zRet_of hκ (by decide) (by decide +kernel) (Nat.le_of_ble_eq_true rfl) fun ω C hK he => ?_
  refine z_iloadn C rfl rfl ?_
  refine z_if C rfl (fun hc1 => ?_) (fun hc1 => ?_)
  · skip
    skip
    refine z_iconst C rfl ?_
    exact z_zreturn C rfl (zER_eq he (by simp_all [xCmp, zwithin, zltf, zlef, zB]) rfl) ⟨Nat.le_refl _, Nat.le_refl _⟩ rfl rfl
  · skip
    skip
    refine z_iloadn C rfl rfl ?_
    refine z_iloadn C rfl rfl ?_
    refine z_icmp C rfl (fun hc2 => ?_) (fun hc2 => ?_)
    · skip
      skip
      refine z_iconst C rfl ?_
      exact z_zreturn C rfl (zER_eq he (by simp_all [xCmp, zwithin, zltf, zlef, zB]) rfl) ⟨Nat.le_refl _, Nat.le_refl _⟩ rfl rfl
    · skip
      skip
      refine z_iconst C rfl ?_
      refine z_goto C rfl ?_
      exact z_zreturn C rfl (zER_eq he (by simp_all [xCmp, zwithin, zltf, zlef, zB]) rfl) ⟨Nat.le_refl _, Nat.le_refl _⟩ rfl rfl

set_option maxHeartbeats 4000000 in
set_option maxRecDepth 20000 in
theorem c_asDouble {κ : zK} (hκ : zKg κ) {k : Nat} (hS : zS k = (0, 6, 6)) (h : zH) : zRet κ 84 [zr (some k)] h (some (zd (zasD h k))) h 0 0 := by
  refine zRet_of hκ (by decide) (by decide +kernel) (Nat.le_of_ble_eq_true rfl) fun ω C hK he => ?_
  refine z_aloadn C rfl rfl ?_
  refine z_geti C rfl (by first | assumption | rfl | decide) rfl ?_
  refine z_bipush C rfl ?_
  refine z_icmp C rfl (fun hc1 => ?_) (fun hc1 => ?_)
  · skip
    skip
    refine z_aloadn C rfl rfl ?_
    refine z_getj C rfl (by first | assumption | rfl | decide) rfl ?_
    refine z_l2d C rfl ?_
    exact z_dreturn C rfl (zER_eq he (by simp_all [xCmp, zasD, zB]) rfl) ⟨Nat.le_refl _, Nat.le_refl _⟩ rfl
  · skip
    skip
    refine z_aloadn C rfl rfl ?_
    refine z_getd C rfl (by first | assumption | rfl | decide) rfl ?_
    refine z_goto C rfl ?_
    exact z_dreturn C rfl (zER_eq he (by simp_all [xCmp, zasD, zB]) rfl) ⟨Nat.le_refl _, Nat.le_refl _⟩ rfl

set_option maxHeartbeats 4000000 in
set_option maxRecDepth 20000 in
theorem c_becomeNumber {κ : zK} (hκ : zKg κ) {k : Nat} {l x : Int32} (hS : zS k = (0, 6, 6)) (h : zH) : zRet κ 75 [zr (some k), zi l, zi x] h none (zbNum h k l x) 0 0 := by
  refine zRet_of hκ (by decide) (by decide +kernel) (Nat.le_of_ble_eq_true rfl) fun ω C hK he => ?_
  refine z_iloadn C rfl rfl ?_
  refine z_if C rfl (fun hc1 => ?_) (fun hc1 => ?_)
  · skip
    skip
    refine z_aloadn C rfl rfl ?_
    refine z_iloadn C rfl rfl ?_
    refine z_iconst C rfl ?_
    refine z_icmp C rfl (fun hc2 => ?_) (fun hc2 => ?_)
    · skip
      skip
      refine z_bipush C rfl ?_
      refine z_iloadn C rfl rfl ?_
      refine z_i2l C rfl ?_
      refine z_callv C rfl ⟨by decide, by decide⟩ (by first | assumption | rfl | decide) (c_becomeWhole (zKg_of C) hS ⟨_, rfl, by decide, by decide⟩ _) rfl rfl (Nat.le_of_ble_eq_true rfl) ⟨Nat.le_of_ble_eq_true rfl, Nat.le_of_ble_eq_true rfl⟩ ?_
      exact z_return C rfl (zER_eq he (by first | rfl | simp_all [xCmp, zbNum, zB]) (by first | rfl | simp_all [xCmp, zbNum, zB])) ⟨Nat.le_refl _, Nat.le_refl _⟩ rfl
    · skip
      skip
      refine z_bipush C rfl ?_
      refine z_goto C rfl ?_
      refine z_iloadn C rfl rfl ?_
      refine z_i2l C rfl ?_
      refine z_callv C rfl ⟨by decide, by decide⟩ (by first | assumption | rfl | decide) (c_becomeWhole (zKg_of C) hS ⟨_, rfl, by decide, by decide⟩ _) rfl rfl (Nat.le_of_ble_eq_true rfl) ⟨Nat.le_of_ble_eq_true rfl, Nat.le_of_ble_eq_true rfl⟩ ?_
      exact z_return C rfl (zER_eq he (by first | rfl | simp_all [xCmp, zbNum, zB]) (by first | rfl | simp_all [xCmp, zbNum, zB])) ⟨Nat.le_refl _, Nat.le_refl _⟩ rfl
  · skip
    skip
    refine z_aloadn C rfl rfl ?_
    refine z_iloadn C rfl rfl ?_
    refine z_i2d C rfl ?_
    refine z_callv C rfl ⟨by decide, by decide⟩ (by first | assumption | rfl | decide) (c_becomeReal (zKg_of C) hS _) rfl rfl (Nat.le_of_ble_eq_true rfl) ⟨Nat.le_of_ble_eq_true rfl, Nat.le_of_ble_eq_true rfl⟩ ?_
    refine z_goto C rfl ?_
    exact z_return C rfl (zER_eq he (by first | rfl | simp_all [xCmp, zbNum, zB]) (by first | rfl | simp_all [xCmp, zbNum, zB])) ⟨Nat.le_refl _, Nat.le_refl _⟩ rfl

set_option maxHeartbeats 4000000 in
set_option maxRecDepth 20000 in
theorem c_becomeEscape {κ : zK} (hκ : zKg κ) {k : Nat} {x : Int64} {p : Int32} (hS : zS k = (0, 6, 6)) (h : zH) : zRet κ 77 [zr (some k), zj x, zi p] h none (zbEsc h k x p) 0 0 := by
  refine zRet_of hκ (by decide) (by decide +kernel) (Nat.le_of_ble_eq_true rfl) fun ω C hK he => ?_
  refine z_aloadn C rfl rfl ?_
  refine z_bipush C rfl ?_
  refine z_lloadn C rfl rfl ?_
  refine z_callv C rfl ⟨by decide, by decide⟩ (by first | assumption | rfl | decide) (c_becomeWhole (zKg_of C) hS ⟨_, rfl, by decide, by decide⟩ _) rfl rfl (Nat.le_of_ble_eq_true rfl) ⟨Nat.le_of_ble_eq_true rfl, Nat.le_of_ble_eq_true rfl⟩ ?_
  refine z_aloadn C rfl rfl ?_
  refine z_iloadn C rfl rfl ?_
  refine z_puti C rfl (by first | assumption | rfl | decide) rfl ⟨_, rfl⟩ ?_
  exact z_return C rfl he ⟨Nat.le_refl _, Nat.le_refl _⟩ rfl

set_option maxHeartbeats 4000000 in
set_option maxRecDepth 20000 in
theorem c_becomeReference {κ : zK} (hκ : zKg κ) {k t : Nat} (hS : zS k = (0, 6, 6)) (ht : zS t = (0, 5, 6)) (h : zH) : zRet κ 78 [zr (some k), zr (some t)] h none (zbRef h k t) 0 0 := by
  refine zRet_of hκ (by decide) (by decide +kernel) (Nat.le_of_ble_eq_true rfl) fun ω C hK he => ?_
  refine z_aloadn C rfl rfl ?_
  refine z_bipush C rfl ?_
  refine z_aloadn C rfl rfl ?_
  refine z_geti C rfl (by first | assumption | rfl | decide) rfl ?_
  refine z_i2l C rfl ?_
  refine z_callv C rfl ⟨by decide, by decide⟩ (by first | assumption | rfl | decide) (c_becomeWhole (zKg_of C) hS ⟨_, rfl, by decide, by decide⟩ _) rfl rfl (Nat.le_of_ble_eq_true rfl) ⟨Nat.le_of_ble_eq_true rfl, Nat.le_of_ble_eq_true rfl⟩ ?_
  refine z_aloadn C rfl rfl ?_
  refine z_aloadn C rfl rfl ?_
  refine z_putr C rfl (by first | assumption | rfl | decide) rfl ⟨_, rfl⟩ ?_
  exact z_return C rfl he ⟨Nat.le_refl _, Nat.le_refl _⟩ rfl

