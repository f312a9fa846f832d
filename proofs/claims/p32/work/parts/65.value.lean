/-! VALUES: what the methods of Value do to the numbers -/
def zbReal (h : zH) (k : Nat) (x : UInt64) : zH := zupR (zupI (zupD (zupI h k 0 100) k 1 x) k 2 0) k 5 none
def zbStrange (h : zH) (k : Nat) : zH := zupR (zupI (zupD (zupI h k 0 100) k 1 FP.dconst0) k 2 1) k 5 none
def zbWhole (h : zH) (k : Nat) (c : Int32) (x : Int64) : zH := zupR (zupI (zupJ (zupI h k 0 c) k 3 x) k 2 0) k 5 none
def zbNothing (h : zH) (k : Nat) (c : Int32) : zH := zupR (zupI (zupI h k 0 c) k 2 0) k 5 none
def zb0 (h : zH) (k o : Nat) : zH := zupI h k 0 (h.1 o 0)
def zb1 (h : zH) (k o : Nat) : zH := zupD (zb0 h k o) k 1 ((zb0 h k o).2.2.1 o 1)
def zb2 (h : zH) (k o : Nat) : zH := zupI (zb1 h k o) k 2 ((zb1 h k o).1 o 2)
def zb3 (h : zH) (k o : Nat) : zH := zupJ (zb2 h k o) k 3 ((zb2 h k o).2.1 o 3)
def zb4 (h : zH) (k o : Nat) : zH := zupI (zb3 h k o) k 4 ((zb3 h k o).1 o 4)
def zbecome (h : zH) (k o : Nat) : zH := zupR (zb4 h k o) k 5 ((zb4 h k o).2.2.2 o 5)
/-- a boolean's int -/
def zB (b : Bool) : Int32 := cond b 1 0
theorem znB {b : Bool} : narrow .boolean (.int (zB b)) = .int (zB b) := by cases b <;> rfl
theorem zc0 : Int32.ofInt (Int.ofNat 0) = 0 := rfl
theorem zc1 : Int32.ofInt (Int.ofNat 1) = 1 := rfl
theorem zB0 {b : Bool} : (zB b = 0) = (b = false) := by cases b <;> simp [zB]
theorem zB0' {b : Bool} : (zB b = Int32.ofInt (Int.ofNat 0)) = (b = false) := by rw [zc0, zB0]
theorem zER_eq {ω : zO} {v v' : Option zV} {h1 h2 : zH} {mc ms : Nat} (he : zER ω v h1 mc ms) (e1 : v = v') (e2 : h1 = h2) : zER ω v' h2 mc ms := by
  subst e1
  subst e2
  exact he
/-- kinds: d 100, i 105, j 106, u 117, n 110, e 101, k 107, t 116 -/
def zisNum (c : Int32) : Bool := decide (c = 100) || (decide (c = 105) || decide (c = 106))
def zisNo (c : Int32) : Bool := decide (c = 117) || (decide (c = 110) || decide (c = 101))
def zisWR (c : Int32) : Bool := decide (c = 105) || (decide (c = 106) || decide (c = 116))
def zisRef (h : zH) (k : Nat) : Bool := decide (h.1 k 0 = 116) && (h.2.2.2 k 5).isSome
set_option maxHeartbeats 4000000 in
set_option maxRecDepth 20000 in
theorem c_becomeReal {κ : zK} (hκ : zKg κ) {k : Nat} {x : UInt64} (hS : zS k = (0, 6, 6)) (h : zH) : zRet κ 72 [zr (some k), zd x] h none (zbReal h k x) 0 0 := by
  refine zRet_of hκ (by decide) (by decide +kernel) (Nat.le_of_ble_eq_true rfl) fun ω C hK he => ?_
  refine z_aloadn C rfl rfl ?_
  refine z_bipush C rfl ?_
  refine z_puti C rfl (by first | assumption | rfl | decide) rfl (by first | exact ⟨_, rfl, by decide, by decide⟩ | exact ⟨_, rfl, Or.inl rfl⟩ | exact ⟨_, rfl, Or.inr rfl⟩ | assumption) ?_
  refine z_aloadn C rfl rfl ?_
  refine z_dloadn C rfl rfl ?_
  refine z_putd C rfl (by first | assumption | rfl | decide) rfl ⟨_, rfl⟩ ?_
  refine z_aloadn C rfl rfl ?_
  refine z_iconst C rfl ?_
  refine z_puti C rfl (by first | assumption | rfl | decide) rfl (by first | exact ⟨_, rfl, by decide, by decide⟩ | exact ⟨_, rfl, Or.inl rfl⟩ | exact ⟨_, rfl, Or.inr rfl⟩ | assumption) ?_
  refine z_aloadn C rfl rfl ?_
  refine z_null C rfl ?_
  refine z_putr C rfl (by first | assumption | rfl | decide) rfl ⟨_, rfl⟩ ?_
  exact z_return C rfl he ⟨Nat.le_refl _, Nat.le_refl _⟩ rfl

set_option maxHeartbeats 4000000 in
set_option maxRecDepth 20000 in
theorem c_becomeStrange {κ : zK} (hκ : zKg κ) {k : Nat} (hS : zS k = (0, 6, 6)) (h : zH) : zRet κ 73 [zr (some k)] h none (zbStrange h k) 0 0 := by
  refine zRet_of hκ (by decide) (by decide +kernel) (Nat.le_of_ble_eq_true rfl) fun ω C hK he => ?_
  refine z_aloadn C rfl rfl ?_
  refine z_bipush C rfl ?_
  refine z_puti C rfl (by first | assumption | rfl | decide) rfl (by first | exact ⟨_, rfl, by decide, by decide⟩ | exact ⟨_, rfl, Or.inl rfl⟩ | exact ⟨_, rfl, Or.inr rfl⟩ | assumption) ?_
  refine z_aloadn C rfl rfl ?_
  refine z_dconst0 C rfl ?_
  refine z_putd C rfl (by first | assumption | rfl | decide) rfl ⟨_, rfl⟩ ?_
  refine z_aloadn C rfl rfl ?_
  refine z_iconst C rfl ?_
  refine z_puti C rfl (by first | assumption | rfl | decide) rfl (by first | exact ⟨_, rfl, by decide, by decide⟩ | exact ⟨_, rfl, Or.inl rfl⟩ | exact ⟨_, rfl, Or.inr rfl⟩ | assumption) ?_
  refine z_aloadn C rfl rfl ?_
  refine z_null C rfl ?_
  refine z_putr C rfl (by first | assumption | rfl | decide) rfl ⟨_, rfl⟩ ?_
  exact z_return C rfl he ⟨Nat.le_refl _, Nat.le_refl _⟩ rfl

set_option maxHeartbeats 4000000 in
set_option maxRecDepth 20000 in
theorem c_becomeWhole {κ : zK} (hκ : zKg κ) {k : Nat} {c : Int32} {x : Int64} (hS : zS k = (0, 6, 6)) (hc : (∃ y : Int32, zi c = zi y ∧ 0 ≤ y.toInt ∧ y.toInt < 65536)) (h : zH) : zRet κ 74 [zr (some k), zi c, zj x] h none (zbWhole h k c x) 0 0 := by
  refine zRet_of hκ (by decide) (by decide +kernel) (Nat.le_of_ble_eq_true rfl) fun ω C hK he => ?_
  refine z_aloadn C rfl rfl ?_
  refine z_iloadn C rfl rfl ?_
  refine z_puti C rfl (by first | assumption | rfl | decide) rfl (by first | exact ⟨_, rfl, by decide, by decide⟩ | exact ⟨_, rfl, Or.inl rfl⟩ | exact ⟨_, rfl, Or.inr rfl⟩ | assumption) ?_
  refine z_aloadn C rfl rfl ?_
  refine z_lloadn C rfl rfl ?_
  refine z_putj C rfl (by first | assumption | rfl | decide) rfl ⟨_, rfl⟩ ?_
  refine z_aloadn C rfl rfl ?_
  refine z_iconst C rfl ?_
  refine z_puti C rfl (by first | assumption | rfl | decide) rfl (by first | exact ⟨_, rfl, by decide, by decide⟩ | exact ⟨_, rfl, Or.inl rfl⟩ | exact ⟨_, rfl, Or.inr rfl⟩ | assumption) ?_
  refine z_aloadn C rfl rfl ?_
  refine z_null C rfl ?_
  refine z_putr C rfl (by first | assumption | rfl | decide) rfl ⟨_, rfl⟩ ?_
  exact z_return C rfl he ⟨Nat.le_refl _, Nat.le_refl _⟩ rfl

set_option maxHeartbeats 4000000 in
set_option maxRecDepth 20000 in
theorem c_becomeNothing {κ : zK} (hκ : zKg κ) {k : Nat} {c : Int32} (hS : zS k = (0, 6, 6)) (hc : (∃ y : Int32, zi c = zi y ∧ 0 ≤ y.toInt ∧ y.toInt < 65536)) (h : zH) : zRet κ 76 [zr (some k), zi c] h none (zbNothing h k c) 0 0 := by
  refine zRet_of hκ (by decide) (by decide +kernel) (Nat.le_of_ble_eq_true rfl) fun ω C hK he => ?_
  refine z_aloadn C rfl rfl ?_
  refine z_iloadn C rfl rfl ?_
  refine z_puti C rfl (by first | assumption | rfl | decide) rfl (by first | exact ⟨_, rfl, by decide, by decide⟩ | exact ⟨_, rfl, Or.inl rfl⟩ | exact ⟨_, rfl, Or.inr rfl⟩ | assumption) ?_
  refine z_aloadn C rfl rfl ?_
  refine z_iconst C rfl ?_
  refine z_puti C rfl (by first | assumption | rfl | decide) rfl (by first | exact ⟨_, rfl, by decide, by decide⟩ | exact ⟨_, rfl, Or.inl rfl⟩ | exact ⟨_, rfl, Or.inr rfl⟩ | assumption) ?_
  refine z_aloadn C rfl rfl ?_
  refine z_null C rfl ?_
  refine z_putr C rfl (by first | assumption | rfl | decide) rfl ⟨_, rfl⟩ ?_
  exact z_return C rfl he ⟨Nat.le_refl _, Nat.le_refl _⟩ rfl

set_option maxHeartbeats 4000000 in
set_option maxRecDepth 20000 in
theorem c_isNumber {κ : zK} (hκ : zKg κ) {k : Nat} (hS : zS k = (0, 6, 6)) (h : zH) : zRet κ 79 [zr (some k)] h (some (zi (zB (zisNum (h.1 k 0))))) h 0 0 := by
  refine zRet_of hκ (by decide) (by decide +kernel) (Nat.le_of_ble_eq_true rfl) fun ω C hK he => ?_
  refine z_aloadn C rfl rfl ?_
  refine z_geti C rfl (by first | assumption | rfl | decide) rfl ?_
  refine z_bipush C rfl ?_
  refine z_icmp C rfl (fun hc1 => ?_) (fun hc1 => ?_)
  · skip
    skip
    refine z_iconst C rfl ?_
    refine z_goto C rfl ?_
    exact z_zreturn C rfl (zER_eq he (by simp_all [xCmp, zisNum, zB]) rfl) ⟨Nat.le_refl _, Nat.le_refl _⟩ rfl rfl
  · skip
    skip
    refine z_aloadn C rfl rfl ?_
    refine z_geti C rfl (by first | assumption | rfl | decide) rfl ?_
    refine z_bipush C rfl ?_
    refine z_icmp C rfl (fun hc2 => ?_) (fun hc2 => ?_)
    · skip
      skip
      refine z_iconst C rfl ?_
      refine z_goto C rfl ?_
      exact z_zreturn C rfl (zER_eq he (by simp_all [xCmp, zisNum, zB]) rfl) ⟨Nat.le_refl _, Nat.le_refl _⟩ rfl rfl
    · skip
      skip
      refine z_aloadn C rfl rfl ?_
      refine z_geti C rfl (by first | assumption | rfl | decide) rfl ?_
      refine z_bipush C rfl ?_
      refine z_icmp C rfl (fun hc3 => ?_) (fun hc3 => ?_)
      · skip
        skip
        refine z_iconst C rfl ?_
        exact z_zreturn C rfl (zER_eq he (by simp_all [xCmp, zisNum, zB]) rfl) ⟨Nat.le_refl _, Nat.le_refl _⟩ rfl rfl
      · skip
        skip
        refine z_iconst C rfl ?_
        refine z_goto C rfl ?_
        exact z_zreturn C rfl (zER_eq he (by simp_all [xCmp, zisNum, zB]) rfl) ⟨Nat.le_refl _, Nat.le_refl _⟩ rfl rfl

set_option maxHeartbeats 4000000 in
set_option maxRecDepth 20000 in
theorem c_isNothing {κ : zK} (hκ : zKg κ) {k : Nat} (hS : zS k = (0, 6, 6)) (h : zH) : zRet κ 80 [zr (some k)] h (some (zi (zB (zisNo (h.1 k 0))))) h 0 0 := by
  refine zRet_of hκ (by decide) (by decide +kernel) (Nat.le_of_ble_eq_true rfl) fun ω C hK he => ?_
  refine z_aloadn C rfl rfl ?_
  refine z_geti C rfl (by first | assumption | rfl | decide) rfl ?_
  refine z_bipush C rfl ?_
  refine z_icmp C rfl (fun hc1 => ?_) (fun hc1 => ?_)
  · skip
    skip
    refine z_iconst C rfl ?_
    refine z_goto C rfl ?_
    exact z_zreturn C rfl (zER_eq he (by simp_all [xCmp, zisNo, zB]) rfl) ⟨Nat.le_refl _, Nat.le_refl _⟩ rfl rfl
  · skip
    skip
    refine z_aloadn C rfl rfl ?_
    refine z_geti C rfl (by first | assumption | rfl | decide) rfl ?_
    refine z_bipush C rfl ?_
    refine z_icmp C rfl (fun hc2 => ?_) (fun hc2 => ?_)
    · skip
      skip
      refine z_iconst C rfl ?_
      refine z_goto C rfl ?_
      exact z_zreturn C rfl (zER_eq he (by simp_all [xCmp, zisNo, zB]) rfl) ⟨Nat.le_refl _, Nat.le_refl _⟩ rfl rfl
    · skip
      skip
      refine z_aloadn C rfl rfl ?_
      refine z_geti C rfl (by first | assumption | rfl | decide) rfl ?_
      refine z_bipush C rfl ?_
      refine z_icmp C rfl (fun hc3 => ?_) (fun hc3 => ?_)
      · skip
        skip
        refine z_iconst C rfl ?_
        exact z_zreturn C rfl (zER_eq he (by simp_all [xCmp, zisNo, zB]) rfl) ⟨Nat.le_refl _, Nat.le_refl _⟩ rfl rfl
      · skip
        skip
        refine z_iconst C rfl ?_
        refine z_goto C rfl ?_
        exact z_zreturn C rfl (zER_eq he (by simp_all [xCmp, zisNo, zB]) rfl) ⟨Nat.le_refl _, Nat.le_refl _⟩ rfl rfl

set_option maxHeartbeats 4000000 in
set_option maxRecDepth 20000 in
theorem c_isWR {κ : zK} (hκ : zKg κ) {k : Nat} (hS : zS k = (0, 6, 6)) (h : zH) : zRet κ 82 [zr (some k)] h (some (zi (zB (zisWR (h.1 k 0))))) h 0 0 := by
  refine zRet_of hκ (by decide) (by decide +kernel) (Nat.le_of_ble_eq_true rfl) fun ω C hK he => ?_
  refine z_aloadn C rfl rfl ?_
  refine z_geti C rfl (by first | assumption | rfl | decide) rfl ?_
  refine z_bipush C rfl ?_
  refine z_icmp C rfl (fun hc1 => ?_) (fun hc1 => ?_)
  · skip
    skip
    refine z_iconst C rfl ?_
    refine z_goto C rfl ?_
    exact z_zreturn C rfl (zER_eq he (by simp_all [xCmp, zisWR, zB]) rfl) ⟨Nat.le_refl _, Nat.le_refl _⟩ rfl rfl
  · skip
    skip
    refine z_aloadn C rfl rfl ?_
    refine z_geti C rfl (by first | assumption | rfl | decide) rfl ?_
    refine z_bipush C rfl ?_
    refine z_icmp C rfl (fun hc2 => ?_) (fun hc2 => ?_)
    · skip
      skip
      refine z_iconst C rfl ?_
      refine z_goto C rfl ?_
      exact z_zreturn C rfl (zER_eq he (by simp_all [xCmp, zisWR, zB]) rfl) ⟨Nat.le_refl _, Nat.le_refl _⟩ rfl rfl
    · skip
      skip
      refine z_aloadn C rfl rfl ?_
      refine z_geti C rfl (by first | assumption | rfl | decide) rfl ?_
      refine z_bipush C rfl ?_
      refine z_icmp C rfl (fun hc3 => ?_) (fun hc3 => ?_)
      · skip
        skip
        refine z_iconst C rfl ?_
        exact z_zreturn C rfl (zER_eq he (by simp_all [xCmp, zisWR, zB]) rfl) ⟨Nat.le_refl _, Nat.le_refl _⟩ rfl rfl
      · skip
        skip
        refine z_iconst C rfl ?_
        refine z_goto C rfl ?_
        exact z_zreturn C rfl (zER_eq he (by simp_all [xCmp, zisWR, zB]) rfl) ⟨Nat.le_refl _, Nat.le_refl _⟩ rfl rfl

set_option maxHeartbeats 4000000 in
set_option maxRecDepth 20000 in
theorem c_isReference {κ : zK} (hκ : zKg κ) {k : Nat} (hS : zS k = (0, 6, 6)) (h : zH) : zRet κ 81 [zr (some k)] h (some (zi (zB (zisRef h k)))) h 0 0 := by
  refine zRet_of hκ (by decide) (by decide +kernel) (Nat.le_of_ble_eq_true rfl) fun ω C hK he => ?_
  refine z_aloadn C rfl rfl ?_
  refine z_geti C rfl (by first | assumption | rfl | decide) rfl ?_
  refine z_bipush C rfl ?_
  refine z_icmp C rfl (fun hc1 => ?_) (fun hc1 => ?_)
  · skip
    skip
    refine z_iconst C rfl ?_
    exact z_zreturn C rfl (zER_eq he (by simp_all [xCmp, zisRef, zB]) rfl) ⟨Nat.le_refl _, Nat.le_refl _⟩ rfl rfl
  · skip
    skip
    refine z_aloadn C rfl rfl ?_
    refine z_getr C rfl (by first | assumption | rfl | decide) rfl ?_
    refine z_ifnull C rfl (fun hq2 => ?_) (fun r2 hq2 => ?_)
    · skip
      refine z_iconst C rfl ?_
      exact z_zreturn C rfl (zER_eq he (by simp_all [xCmp, zisRef, zB]) rfl) ⟨Nat.le_refl _, Nat.le_refl _⟩ rfl rfl
    · skip
      refine z_iconst C rfl ?_
      refine z_goto C rfl ?_
      exact z_zreturn C rfl (zER_eq he (by simp_all [xCmp, zisRef, zB]) rfl) ⟨Nat.le_refl _, Nat.le_refl _⟩ rfl rfl


