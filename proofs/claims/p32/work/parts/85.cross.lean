/-! crossings -/
theorem zK_ta {h : zH} (hw : zWk h) {k : Nat} (hk : zS k = (0, 6, 6)) : zWk (zta h k).2 := by
  unfold zta
  split
  · exact hw
  · split
    · exact hw
    · split
      · exact zK_bReal hw hk
      · exact hw
theorem zK_tc {h : zH} (hw : zWk h) {k : Nat} (hk : zS k = (0, 6, 6)) : zWk (ztc h k).2 := by
  unfold ztc
  split
  · split
    · exact zK_bWhole hw hk zCh106
    · exact hw
  · exact zK_bWhole hw hk zCh106
theorem zK_tb {h : zH} (hw : zWk h) {k : Nat} (hk : zS k = (0, 6, 6)) : zWk (ztb h k).2 := by
  unfold ztb
  split
  · show zWk (if zinB (h.2.2.1 k 1) (h.1 k 2) = true then _ else _)
    split
    · exact zK_bWhole hw hk zCh105
    · exact hw
  · split
    · exact zK_bWhole hw hk zCh105
    · exact hw
def zcr (h : zH) (k : Nat) (a b : Int32) : Int32 × zH := if a = b then ((Int32.ofInt (Int.ofNat 0)), h) else if h.1 k 0 = 116 then ((Int32.ofInt (Int.ofNat 0)), h) else if h.1 k 0 = 107 then ((Int32.ofInt (Int.ofNat 5)), h) else if zisNo (h.1 k 0) = true then ((Int32.ofInt (Int.ofNat 0)), if b = 2 then zbNothing h k (Int32.ofInt (Int.ofNat 101)) else zbNothing h k (Int32.ofInt (Int.ofNat 110))) else if b = 0 then zta h k else if b = 1 then ztb h k else ztc h k
theorem zK_cr {h : zH} (hw : zWk h) {k : Nat} {a b : Int32} (hk : zS k = (0, 6, 6)) : zWk (zcr h k a b).2 := by
  unfold zcr
  split
  · exact hw
  · split
    · exact hw
    · split
      · exact hw
      · split
        · show zWk (if b = 2 then _ else _)
          split
          · exact zK_bNothing hw hk (by unfold zCh; decide)
          · exact zK_bNothing hw hk (by unfold zCh; decide)
        · split
          · exact zK_ta hw hk
          · split
            · exact zK_tb hw hk
            · exact zK_tc hw hk
def zcirH (h : zH) (a b : Int32) : zH := if a = b then h else zupJ h 1 8 (h.2.1 1 8 + (Int64.ofInt (Int.ofNat (1 : Fin 2).val)))
def zcir (h : zH) (k : Nat) (a b : Int32) : Int32 × zH := zcr (zcirH h a b) k a b
theorem zK_cir {h : zH} (hw : zWk h) {k : Nat} {a b : Int32} (hk : zS k = (0, 6, 6)) : zWk (zcir h k a b).2 := by
  refine zK_cr ?_ hk
  unfold zcirH
  split
  · exact hw
  · exact hw
set_option maxHeartbeats 400000 in
set_option maxRecDepth 20000 in
theorem c_cross {κ : zK} (hκ : zKg κ) {k : Nat} {x y : Int32} (hS : zS k = (0, 6, 6)) (h : zH) : zRet κ 0 [zr (some k), zi x, zi y] h (some (zi (zcr h k x y).1)) (zcr h k x y).2 0 0 := by
  refine zRet_of hκ (by decide) (by decide +kernel) (Nat.le_of_ble_eq_true rfl) fun ω C hK he => ?_
  refine z_iloadn C rfl rfl ?_
  refine z_iloadn C rfl rfl ?_
  refine z_icmp C rfl (fun hc1 => ?_) (fun hc1 => ?_)
  · skip
    skip
    refine z_iconst C rfl ?_
    exact z_ireturn C rfl (by first | (have e : zcr h k x y = ((Int32.ofInt (Int.ofNat 0)), h) := (by unfold zcr; simp_all [xCmp, zB0]); rw [e] at he; exact he) | (have e : zcr h k x y = ((Int32.ofInt (Int.ofNat 5)), h) := (by unfold zcr; simp_all [xCmp, zB0]); rw [e] at he; exact he) | (have e : zcr h k x y = ((Int32.ofInt (Int.ofNat 0)), zbNothing h k (Int32.ofInt (Int.ofNat 101))) := (by unfold zcr; simp_all [xCmp, zB0]); rw [e] at he; exact he) | (have e : zcr h k x y = ((Int32.ofInt (Int.ofNat 0)), zbNothing h k (Int32.ofInt (Int.ofNat 110))) := (by unfold zcr; simp_all [xCmp, zB0]); rw [e] at he; exact he) | (have e : zcr h k x y = zta h k := (by unfold zcr; simp_all [xCmp, zB0]); rw [e] at he; exact he) | (have e : zcr h k x y = ztb h k := (by unfold zcr; simp_all [xCmp, zB0]); rw [e] at he; exact he) | (have e : zcr h k x y = ztc h k := (by unfold zcr; simp_all [xCmp, zB0]); rw [e] at he; exact he)) ⟨Nat.le_refl _, Nat.le_refl _⟩ rfl
  · skip
    skip
    refine z_aloadn C rfl rfl ?_
    refine z_geti C rfl hS rfl ?_
    refine z_bipush C rfl ?_
    refine z_icmp C rfl (fun hc2 => ?_) (fun hc2 => ?_)
    · skip
      skip
      refine z_aloadn C rfl rfl ?_
      refine z_geti C rfl hS rfl ?_
      refine z_bipush C rfl ?_
      refine z_icmp C rfl (fun hc3 => ?_) (fun hc3 => ?_)
      · skip
        skip
        refine z_aloadn C rfl rfl ?_
        refine z_callv C rfl ⟨by decide, by decide⟩ hS (c_isNothing (zKg_of C) hS _) rfl rfl (Nat.le_of_ble_eq_true rfl) ⟨Nat.le_of_ble_eq_true rfl, Nat.le_of_ble_eq_true rfl⟩ ?_
        refine z_if C rfl (fun hc4 => ?_) (fun hc4 => ?_)
        · skip
          skip
          refine z_iloadn C rfl rfl ?_
          refine z_if C rfl (fun hc5 => ?_) (fun hc5 => ?_)
          · skip
            skip
            refine z_iloadn C rfl rfl ?_
            refine z_iconst C rfl ?_
            refine z_icmp C rfl (fun hc6 => ?_) (fun hc6 => ?_)
            · skip
              skip
              refine z_aloadn C rfl rfl ?_
              refine z_calls C rfl ⟨by decide, by decide, by decide⟩ (c_toC (zKg_of C) hS _) rfl rfl (Nat.le_of_ble_eq_true rfl) ⟨Nat.le_of_ble_eq_true rfl, Nat.le_of_ble_eq_true rfl⟩ ?_
              exact z_ireturn C rfl (by first | (have e : zcr h k x y = ((Int32.ofInt (Int.ofNat 0)), h) := (by unfold zcr; simp_all [xCmp, zB0]); rw [e] at he; exact he) | (have e : zcr h k x y = ((Int32.ofInt (Int.ofNat 5)), h) := (by unfold zcr; simp_all [xCmp, zB0]); rw [e] at he; exact he) | (have e : zcr h k x y = ((Int32.ofInt (Int.ofNat 0)), zbNothing h k (Int32.ofInt (Int.ofNat 101))) := (by unfold zcr; simp_all [xCmp, zB0]); rw [e] at he; exact he) | (have e : zcr h k x y = ((Int32.ofInt (Int.ofNat 0)), zbNothing h k (Int32.ofInt (Int.ofNat 110))) := (by unfold zcr; simp_all [xCmp, zB0]); rw [e] at he; exact he) | (have e : zcr h k x y = zta h k := (by unfold zcr; simp_all [xCmp, zB0]); rw [e] at he; exact he) | (have e : zcr h k x y = ztb h k := (by unfold zcr; simp_all [xCmp, zB0]); rw [e] at he; exact he) | (have e : zcr h k x y = ztc h k := (by unfold zcr; simp_all [xCmp, zB0]); rw [e] at he; exact he)) ⟨Nat.le_refl _, Nat.le_refl _⟩ rfl
            · skip
              skip
              refine z_aloadn C rfl rfl ?_
              refine z_calls C rfl ⟨by decide, by decide, by decide⟩ (c_toB (zKg_of C) hS _) rfl rfl (Nat.le_of_ble_eq_true rfl) ⟨Nat.le_of_ble_eq_true rfl, Nat.le_of_ble_eq_true rfl⟩ ?_
              refine z_goto C rfl ?_
              exact z_ireturn C rfl (by first | (have e : zcr h k x y = ((Int32.ofInt (Int.ofNat 0)), h) := (by unfold zcr; simp_all [xCmp, zB0]); rw [e] at he; exact he) | (have e : zcr h k x y = ((Int32.ofInt (Int.ofNat 5)), h) := (by unfold zcr; simp_all [xCmp, zB0]); rw [e] at he; exact he) | (have e : zcr h k x y = ((Int32.ofInt (Int.ofNat 0)), zbNothing h k (Int32.ofInt (Int.ofNat 101))) := (by unfold zcr; simp_all [xCmp, zB0]); rw [e] at he; exact he) | (have e : zcr h k x y = ((Int32.ofInt (Int.ofNat 0)), zbNothing h k (Int32.ofInt (Int.ofNat 110))) := (by unfold zcr; simp_all [xCmp, zB0]); rw [e] at he; exact he) | (have e : zcr h k x y = zta h k := (by unfold zcr; simp_all [xCmp, zB0]); rw [e] at he; exact he) | (have e : zcr h k x y = ztb h k := (by unfold zcr; simp_all [xCmp, zB0]); rw [e] at he; exact he) | (have e : zcr h k x y = ztc h k := (by unfold zcr; simp_all [xCmp, zB0]); rw [e] at he; exact he)) ⟨Nat.le_refl _, Nat.le_refl _⟩ rfl
          · skip
            skip
            refine z_aloadn C rfl rfl ?_
            refine z_calls C rfl ⟨by decide, by decide, by decide⟩ (c_toA (zKg_of C) hS _) rfl rfl (Nat.le_of_ble_eq_true rfl) ⟨Nat.le_of_ble_eq_true rfl, Nat.le_of_ble_eq_true rfl⟩ ?_
            exact z_ireturn C rfl (by first | (have e : zcr h k x y = ((Int32.ofInt (Int.ofNat 0)), h) := (by unfold zcr; simp_all [xCmp, zB0]); rw [e] at he; exact he) | (have e : zcr h k x y = ((Int32.ofInt (Int.ofNat 5)), h) := (by unfold zcr; simp_all [xCmp, zB0]); rw [e] at he; exact he) | (have e : zcr h k x y = ((Int32.ofInt (Int.ofNat 0)), zbNothing h k (Int32.ofInt (Int.ofNat 101))) := (by unfold zcr; simp_all [xCmp, zB0]); rw [e] at he; exact he) | (have e : zcr h k x y = ((Int32.ofInt (Int.ofNat 0)), zbNothing h k (Int32.ofInt (Int.ofNat 110))) := (by unfold zcr; simp_all [xCmp, zB0]); rw [e] at he; exact he) | (have e : zcr h k x y = zta h k := (by unfold zcr; simp_all [xCmp, zB0]); rw [e] at he; exact he) | (have e : zcr h k x y = ztb h k := (by unfold zcr; simp_all [xCmp, zB0]); rw [e] at he; exact he) | (have e : zcr h k x y = ztc h k := (by unfold zcr; simp_all [xCmp, zB0]); rw [e] at he; exact he)) ⟨Nat.le_refl _, Nat.le_refl _⟩ rfl
        · skip
          skip
          refine z_aloadn C rfl rfl ?_
          refine z_iloadn C rfl rfl ?_
          refine z_iconst C rfl ?_
          refine z_icmp C rfl (fun hc7 => ?_) (fun hc7 => ?_)
          · skip
            skip
            refine z_bipush C rfl ?_
            refine z_callv C rfl ⟨by decide, by decide⟩ hS (c_becomeNothing (zKg_of C) hS ⟨_, rfl, by decide, by decide⟩ _) rfl rfl (Nat.le_of_ble_eq_true rfl) ⟨Nat.le_of_ble_eq_true rfl, Nat.le_of_ble_eq_true rfl⟩ ?_
            refine z_iconst C rfl ?_
            exact z_ireturn C rfl (by first | (have e : zcr h k x y = ((Int32.ofInt (Int.ofNat 0)), h) := (by unfold zcr; simp_all [xCmp, zB0]); rw [e] at he; exact he) | (have e : zcr h k x y = ((Int32.ofInt (Int.ofNat 5)), h) := (by unfold zcr; simp_all [xCmp, zB0]); rw [e] at he; exact he) | (have e : zcr h k x y = ((Int32.ofInt (Int.ofNat 0)), zbNothing h k (Int32.ofInt (Int.ofNat 101))) := (by unfold zcr; simp_all [xCmp, zB0]); rw [e] at he; exact he) | (have e : zcr h k x y = ((Int32.ofInt (Int.ofNat 0)), zbNothing h k (Int32.ofInt (Int.ofNat 110))) := (by unfold zcr; simp_all [xCmp, zB0]); rw [e] at he; exact he) | (have e : zcr h k x y = zta h k := (by unfold zcr; simp_all [xCmp, zB0]); rw [e] at he; exact he) | (have e : zcr h k x y = ztb h k := (by unfold zcr; simp_all [xCmp, zB0]); rw [e] at he; exact he) | (have e : zcr h k x y = ztc h k := (by unfold zcr; simp_all [xCmp, zB0]); rw [e] at he; exact he)) ⟨Nat.le_refl _, Nat.le_refl _⟩ rfl
          · skip
            skip
            refine z_bipush C rfl ?_
            refine z_goto C rfl ?_
            refine z_callv C rfl ⟨by decide, by decide⟩ hS (c_becomeNothing (zKg_of C) hS ⟨_, rfl, by decide, by decide⟩ _) rfl rfl (Nat.le_of_ble_eq_true rfl) ⟨Nat.le_of_ble_eq_true rfl, Nat.le_of_ble_eq_true rfl⟩ ?_
            refine z_iconst C rfl ?_
            exact z_ireturn C rfl (by first | (have e : zcr h k x y = ((Int32.ofInt (Int.ofNat 0)), h) := (by unfold zcr; simp_all [xCmp, zB0]); rw [e] at he; exact he) | (have e : zcr h k x y = ((Int32.ofInt (Int.ofNat 5)), h) := (by unfold zcr; simp_all [xCmp, zB0]); rw [e] at he; exact he) | (have e : zcr h k x y = ((Int32.ofInt (Int.ofNat 0)), zbNothing h k (Int32.ofInt (Int.ofNat 101))) := (by unfold zcr; simp_all [xCmp, zB0]); rw [e] at he; exact he) | (have e : zcr h k x y = ((Int32.ofInt (Int.ofNat 0)), zbNothing h k (Int32.ofInt (Int.ofNat 110))) := (by unfold zcr; simp_all [xCmp, zB0]); rw [e] at he; exact he) | (have e : zcr h k x y = zta h k := (by unfold zcr; simp_all [xCmp, zB0]); rw [e] at he; exact he) | (have e : zcr h k x y = ztb h k := (by unfold zcr; simp_all [xCmp, zB0]); rw [e] at he; exact he) | (have e : zcr h k x y = ztc h k := (by unfold zcr; simp_all [xCmp, zB0]); rw [e] at he; exact he)) ⟨Nat.le_refl _, Nat.le_refl _⟩ rfl
      · skip
        skip
        refine z_iconst C rfl ?_
        exact z_ireturn C rfl (by first | (have e : zcr h k x y = ((Int32.ofInt (Int.ofNat 0)), h) := (by unfold zcr; simp_all [xCmp, zB0]); rw [e] at he; exact he) | (have e : zcr h k x y = ((Int32.ofInt (Int.ofNat 5)), h) := (by unfold zcr; simp_all [xCmp, zB0]); rw [e] at he; exact he) | (have e : zcr h k x y = ((Int32.ofInt (Int.ofNat 0)), zbNothing h k (Int32.ofInt (Int.ofNat 101))) := (by unfold zcr; simp_all [xCmp, zB0]); rw [e] at he; exact he) | (have e : zcr h k x y = ((Int32.ofInt (Int.ofNat 0)), zbNothing h k (Int32.ofInt (Int.ofNat 110))) := (by unfold zcr; simp_all [xCmp, zB0]); rw [e] at he; exact he) | (have e : zcr h k x y = zta h k := (by unfold zcr; simp_all [xCmp, zB0]); rw [e] at he; exact he) | (have e : zcr h k x y = ztb h k := (by unfold zcr; simp_all [xCmp, zB0]); rw [e] at he; exact he) | (have e : zcr h k x y = ztc h k := (by unfold zcr; simp_all [xCmp, zB0]); rw [e] at he; exact he)) ⟨Nat.le_refl _, Nat.le_refl _⟩ rfl
    · skip
      skip
      refine z_iconst C rfl ?_
      exact z_ireturn C rfl (by first | (have e : zcr h k x y = ((Int32.ofInt (Int.ofNat 0)), h) := (by unfold zcr; simp_all [xCmp, zB0]); rw [e] at he; exact he) | (have e : zcr h k x y = ((Int32.ofInt (Int.ofNat 5)), h) := (by unfold zcr; simp_all [xCmp, zB0]); rw [e] at he; exact he) | (have e : zcr h k x y = ((Int32.ofInt (Int.ofNat 0)), zbNothing h k (Int32.ofInt (Int.ofNat 101))) := (by unfold zcr; simp_all [xCmp, zB0]); rw [e] at he; exact he) | (have e : zcr h k x y = ((Int32.ofInt (Int.ofNat 0)), zbNothing h k (Int32.ofInt (Int.ofNat 110))) := (by unfold zcr; simp_all [xCmp, zB0]); rw [e] at he; exact he) | (have e : zcr h k x y = zta h k := (by unfold zcr; simp_all [xCmp, zB0]); rw [e] at he; exact he) | (have e : zcr h k x y = ztb h k := (by unfold zcr; simp_all [xCmp, zB0]); rw [e] at he; exact he) | (have e : zcr h k x y = ztc h k := (by unfold zcr; simp_all [xCmp, zB0]); rw [e] at he; exact he)) ⟨Nat.le_refl _, Nat.le_refl _⟩ rfl

set_option maxHeartbeats 400000 in
set_option maxRecDepth 20000 in
theorem c_cir {κ : zK} (hκ : zKg κ) {k : Nat} {x y : Int32} (hS : zS k = (0, 6, 6)) (h : zH) : zRet κ 45 [zr (some 1), zr (some k), zi x, zi y] h (some (zi (zcir h k x y).1)) (zcir h k x y).2 0 0 := by
  refine zRet_of hκ (by decide) (by decide +kernel) (Nat.le_of_ble_eq_true rfl) fun ω C hK he => ?_
  refine z_iloadn C rfl rfl ?_
  refine z_iloadn C rfl rfl ?_
  refine z_icmp C rfl (fun hc1 => ?_) (fun hc1 => ?_)
  · skip
    skip
    refine z_aloadn C rfl rfl ?_
    refine z_iloadn C rfl rfl ?_
    refine z_iloadn C rfl rfl ?_
    refine z_calls C rfl ⟨by decide, by decide, by decide⟩ (c_cross (zKg_of C) hS _) rfl rfl (Nat.le_of_ble_eq_true rfl) ⟨Nat.le_of_ble_eq_true rfl, Nat.le_of_ble_eq_true rfl⟩ ?_
    exact z_ireturn C rfl (by first | (have e : zcirH h x y = h := if_pos hc1; unfold zcir at he; rw [e] at he; exact he) | (have e : zcirH h x y = zupJ h 1 8 (h.2.1 1 8 + (Int64.ofInt (Int.ofNat (1 : Fin 2).val))) := if_neg hc1; unfold zcir at he; rw [e] at he; exact he)) ⟨Nat.le_refl _, Nat.le_refl _⟩ rfl
  · skip
    skip
    refine z_aloadn C rfl rfl ?_
    refine z_dup C rfl rfl ?_
    refine z_getj C rfl zS_1 rfl ?_
    refine z_lconst C rfl ?_
    refine z_ladd C rfl ?_
    refine z_putj C rfl zS_1 rfl ⟨_, rfl⟩ ?_
    refine z_aloadn C rfl rfl ?_
    refine z_iloadn C rfl rfl ?_
    refine z_iloadn C rfl rfl ?_
    refine z_calls C rfl ⟨by decide, by decide, by decide⟩ (c_cross (zKg_of C) hS _) rfl rfl (Nat.le_of_ble_eq_true rfl) ⟨Nat.le_of_ble_eq_true rfl, Nat.le_of_ble_eq_true rfl⟩ ?_
    exact z_ireturn C rfl (by first | (have e : zcirH h x y = h := if_pos hc1; unfold zcir at he; rw [e] at he; exact he) | (have e : zcirH h x y = zupJ h 1 8 (h.2.1 1 8 + (Int64.ofInt (Int.ofNat (1 : Fin 2).val))) := if_neg hc1; unfold zcir at he; rw [e] at he; exact he)) ⟨Nat.le_refl _, Nat.le_refl _⟩ rfl

def zps (h : zH) (l g m n : Nat) : Int32 × zH := zcr (zcp h 853 (6 + (8 * l + g))) 853 (nI l) (nI m)
def zpass (h : zH) (l g m n : Nat) : Int32 × zH := if (zps h l g m n).1 = 0 then ((zps h l g m n).1, zsettle (zstG (zps h l g m n).2 m n 853)) else zps h l g m n
theorem zK_ps {h : zH} (hw : zWk h) {l g m n : Nat} (hl : l < 3) (hg : g < 8) : zWk (zps h l g m n).2 := zK_cr (zK_cp hw zS_853 (zS_val24 (8 * l + g) (by omega))) zS_853

set_option maxHeartbeats 400000 in
set_option maxRecDepth 20000 in
theorem c_pass {κ : zK} (hκ : zKg κ) {l g m n : Nat} (hl : l < 3) (hg : g < 8) (hm : m < 3) (hn : n < 8) (h : zH) (hw : zWk h) : zRet κ 102 [zr (some 0), zi (nI l), zi (nI g), zi (nI m), zi (nI n)] h (some (zi (zpass h l g m n).1)) (zpass h l g m n).2 0 0 := by
  refine zRet_of hκ (by decide) (by decide +kernel) (Nat.le_of_ble_eq_true rfl) fun ω C hK he => ?_
  refine z_iloadn C rfl rfl ?_
  refine z_iloadn C rfl rfl ?_
  refine z_calls C rfl ⟨by decide, by decide, by decide⟩ (c_reqG (zKg_of C) (zwt hl (by decide)) (zwt hg (by decide)) _) rfl rfl (Nat.le_of_ble_eq_true rfl) ⟨(Nat.le_of_ble_eq_true rfl), (Nat.le_of_ble_eq_true rfl)⟩ ?_
  refine z_iloadn C rfl rfl ?_
  refine z_iload C rfl rfl ?_
  refine z_calls C rfl ⟨by decide, by decide, by decide⟩ (c_reqG (zKg_of C) (zwt hm (by decide)) (zwt hn (by decide)) _) rfl rfl (Nat.le_of_ble_eq_true rfl) ⟨(Nat.le_of_ble_eq_true rfl), (Nat.le_of_ble_eq_true rfl)⟩ ?_
  refine z_aloadn C rfl rfl ?_
  refine z_gets C rfl zS_0 rfl hw.1.1.1.2.2 ?_
  refine z_aloadn C rfl rfl ?_
  refine z_gets C rfl zS_0 rfl hw.1.1.1.2.1 ?_
  refine z_iloadn C rfl rfl ?_
  refine z_iloadn C rfl rfl ?_
  refine z_callv C rfl ⟨by decide, by decide⟩ zS_2 (c_globalOf (zKg_of C) hl hg _ hw.1.1) rfl rfl (Nat.le_of_ble_eq_true rfl) ⟨(Nat.le_of_ble_eq_true rfl), (Nat.le_of_ble_eq_true rfl)⟩ ?_
  refine z_callv C rfl ⟨by decide, by decide⟩ zS_853 (c_become (zKg_of C) zS_853 (zS_val24 (8 * l + g) (by omega)) _ hw.2) rfl rfl (Nat.le_of_ble_eq_true rfl) ⟨(Nat.le_of_ble_eq_true rfl), (Nat.le_of_ble_eq_true rfl)⟩ ?_
  have hw1 := zK_cp hw zS_853 (zS_val24 (8 * l + g) (by omega))
  have hw2 := zK_ps (m := m) (n := n) hw hl hg
  refine z_aloadn C rfl rfl ?_
  refine z_gets C rfl zS_0 rfl hw1.1.1.1.2.2 ?_
  refine z_iloadn C rfl rfl ?_
  refine z_iloadn C rfl rfl ?_
  refine z_calls C rfl ⟨by decide, by decide, by decide⟩ (c_cross (zKg_of C) zS_853 _) rfl rfl (Nat.le_of_ble_eq_true rfl) ⟨(Nat.le_of_ble_eq_true rfl), (Nat.le_of_ble_eq_true rfl)⟩ ?_
  refine z_istore C rfl ?_
  refine z_iload C rfl rfl ?_
  refine z_if C rfl (fun hc1 => ?_) (fun hc1 => ?_)
  · skip
    skip
    refine z_iload C rfl rfl ?_
    exact z_ireturn C rfl (by first | (have e : zpass h l g m n = ((zps h l g m n).1, zsettle (zstG (zps h l g m n).2 m n 853)) := (by unfold zpass; exact if_pos q0); rw [e] at he; dsimp only at he; unfold zps at he; exact he) | (have q1 : ¬ (zps h l g m n).1 = 0 := hc1; have e : zpass h l g m n = zps h l g m n := (by unfold zpass; exact if_neg q1); rw [e] at he; unfold zps at he; exact he)) ⟨Nat.le_refl _, Nat.le_refl _⟩ rfl
  · skip
    skip
    have q0 : (zps h l g m n).1 = 0 := Decidable.of_not_not hc1
    refine z_aloadn C rfl rfl ?_
    refine z_gets C rfl zS_0 rfl hw2.1.1.1.2.1 ?_
    refine z_iloadn C rfl rfl ?_
    refine z_iload C rfl rfl ?_
    refine z_aloadn C rfl rfl ?_
    refine z_gets C rfl zS_0 rfl hw2.1.1.1.2.2 ?_
    refine z_callv C rfl ⟨by decide, by decide⟩ zS_2 (c_stG (zKg_of C) hm hn zS_853 _ hw2) rfl rfl (Nat.le_of_ble_eq_true rfl) ⟨(Nat.le_of_ble_eq_true rfl), (Nat.le_of_ble_eq_true rfl)⟩ ?_
    have hw3 := zK_stG hw2 hm hn zS_853
    refine z_aloadn C rfl rfl ?_
    refine z_gets C rfl zS_0 rfl hw3.1.1.1.2.1 ?_
    refine z_callv C rfl ⟨by decide, by decide⟩ zS_2 (c_settle (zKg_of C) _ hw3) rfl rfl (Nat.le_of_ble_eq_true rfl) ⟨(Nat.le_of_ble_eq_true rfl), (Nat.le_of_ble_eq_true rfl)⟩ ?_
    refine z_pop C rfl rfl ?_
    refine z_iload C rfl rfl ?_
    exact z_ireturn C rfl (by first | (have e : zpass h l g m n = ((zps h l g m n).1, zsettle (zstG (zps h l g m n).2 m n 853)) := (by unfold zpass; exact if_pos q0); rw [e] at he; dsimp only at he; unfold zps at he; exact he) | (have q1 : ¬ (zps h l g m n).1 = 0 := hc1; have e : zpass h l g m n = zps h l g m n := (by unfold zpass; exact if_neg q1); rw [e] at he; unfold zps at he; exact he)) ⟨Nat.le_refl _, Nat.le_refl _⟩ rfl

