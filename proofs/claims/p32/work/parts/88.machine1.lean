/-! functions made, results -/
def zhasR (h : zH) : Bool := decide (h.1 1 9 = 114) || decide (h.1 1 9 = 120)
def znfn (h : zH) (n : Nat) (l p : Int32) : zH := if n < 9 then zupI (zupI (zupI h (751 + 3 * n) 0 l) (751 + 3 * n) 1 p) 1 2 (nI (n + 1)) else h
theorem zK_nfn {h : zH} (hw : zWk h) {n : Nat} {l p : Int32} : zWk (znfn h n l p) := by
  unfold znfn
  split
  · rename_i q
    exact zK_I (zK_I (zK_I hw (zTok_f (zS_fun n (by omega)) (fun e => by cases e))) (zTok_f (zS_fun n (by omega)) (fun e => by cases e))) (zTok_m (fun e => by cases e))
  · exact hw
set_option maxHeartbeats 400000 in
set_option maxRecDepth 20000 in
theorem c_hasR {κ : zK} (hκ : zKg κ)  (h : zH) : zRet κ 36 [zr (some 1)] h (some (zi (zB (zhasR h)))) h 0 0 := by
  refine zRet_of hκ (by decide) (by decide +kernel) (Nat.le_of_ble_eq_true rfl) fun ω C hK he => ?_
  refine z_aloadn C rfl rfl ?_
  refine z_geti C rfl zS_1 rfl ?_
  refine z_bipush C rfl ?_
  refine z_icmp C rfl (fun hc1 => ?_) (fun hc1 => ?_)
  · skip
    skip
    refine z_iconst C rfl ?_
    refine z_goto C rfl ?_
    exact z_zreturn C rfl (zER_eq he (by first | rfl | simp_all [xCmp, zhasR, zB0, zBt, zBf]) (by first | rfl | simp_all [xCmp, zhasR, zB0, zBt, zBf])) ⟨Nat.le_refl _, Nat.le_refl _⟩ rfl rfl
  · skip
    skip
    refine z_aloadn C rfl rfl ?_
    refine z_geti C rfl zS_1 rfl ?_
    refine z_bipush C rfl ?_
    refine z_icmp C rfl (fun hc2 => ?_) (fun hc2 => ?_)
    · skip
      skip
      refine z_iconst C rfl ?_
      exact z_zreturn C rfl (zER_eq he (by first | rfl | simp_all [xCmp, zhasR, zB0, zBt, zBf]) (by first | rfl | simp_all [xCmp, zhasR, zB0, zBt, zBf])) ⟨Nat.le_refl _, Nat.le_refl _⟩ rfl rfl
    · skip
      skip
      refine z_iconst C rfl ?_
      refine z_goto C rfl ?_
      exact z_zreturn C rfl (zER_eq he (by first | rfl | simp_all [xCmp, zhasR, zB0, zBt, zBf]) (by first | rfl | simp_all [xCmp, zhasR, zB0, zBt, zBf])) ⟨Nat.le_refl _, Nat.le_refl _⟩ rfl rfl

set_option maxHeartbeats 400000 in
set_option maxRecDepth 20000 in
theorem c_newF {κ : zK} (hκ : zKg κ) {n : Nat} (hn4 : n ≤ 9) {l p : Int32} (h : zH) (hw : zWk h) (hn : h.1 1 2 = nI n) : zRet κ 35 [zr (some 1), zi l, zi p] h (some (zi (nI n))) (znfn h n l p) 0 0 := by
  refine zRet_of hκ (by decide) (by decide +kernel) (Nat.le_of_ble_eq_true rfl) fun ω C hK he => ?_
  refine z_aloadn C rfl rfl ?_
  refine z_geti C rfl zS_1 rfl ?_
  rw [hn]
  refine z_istoren C rfl ?_
  refine z_iloadn C rfl rfl ?_
  refine z_bipush C rfl ?_
  refine z_icmp C rfl (fun hc1 => ?_) (fun hc1 => ?_)
  · skip
    skip
    refine z_iloadn C rfl rfl ?_
    exact z_ireturn C rfl (zER_eq he rfl (by unfold znfn; first | rw [if_pos hlt] | rw [if_neg (fun q => absurd hc1 (nI_ge q (by decide)))])) ⟨Nat.le_refl _, Nat.le_refl _⟩ rfl
  · skip
    skip
    have hlt : n < 9 := Nat.lt_of_not_le fun q => hc1 (nI_le q (by omega))
    refine z_aloadn C rfl rfl ?_
    refine z_gets C rfl zS_1 rfl hw.1.1.2.1.2.1 ?_
    refine z_iloadn C rfl rfl ?_
    refine z_aalds C rfl zS_330 (by decide) (by decide) (zin hlt (by decide)) (by rw [zclamp hlt (by decide)]; exact hw.1.1.2.2.2.2.2.2.1 n hlt) ?_
    refine z_iloadn C rfl rfl ?_
    refine z_puti C rfl (zS_fun n (by omega)) rfl ⟨_, rfl⟩ ?_
    refine z_aloadn C rfl rfl ?_
    refine z_gets C rfl zS_1 rfl hw.1.1.2.1.2.1 ?_
    refine z_iloadn C rfl rfl ?_
    refine z_aalds C rfl zS_330 (by decide) (by decide) (zin hlt (by decide)) (by rw [zclamp hlt (by decide)]; exact hw.1.1.2.2.2.2.2.2.1 n hlt) ?_
    refine z_iloadn C rfl rfl ?_
    refine z_puti C rfl (zS_fun n (by omega)) rfl ⟨_, rfl⟩ ?_
    refine z_aloadn C rfl rfl ?_
    refine z_dup C rfl rfl ?_
    refine z_geti C rfl zS_1 rfl ?_
    rw [zupI_ne (fun q => by omega), zupI_ne (fun q => by omega), hn]
    refine z_iconst C rfl ?_
    refine z_iadd C rfl ?_
    rw [zad1 n]
    refine z_puti C rfl zS_1 rfl ⟨_, rfl⟩ ?_
    refine z_iloadn C rfl rfl ?_
    exact z_ireturn C rfl (zER_eq he rfl (by unfold znfn; first | rw [if_pos hlt] | rw [if_neg (fun q => absurd hc1 (nI_ge q (by decide)))])) ⟨Nat.le_refl _, Nat.le_refl _⟩ rfl

