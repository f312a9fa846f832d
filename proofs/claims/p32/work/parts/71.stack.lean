theorem zwi {x : Int32} {n : Nat} (hn : n < 2 ^ 31) (h : zwithin x (Int32.ofNat n) = true) : ∃ j, j < n ∧ x = nI j := by
  unfold zwithin at h
  rw [Bool.and_eq_true, decide_eq_true_iff, decide_eq_true_iff] at h
  obtain ⟨j, hj, e⟩ := nI_of (x := x) (Int32.not_lt.mpr h.1)
  refine ⟨j, ?_, e⟩
  have h2 := h.2
  rw [e] at h2
  exact (nI_ltI hj hn).mp h2
/-! the stack, functions, calls -/
theorem zsb1 (n : Nat) : nI (n + 1) - Int32.ofInt (Int.ofNat 1) = nI n := by
  have e : nI (n + 1) = nI n + Int32.ofInt (Int.ofNat 1) := (nI_1 n).symm
  rw [e]
  exact Int32.add_sub_cancel _ _
theorem zad1 (n : Nat) : nI n + Int32.ofInt (Int.ofNat 1) = nI (n + 1) := nI_1 n
def zpu (s : Nat) : Nat := if s < 412 then 335 + s else 334
def zpuH (h : zH) (s : Nat) : zH := if s < 412 then zupI h 332 2 (nI (s + 1)) else h
def zpo (s : Nat) : Nat := if s < 1 then 334 else 335 + (s - 1)
def zpoH (h : zH) (s : Nat) : zH := if s < 1 then h else zupI h 332 2 (nI (s - 1))
def zun (x : Int32) : Nat := if zwithin x (Int32.ofNat 412) = true then 335 + x.toNatClampNeg else 334
theorem zun_S (x : Int32) : zS (zun x) = (0, 6, 6) := by
  unfold zun
  split
  · rename_i hb
    obtain ⟨j, hj, e⟩ := zwi (by decide) hb
    rw [e, zclamp hj (by decide)]
    exact zS_cell j hj
  · exact zS_334
theorem zpu_S (s : Nat) : zS (zpu s) = (0, 6, 6) := by
  unfold zpu
  split
  · rename_i hb
    exact zS_cell s hb
  · exact zS_334
theorem zpo_S {s : Nat} (hs : s ≤ 412) : zS (zpo s) = (0, 6, 6) := by
  unfold zpo
  split
  · exact zS_334
  · exact zS_cell (s - 1) (by omega)
set_option maxHeartbeats 4000000 in
set_option maxRecDepth 20000 in
theorem c_push {κ : zK} (hκ : zKg κ) {s : Nat} (hs4 : s ≤ 412) (h : zH) (hF : zFix h.2.2.2) (hs : h.1 332 2 = nI s) : zRet κ 58 [zr (some 332)] h (some (zr (some (zpu s)))) (zpuH h s) 0 0 := by
  refine zRet_of hκ (by decide) (by decide +kernel) (Nat.le_of_ble_eq_true rfl) fun ω C hK he => ?_
  refine z_aloadn C rfl rfl ?_
  refine z_geti C rfl zS_332 rfl ?_
  rw [hs]
  refine z_aloadn C rfl rfl ?_
  refine z_gets C rfl zS_332 rfl hF.2.2.2.1.1 ?_
  refine z_alen C rfl zS_333 (by decide) ?_
  refine z_icmp C rfl (fun hc1 => ?_) (fun hc1 => ?_)
  · skip
    skip
    have hn : s < 412 := (nI_ltI (by omega) (by decide)).mp hc1
    refine z_aloadn C rfl rfl ?_
    refine z_dup C rfl rfl ?_
    refine z_geti C rfl zS_332 rfl ?_
    rw [hs]
    refine z_iconst C rfl ?_
    refine z_iadd C rfl ?_
    rw [zad1 s]
    refine z_puti C rfl zS_332 rfl ⟨_, rfl⟩ ?_
    refine z_aloadn C rfl rfl ?_
    refine z_gets C rfl zS_332 rfl hF.2.2.2.1.1 ?_
    refine z_aloadn C rfl rfl ?_
    refine z_geti C rfl zS_332 rfl ?_
    rw [zupI_at]
    refine z_iconst C rfl ?_
    refine z_isub C rfl ?_
    rw [zsb1 s]
    refine z_aalds C rfl zS_333 (by decide) (by decide) (zin hn (by decide)) (by rw [zclamp hn (by decide)]; exact hF.2.2.2.2.2.2.2.2.2 s hn) ?_
    exact z_areturn C rfl (zER_eq he (by unfold zpu; first | rw [if_neg hn] | rw [if_pos hn]) (by unfold zpuH; first | rw [if_neg hn] | rw [if_pos hn])) ⟨Nat.le_refl _, Nat.le_refl _⟩ rfl
  · skip
    skip
    have hn : ¬ s < 412 := fun q => hc1 (nI_lt q (by decide))
    refine z_aloadn C rfl rfl ?_
    refine z_gets C rfl zS_332 rfl hF.2.2.2.1.2 ?_
    exact z_areturn C rfl (zER_eq he (by unfold zpu; first | rw [if_neg hn] | rw [if_pos hn]) (by unfold zpuH; first | rw [if_neg hn] | rw [if_pos hn])) ⟨Nat.le_refl _, Nat.le_refl _⟩ rfl

set_option maxHeartbeats 4000000 in
set_option maxRecDepth 20000 in
theorem c_pop {κ : zK} (hκ : zKg κ) {s : Nat} (hs4 : s ≤ 412) (h : zH) (hF : zFix h.2.2.2) (hs : h.1 332 2 = nI s) : zRet κ 59 [zr (some 332)] h (some (zr (some (zpo s)))) (zpoH h s) 0 0 := by
  refine zRet_of hκ (by decide) (by decide +kernel) (Nat.le_of_ble_eq_true rfl) fun ω C hK he => ?_
  refine z_aloadn C rfl rfl ?_
  refine z_geti C rfl zS_332 rfl ?_
  rw [hs]
  refine z_iconst C rfl ?_
  refine z_icmp C rfl (fun hc1 => ?_) (fun hc1 => ?_)
  · skip
    skip
    have hn : 1 ≤ s := (nI_leI (a := 1) (by decide) (by omega)).mp hc1
    obtain ⟨n, rfl⟩ : ∃ n, s = n + 1 := ⟨s - 1, by omega⟩
    refine z_aloadn C rfl rfl ?_
    refine z_dup C rfl rfl ?_
    refine z_geti C rfl zS_332 rfl ?_
    rw [hs]
    refine z_iconst C rfl ?_
    refine z_isub C rfl ?_
    rw [zsb1 n]
    refine z_puti C rfl zS_332 rfl ⟨_, rfl⟩ ?_
    refine z_aloadn C rfl rfl ?_
    refine z_gets C rfl zS_332 rfl hF.2.2.2.1.1 ?_
    refine z_aloadn C rfl rfl ?_
    refine z_geti C rfl zS_332 rfl ?_
    rw [zupI_at]
    refine z_aalds C rfl zS_333 (by decide) (by decide) (zin (show n < 412 by omega) (by decide)) (by rw [zclamp (show n < 412 by omega) (by decide)]; exact hF.2.2.2.2.2.2.2.2.2 n (by omega)) ?_
    exact z_areturn C rfl (zER_eq he (by unfold zpo; first | rw [if_pos hn] | (rw [if_neg (by omega)]; rfl)) (by unfold zpoH; first | rw [if_pos hn] | (rw [if_neg (by omega)]; rfl))) ⟨Nat.le_refl _, Nat.le_refl _⟩ rfl
  · skip
    skip
    have hn : s < 1 := Nat.lt_of_not_le fun q => hc1 (nI_le q (by omega))
    refine z_aloadn C rfl rfl ?_
    refine z_gets C rfl zS_332 rfl hF.2.2.2.1.2 ?_
    exact z_areturn C rfl (zER_eq he (by unfold zpo; first | rw [if_pos hn] | (rw [if_neg (by omega)]; rfl)) (by unfold zpoH; first | rw [if_pos hn] | (rw [if_neg (by omega)]; rfl))) ⟨Nat.le_refl _, Nat.le_refl _⟩ rfl

set_option maxHeartbeats 4000000 in
set_option maxRecDepth 20000 in
theorem c_under {κ : zK} (hκ : zKg κ) {x : Int32} (h : zH) (hF : zFix h.2.2.2) : zRet κ 60 [zr (some 332), zi x] h (some (zr (some (zun (h.1 332 2 - Int32.ofInt (Int.ofNat 1) - x))))) h 0 0 := by
  refine zRet_of hκ (by decide) (by decide +kernel) (Nat.le_of_ble_eq_true rfl) fun ω C hK he => ?_
  refine z_aloadn C rfl rfl ?_
  refine z_geti C rfl zS_332 rfl ?_
  refine z_iconst C rfl ?_
  refine z_isub C rfl ?_
  refine z_iloadn C rfl rfl ?_
  refine z_isub C rfl ?_
  refine z_istoren C rfl ?_
  refine z_iloadn C rfl rfl ?_
  refine z_aloadn C rfl rfl ?_
  refine z_gets C rfl zS_332 rfl hF.2.2.2.1.1 ?_
  refine z_alen C rfl zS_333 (by decide) ?_
  refine z_calls C rfl ⟨by decide, by decide, by decide⟩ (c_isWithin (zKg_of C) _) rfl rfl (Nat.le_of_ble_eq_true rfl) ⟨Nat.le_of_ble_eq_true rfl, Nat.le_of_ble_eq_true rfl⟩ ?_
  refine z_if C rfl (fun hc1 => ?_) (fun hc1 => ?_)
  · skip
    skip
    refine z_aloadn C rfl rfl ?_
    refine z_gets C rfl zS_332 rfl hF.2.2.2.1.2 ?_
    exact z_areturn C rfl (zER_eq he (by first | (unfold zun; rw [if_pos (zbt hc1), e, zclamp hj (by decide)]) | (unfold zun; rw [Eq.mp zB0 hc1]; rfl)) rfl) ⟨Nat.le_refl _, Nat.le_refl _⟩ rfl
  · skip
    skip
    obtain ⟨j, hj, e⟩ := zwi (by decide) (zbt hc1)
    refine z_aloadn C rfl rfl ?_
    refine z_gets C rfl zS_332 rfl hF.2.2.2.1.1 ?_
    refine z_iloadn C rfl rfl ?_
    refine z_aalds C rfl zS_333 (by decide) (by decide) (by rw [e]; exact zin hj (by decide)) (by rw [e, zclamp hj (by decide)]; exact hF.2.2.2.2.2.2.2.2.2 j hj) ?_
    refine z_goto C rfl ?_
    exact z_areturn C rfl (zER_eq he (by first | (unfold zun; rw [if_pos (zbt hc1), e, zclamp hj (by decide)]) | (unfold zun; rw [Eq.mp zB0 hc1]; rfl)) rfl) ⟨Nat.le_refl _, Nat.le_refl _⟩ rfl

def zhasP (h : zH) (t : Nat) (p : Int32) : Bool := decide (0 ≤ p) && decide (p ≤ h.1 t 4)
theorem zle1 {x y : Int32} (h : x < y) : ¬ y ≤ x := Int32.not_le.mpr h

set_option maxHeartbeats 4000000 in
set_option maxRecDepth 20000 in
theorem c_hasPlace {κ : zK} (hκ : zKg κ) {f : Nat} (hf : f < 10) {p : Int32} (h : zH) : zRet κ 10 [zr (some (751 + 3 * f)), zi p] h (some (zi (zB (zhasP h (751 + 3 * f) p)))) h 0 0 := by
  refine zRet_of hκ (by decide) (by decide +kernel) (Nat.le_of_ble_eq_true rfl) fun ω C hK he => ?_
  refine z_iloadn C rfl rfl ?_
  refine z_if C rfl (fun hc1 => ?_) (fun hc1 => ?_)
  · skip
    skip
    refine z_iconst C rfl ?_
    exact z_zreturn C rfl (zER_eq he (by first | rfl | simp_all [xCmp, zhasP, zle0, zle1, zB0, zBt, zBf]) (by first | rfl | simp_all [xCmp, zhasP, zle0, zle1, zB0, zBt, zBf])) ⟨Nat.le_refl _, Nat.le_refl _⟩ rfl rfl
  · skip
    skip
    refine z_iloadn C rfl rfl ?_
    refine z_aloadn C rfl rfl ?_
    refine z_geti C rfl (zS_fun f hf) rfl ?_
    refine z_icmp C rfl (fun hc2 => ?_) (fun hc2 => ?_)
    · skip
      skip
      refine z_iconst C rfl ?_
      exact z_zreturn C rfl (zER_eq he (by first | rfl | simp_all [xCmp, zhasP, zle0, zle1, zB0, zBt, zBf]) (by first | rfl | simp_all [xCmp, zhasP, zle0, zle1, zB0, zBt, zBf])) ⟨Nat.le_refl _, Nat.le_refl _⟩ rfl rfl
    · skip
      skip
      refine z_iconst C rfl ?_
      refine z_goto C rfl ?_
      exact z_zreturn C rfl (zER_eq he (by first | rfl | simp_all [xCmp, zhasP, zle0, zle1, zB0, zBt, zBf]) (by first | rfl | simp_all [xCmp, zhasP, zle0, zle1, zB0, zBt, zBf])) ⟨Nat.le_refl _, Nat.le_refl _⟩ rfl rfl

def ztakes (h : zH) (t : Nat) (p l : Int32) : Bool := (decide (0 ≤ h.1 t 7) && decide (h.1 t 5 ≤ p) && decide (p ≤ h.1 t 6)) && (decide (¬ h.1 t 8 = 0) || decide (l = h.1 t 0))

set_option maxHeartbeats 4000000 in
set_option maxRecDepth 20000 in
theorem c_takes {κ : zK} (hκ : zKg κ) {f : Nat} (hf : f < 10) {p l : Int32} (h : zH) : zRet κ 11 [zr (some (751 + 3 * f)), zi p, zi l] h (some (zi (zB (ztakes h (751 + 3 * f) p l)))) h 0 0 := by
  refine zRet_of hκ (by decide) (by decide +kernel) (Nat.le_of_ble_eq_true rfl) fun ω C hK he => ?_
  refine z_aloadn C rfl rfl ?_
  refine z_geti C rfl (zS_fun f hf) rfl ?_
  refine z_if C rfl (fun hc1 => ?_) (fun hc1 => ?_)
  · skip
    skip
    refine z_iconst C rfl ?_
    refine z_istoren C rfl ?_
    refine z_iloadn C rfl rfl ?_
    refine z_if C rfl (fun hc2 => ?_) (fun hc2 => ?_)
    · skip
      skip
      refine z_iconst C rfl ?_
      exact z_zreturn C rfl (zER_eq he (by first | rfl | simp_all [xCmp, ztakes, zle0, zle1, zB0, zBt, zBf]) (by first | rfl | simp_all [xCmp, ztakes, zle0, zle1, zB0, zBt, zBf])) ⟨Nat.le_refl _, Nat.le_refl _⟩ rfl rfl
    · skip
      skip
      refine z_aloadn C rfl rfl ?_
      refine z_geti C rfl (zS_fun f hf) rfl ?_
      refine z_if C rfl (fun hc3 => ?_) (fun hc3 => ?_)
      · skip
        skip
        refine z_iconst C rfl ?_
        refine z_goto C rfl ?_
        exact z_zreturn C rfl (zER_eq he (by first | rfl | simp_all [xCmp, ztakes, zle0, zle1, zB0, zBt, zBf]) (by first | rfl | simp_all [xCmp, ztakes, zle0, zle1, zB0, zBt, zBf])) ⟨Nat.le_refl _, Nat.le_refl _⟩ rfl rfl
      · skip
        skip
        refine z_iloadn C rfl rfl ?_
        refine z_aloadn C rfl rfl ?_
        refine z_geti C rfl (zS_fun f hf) rfl ?_
        refine z_icmp C rfl (fun hc4 => ?_) (fun hc4 => ?_)
        · skip
          skip
          refine z_iconst C rfl ?_
          exact z_zreturn C rfl (zER_eq he (by first | rfl | simp_all [xCmp, ztakes, zle0, zle1, zB0, zBt, zBf]) (by first | rfl | simp_all [xCmp, ztakes, zle0, zle1, zB0, zBt, zBf])) ⟨Nat.le_refl _, Nat.le_refl _⟩ rfl rfl
        · skip
          skip
          refine z_iconst C rfl ?_
          refine z_goto C rfl ?_
          exact z_zreturn C rfl (zER_eq he (by first | rfl | simp_all [xCmp, ztakes, zle0, zle1, zB0, zBt, zBf]) (by first | rfl | simp_all [xCmp, ztakes, zle0, zle1, zB0, zBt, zBf])) ⟨Nat.le_refl _, Nat.le_refl _⟩ rfl rfl
  · skip
    skip
    refine z_iloadn C rfl rfl ?_
    refine z_aloadn C rfl rfl ?_
    refine z_geti C rfl (zS_fun f hf) rfl ?_
    refine z_icmp C rfl (fun hc5 => ?_) (fun hc5 => ?_)
    · skip
      skip
      refine z_iconst C rfl ?_
      refine z_istoren C rfl ?_
      refine z_iloadn C rfl rfl ?_
      refine z_if C rfl (fun hc6 => ?_) (fun hc6 => ?_)
      · skip
        skip
        refine z_iconst C rfl ?_
        exact z_zreturn C rfl (zER_eq he (by first | rfl | simp_all [xCmp, ztakes, zle0, zle1, zB0, zBt, zBf]) (by first | rfl | simp_all [xCmp, ztakes, zle0, zle1, zB0, zBt, zBf])) ⟨Nat.le_refl _, Nat.le_refl _⟩ rfl rfl
      · skip
        skip
        refine z_aloadn C rfl rfl ?_
        refine z_geti C rfl (zS_fun f hf) rfl ?_
        refine z_if C rfl (fun hc7 => ?_) (fun hc7 => ?_)
        · skip
          skip
          refine z_iconst C rfl ?_
          refine z_goto C rfl ?_
          exact z_zreturn C rfl (zER_eq he (by first | rfl | simp_all [xCmp, ztakes, zle0, zle1, zB0, zBt, zBf]) (by first | rfl | simp_all [xCmp, ztakes, zle0, zle1, zB0, zBt, zBf])) ⟨Nat.le_refl _, Nat.le_refl _⟩ rfl rfl
        · skip
          skip
          refine z_iloadn C rfl rfl ?_
          refine z_aloadn C rfl rfl ?_
          refine z_geti C rfl (zS_fun f hf) rfl ?_
          refine z_icmp C rfl (fun hc8 => ?_) (fun hc8 => ?_)
          · skip
            skip
            refine z_iconst C rfl ?_
            exact z_zreturn C rfl (zER_eq he (by first | rfl | simp_all [xCmp, ztakes, zle0, zle1, zB0, zBt, zBf]) (by first | rfl | simp_all [xCmp, ztakes, zle0, zle1, zB0, zBt, zBf])) ⟨Nat.le_refl _, Nat.le_refl _⟩ rfl rfl
          · skip
            skip
            refine z_iconst C rfl ?_
            refine z_goto C rfl ?_
            exact z_zreturn C rfl (zER_eq he (by first | rfl | simp_all [xCmp, ztakes, zle0, zle1, zB0, zBt, zBf]) (by first | rfl | simp_all [xCmp, ztakes, zle0, zle1, zB0, zBt, zBf])) ⟨Nat.le_refl _, Nat.le_refl _⟩ rfl rfl
    · skip
      skip
      refine z_iloadn C rfl rfl ?_
      refine z_aloadn C rfl rfl ?_
      refine z_geti C rfl (zS_fun f hf) rfl ?_
      refine z_icmp C rfl (fun hc9 => ?_) (fun hc9 => ?_)
      · skip
        skip
        refine z_iconst C rfl ?_
        refine z_istoren C rfl ?_
        refine z_iloadn C rfl rfl ?_
        refine z_if C rfl (fun hc10 => ?_) (fun hc10 => ?_)
        · skip
          skip
          refine z_iconst C rfl ?_
          exact z_zreturn C rfl (zER_eq he (by first | rfl | simp_all [xCmp, ztakes, zle0, zle1, zB0, zBt, zBf]) (by first | rfl | simp_all [xCmp, ztakes, zle0, zle1, zB0, zBt, zBf])) ⟨Nat.le_refl _, Nat.le_refl _⟩ rfl rfl
        · skip
          skip
          refine z_aloadn C rfl rfl ?_
          refine z_geti C rfl (zS_fun f hf) rfl ?_
          refine z_if C rfl (fun hc11 => ?_) (fun hc11 => ?_)
          · skip
            skip
            refine z_iconst C rfl ?_
            refine z_goto C rfl ?_
            exact z_zreturn C rfl (zER_eq he (by first | rfl | simp_all [xCmp, ztakes, zle0, zle1, zB0, zBt, zBf]) (by first | rfl | simp_all [xCmp, ztakes, zle0, zle1, zB0, zBt, zBf])) ⟨Nat.le_refl _, Nat.le_refl _⟩ rfl rfl
          · skip
            skip
            refine z_iloadn C rfl rfl ?_
            refine z_aloadn C rfl rfl ?_
            refine z_geti C rfl (zS_fun f hf) rfl ?_
            refine z_icmp C rfl (fun hc12 => ?_) (fun hc12 => ?_)
            · skip
              skip
              refine z_iconst C rfl ?_
              exact z_zreturn C rfl (zER_eq he (by first | rfl | simp_all [xCmp, ztakes, zle0, zle1, zB0, zBt, zBf]) (by first | rfl | simp_all [xCmp, ztakes, zle0, zle1, zB0, zBt, zBf])) ⟨Nat.le_refl _, Nat.le_refl _⟩ rfl rfl
            · skip
              skip
              refine z_iconst C rfl ?_
              refine z_goto C rfl ?_
              exact z_zreturn C rfl (zER_eq he (by first | rfl | simp_all [xCmp, ztakes, zle0, zle1, zB0, zBt, zBf]) (by first | rfl | simp_all [xCmp, ztakes, zle0, zle1, zB0, zBt, zBf])) ⟨Nat.le_refl _, Nat.le_refl _⟩ rfl rfl
      · skip
        skip
        refine z_iconst C rfl ?_
        refine z_goto C rfl ?_
        refine z_istoren C rfl ?_
        refine z_iloadn C rfl rfl ?_
        refine z_if C rfl (fun hc13 => ?_) (fun hc13 => ?_)
        · skip
          skip
          refine z_iconst C rfl ?_
          exact z_zreturn C rfl (zER_eq he (by first | rfl | simp_all [xCmp, ztakes, zle0, zle1, zB0, zBt, zBf]) (by first | rfl | simp_all [xCmp, ztakes, zle0, zle1, zB0, zBt, zBf])) ⟨Nat.le_refl _, Nat.le_refl _⟩ rfl rfl
        · skip
          skip
          refine z_aloadn C rfl rfl ?_
          refine z_geti C rfl (zS_fun f hf) rfl ?_
          refine z_if C rfl (fun hc14 => ?_) (fun hc14 => ?_)
          · skip
            skip
            refine z_iconst C rfl ?_
            refine z_goto C rfl ?_
            exact z_zreturn C rfl (zER_eq he (by first | rfl | simp_all [xCmp, ztakes, zle0, zle1, zB0, zBt, zBf]) (by first | rfl | simp_all [xCmp, ztakes, zle0, zle1, zB0, zBt, zBf])) ⟨Nat.le_refl _, Nat.le_refl _⟩ rfl rfl
          · skip
            skip
            refine z_iloadn C rfl rfl ?_
            refine z_aloadn C rfl rfl ?_
            refine z_geti C rfl (zS_fun f hf) rfl ?_
            refine z_icmp C rfl (fun hc15 => ?_) (fun hc15 => ?_)
            · skip
              skip
              refine z_iconst C rfl ?_
              exact z_zreturn C rfl (zER_eq he (by first | rfl | simp_all [xCmp, ztakes, zle0, zle1, zB0, zBt, zBf]) (by first | rfl | simp_all [xCmp, ztakes, zle0, zle1, zB0, zBt, zBf])) ⟨Nat.le_refl _, Nat.le_refl _⟩ rfl rfl
            · skip
              skip
              refine z_iconst C rfl ?_
              refine z_goto C rfl ?_
              exact z_zreturn C rfl (zER_eq he (by first | rfl | simp_all [xCmp, ztakes, zle0, zle1, zB0, zBt, zBf]) (by first | rfl | simp_all [xCmp, ztakes, zle0, zle1, zB0, zBt, zBf])) ⟨Nat.le_refl _, Nat.le_refl _⟩ rfl rfl

def zapp (h : zH) (f n : Nat) (c x : Int32) : zH := if n < 20 then zupI (zupI (zupI h (752 + 3 * f) n c) (753 + 3 * f) n x) (751 + 3 * f) 4 (nI (n + 1)) else h

set_option maxHeartbeats 4000000 in
set_option maxRecDepth 20000 in
theorem c_append {κ : zK} (hκ : zKg κ) {f : Nat} (hf : f < 10) {n : Nat} (hn4 : n ≤ 20) {c x : Int32} (hc : vp_nar .char c = c) (h : zH) (hF : zFix h.2.2.2) (hs : h.1 (751 + 3 * f) 4 = nI n) : zRet κ 9 [zr (some (751 + 3 * f)), zi c, zi x] h (some (zi (nI n))) (zapp h f n c x) 0 0 := by
  refine zRet_of hκ (by decide) (by decide +kernel) (Nat.le_of_ble_eq_true rfl) fun ω C hK he => ?_
  refine z_aloadn C rfl rfl ?_
  refine z_geti C rfl (zS_fun f hf) rfl ?_
  rw [hs]
  refine z_istoren C rfl ?_
  refine z_iloadn C rfl rfl ?_
  refine z_bipush C rfl ?_
  refine z_icmp C rfl (fun hc1 => ?_) (fun hc1 => ?_)
  · skip
    skip
    skip
    refine z_iloadn C rfl rfl ?_
    exact z_ireturn C rfl (zER_eq he rfl (by unfold zapp; first | rw [if_pos hn] | (rw [if_neg (fun q => absurd hc1 (nI_ge q (by decide)))]))) ⟨Nat.le_refl _, Nat.le_refl _⟩ rfl
  · skip
    skip
    have hn : n < 20 := Nat.lt_of_not_le fun q => hc1 (nI_le q (by omega))
    refine z_aloadn C rfl rfl ?_
    refine z_gets C rfl (zS_fun f hf) rfl (hF.2.2.2.2.2.2.2.1 f hf).1 ?_
    refine z_iloadn C rfl rfl ?_
    refine z_iloadn C rfl rfl ?_
    refine z_cast C rfl (zS_fops f hf) (zin hn (by decide)) hc ?_
    rw [zclamp hn (by decide)]
    refine z_aloadn C rfl rfl ?_
    refine z_gets C rfl (zS_fun f hf) rfl (hF.2.2.2.2.2.2.2.1 f hf).2 ?_
    refine z_iloadn C rfl rfl ?_
    refine z_iloadn C rfl rfl ?_
    refine z_iast C rfl (zS_fnum f hf) (zin hn (by decide)) ?_
    rw [zclamp hn (by decide)]
    refine z_aloadn C rfl rfl ?_
    refine z_dup C rfl rfl ?_
    refine z_geti C rfl (zS_fun f hf) rfl ?_
    rw [zupI_ne (fun q => by omega), zupI_ne (fun q => by omega), hs]
    refine z_iconst C rfl ?_
    refine z_iadd C rfl ?_
    rw [zad1 n]
    refine z_puti C rfl (zS_fun f hf) rfl ⟨_, rfl⟩ ?_
    skip
    refine z_iloadn C rfl rfl ?_
    exact z_ireturn C rfl (zER_eq he rfl (by unfold zapp; first | rw [if_pos hn] | (rw [if_neg (fun q => absurd hc1 (nI_ge q (by decide)))]))) ⟨Nat.le_refl _, Nat.le_refl _⟩ rfl

def zbeh (h : zH) (c t : Nat) : Bool := decide (h.1 c 4 < 0) || (decide (h.1 t 4 ≤ h.1 c 4) || decide (20 ≤ h.1 c 4))
theorem zlt1 {x y : Int32} (h : y ≤ x) : ¬ x < y := Int32.not_lt.mpr h

set_option maxHeartbeats 4000000 in
set_option maxRecDepth 20000 in
theorem c_behind {κ : zK} (hκ : zKg κ) {c f : Nat} (hc : c < 12) (hf10 : f < 10) (h : zH) (hf : h.2.2.2 (781 + 6 * c) 0 = some (751 + 3 * f)) : zRet κ 7 [zr (some (781 + 6 * c))] h (some (zi (zB (zbeh h (781 + 6 * c) (751 + 3 * f))))) h 0 0 := by
  refine zRet_of hκ (by decide) (by decide +kernel) (Nat.le_of_ble_eq_true rfl) fun ω C hK he => ?_
  refine z_aloadn C rfl rfl ?_
  refine z_geti C rfl (zS_call c hc) rfl ?_
  refine z_if C rfl (fun hc1 => ?_) (fun hc1 => ?_)
  · skip
    skip
    refine z_iconst C rfl ?_
    refine z_goto C rfl ?_
    exact z_zreturn C rfl (zER_eq he (by first | rfl | simp_all [xCmp, zbeh, zle0, zle1, zlt1, zB0, zBt, zBf]) (by first | rfl | simp_all [xCmp, zbeh, zle0, zle1, zlt1, zB0, zBt, zBf])) ⟨Nat.le_refl _, Nat.le_refl _⟩ rfl rfl
  · skip
    skip
    refine z_aloadn C rfl rfl ?_
    refine z_geti C rfl (zS_call c hc) rfl ?_
    refine z_aloadn C rfl rfl ?_
    refine z_gets C rfl (zS_call c hc) rfl hf ?_
    refine z_geti C rfl (zS_fun f hf10) rfl ?_
    refine z_icmp C rfl (fun hc2 => ?_) (fun hc2 => ?_)
    · skip
      skip
      refine z_iconst C rfl ?_
      refine z_goto C rfl ?_
      exact z_zreturn C rfl (zER_eq he (by first | rfl | simp_all [xCmp, zbeh, zle0, zle1, zlt1, zB0, zBt, zBf]) (by first | rfl | simp_all [xCmp, zbeh, zle0, zle1, zlt1, zB0, zBt, zBf])) ⟨Nat.le_refl _, Nat.le_refl _⟩ rfl rfl
    · skip
      skip
      refine z_aloadn C rfl rfl ?_
      refine z_geti C rfl (zS_call c hc) rfl ?_
      refine z_bipush C rfl ?_
      refine z_icmp C rfl (fun hc3 => ?_) (fun hc3 => ?_)
      · skip
        skip
        refine z_iconst C rfl ?_
        exact z_zreturn C rfl (zER_eq he (by first | rfl | simp_all [xCmp, zbeh, zle0, zle1, zlt1, zB0, zBt, zBf]) (by first | rfl | simp_all [xCmp, zbeh, zle0, zle1, zlt1, zB0, zBt, zBf])) ⟨Nat.le_refl _, Nat.le_refl _⟩ rfl rfl
      · skip
        skip
        refine z_iconst C rfl ?_
        refine z_goto C rfl ?_
        exact z_zreturn C rfl (zER_eq he (by first | rfl | simp_all [xCmp, zbeh, zle0, zle1, zlt1, zB0, zBt, zBf]) (by first | rfl | simp_all [xCmp, zbeh, zle0, zle1, zlt1, zB0, zBt, zBf])) ⟨Nat.le_refl _, Nat.le_refl _⟩ rfl rfl

