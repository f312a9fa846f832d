/-! things: what they count -/
def zisOf (h : zH) (t : Nat) (w : Int32) : Bool := decide (0 ≤ h.1 t 0) && decide (h.1 t 1 = w)
def zown (h : zH) (t : Nat) : Int32 := h.1 t 4 + (if h.1 t 1 = 0 ∧ ¬ h.1 t 3 = 0 then 1 else 0)
def zheld (h : zH) (t : Nat) : Int32 := if h.1 t 1 = 0 then h.1 t 3 else zB (decide (0 < h.1 t 4))
def zfree (h : zH) (t : Nat) : zH := zupI (zupI h t 0 (Int32.ofInt (Int.negSucc 0))) 2 5 (h.1 2 5 + 1)
def zaddIn (h : zH) (k : Nat) (c : Int32) : zH := if zisRef h k = true then (match h.2.2.2 k 5 with | none => h | some t => zupI h t 4 (h.1 t 4 + c)) else h
theorem zaddIn_R {h : zH} {k : Nat} {c : Int32} : (zaddIn h k c).2 = h.2 := by
  unfold zaddIn
  split
  · split <;> rfl
  · rfl
theorem zaddIn_RR {h : zH} {k : Nat} {c : Int32} : (zaddIn h k c).2.2.2 = h.2.2.2 := congrArg (fun z => z.2.2) zaddIn_R
def zaddF (r : Nat) (c : Int32) : Nat → Nat → zH → zH
  | 0, _, h => h
  | m + 1, i, h => zaddF r c m (i + 1) (zaddIn h (32 + 5 * r + i) c)
theorem zaddF_R {r : Nat} {c : Int32} : ∀ (m i : Nat) (h : zH), (zaddF r c m i h).2 = h.2
  | 0, _, _ => rfl
  | m + 1, i, h => (zaddF_R m (i + 1) _).trans zaddIn_R
theorem zaddF_RR {r : Nat} {c : Int32} {m i : Nat} {h : zH} : (zaddF r c m i h).2.2.2 = h.2.2.2 := congrArg (fun z => z.2.2) (zaddF_R m i h)
theorem zref_t {h : zH} (hS : zShp h.2.2.2) {k : Nat} (hk : zS k = (0, 6, 6)) (hr : zisRef h k = true) : ∃ t, h.2.2.2 k 5 = some t ∧ zTh t := by
  unfold zisRef at hr
  rw [Bool.and_eq_true] at hr
  cases hq : h.2.2.2 k 5 with
  | none => rw [hq] at hr; cases hr.2
  | some t => exact ⟨t, rfl, hS.2.1 k hk t hq⟩
theorem zbt {b : Bool} (h : ¬ zB b = 0) : b = true := by
  cases b with
  | true => rfl
  | false => exact absurd rfl h
theorem zle0 {x : Int32} (h : x < 0) : ¬ 0 ≤ x := Int32.not_le.mpr h
theorem zgt0 {x : Int32} (h : x ≤ 0) : ¬ 0 < x := Int32.not_lt.mpr h
set_option maxHeartbeats 4000000 in
set_option maxRecDepth 20000 in
theorem c_isOf {κ : zK} (hκ : zKg κ) {t : Nat} {w : Int32} (hS : zS t = (0, 5, 6)) (h : zH) : zRet κ 67 [zr (some t), zi w] h (some (zi (zB (zisOf h t w)))) h 0 0 := by
  refine zRet_of hκ (by decide) (by decide +kernel) (Nat.le_of_ble_eq_true rfl) fun ω C hK he => ?_
  refine z_aloadn C rfl rfl ?_
  refine z_geti C rfl (by first | assumption | rfl | decide) rfl ?_
  refine z_if C rfl (fun hc1 => ?_) (fun hc1 => ?_)
  · skip
    skip
    refine z_iconst C rfl ?_
    exact z_zreturn C rfl (zER_eq he (by first | rfl | simp_all [xCmp, zisOf, zle0, zB0, zBt, zBf]) (by first | rfl | simp_all [xCmp, zisOf, zle0, zB0, zBt, zBf])) ⟨Nat.le_refl _, Nat.le_refl _⟩ rfl rfl
  · skip
    skip
    refine z_aloadn C rfl rfl ?_
    refine z_geti C rfl (by first | assumption | rfl | decide) rfl ?_
    refine z_iloadn C rfl rfl ?_
    refine z_icmp C rfl (fun hc2 => ?_) (fun hc2 => ?_)
    · skip
      skip
      refine z_iconst C rfl ?_
      exact z_zreturn C rfl (zER_eq he (by first | rfl | simp_all [xCmp, zisOf, zle0, zB0, zBt, zBf]) (by first | rfl | simp_all [xCmp, zisOf, zle0, zB0, zBt, zBf])) ⟨Nat.le_refl _, Nat.le_refl _⟩ rfl rfl
    · skip
      skip
      refine z_iconst C rfl ?_
      refine z_goto C rfl ?_
      exact z_zreturn C rfl (zER_eq he (by first | rfl | simp_all [xCmp, zisOf, zle0, zB0, zBt, zBf]) (by first | rfl | simp_all [xCmp, zisOf, zle0, zB0, zBt, zBf])) ⟨Nat.le_refl _, Nat.le_refl _⟩ rfl rfl

set_option maxHeartbeats 4000000 in
set_option maxRecDepth 20000 in
theorem c_ownCount {κ : zK} (hκ : zKg κ) {t : Nat} (hS : zS t = (0, 5, 6)) (h : zH) : zRet κ 68 [zr (some t)] h (some (zi (zown h t))) h 0 0 := by
  refine zRet_of hκ (by decide) (by decide +kernel) (Nat.le_of_ble_eq_true rfl) fun ω C hK he => ?_
  refine z_aloadn C rfl rfl ?_
  refine z_geti C rfl (by first | assumption | rfl | decide) rfl ?_
  refine z_aloadn C rfl rfl ?_
  refine z_geti C rfl (by first | assumption | rfl | decide) rfl ?_
  refine z_if C rfl (fun hc1 => ?_) (fun hc1 => ?_)
  · skip
    skip
    refine z_iconst C rfl ?_
    refine z_iadd C rfl ?_
    exact z_ireturn C rfl (zER_eq he (by first | rfl | simp_all [xCmp, zown, zB0, zBt, zBf]) (by first | rfl | simp_all [xCmp, zown, zB0, zBt, zBf])) ⟨Nat.le_refl _, Nat.le_refl _⟩ rfl
  · skip
    skip
    refine z_aloadn C rfl rfl ?_
    refine z_geti C rfl (by first | assumption | rfl | decide) rfl ?_
    refine z_if C rfl (fun hc2 => ?_) (fun hc2 => ?_)
    · skip
      skip
      refine z_iconst C rfl ?_
      refine z_iadd C rfl ?_
      exact z_ireturn C rfl (zER_eq he (by first | rfl | simp_all [xCmp, zown, zB0, zBt, zBf]) (by first | rfl | simp_all [xCmp, zown, zB0, zBt, zBf])) ⟨Nat.le_refl _, Nat.le_refl _⟩ rfl
    · skip
      skip
      refine z_iconst C rfl ?_
      refine z_goto C rfl ?_
      refine z_iadd C rfl ?_
      exact z_ireturn C rfl (zER_eq he (by first | rfl | simp_all [xCmp, zown, zB0, zBt, zBf]) (by first | rfl | simp_all [xCmp, zown, zB0, zBt, zBf])) ⟨Nat.le_refl _, Nat.le_refl _⟩ rfl

set_option maxHeartbeats 4000000 in
set_option maxRecDepth 20000 in
theorem c_free {κ : zK} (hκ : zKg κ) {t : Nat} (hS : zS t = (0, 5, 6)) (h : zH) : zRet κ 24 [zr (some 2), zr (some t)] h none (zfree h t) 0 0 := by
  refine zRet_of hκ (by decide) (by decide +kernel) (Nat.le_of_ble_eq_true rfl) fun ω C hK he => ?_
  refine z_aloadn C rfl rfl ?_
  refine z_iconst C rfl ?_
  refine z_puti C rfl hS rfl ⟨_, rfl⟩ ?_
  refine z_aloadn C rfl rfl ?_
  refine z_dup C rfl rfl ?_
  refine z_geti C rfl zS_2 rfl ?_
  refine z_iconst C rfl ?_
  refine z_iadd C rfl ?_
  refine z_puti C rfl zS_2 rfl ⟨_, rfl⟩ ?_
  exact z_return C rfl (zER_eq he rfl (by have ht2 : t ≠ 2 := (fun e => by rw [e, zS_2] at hS; cases hS); show zupI (zupI h t 0 _) 2 5 (h.1 2 5 + 1) = zupI (zupI h t 0 _) 2 5 ((zupI h t 0 _).1 2 5 + 1); rw [zupI_ne (fun q => ht2 q.1.symm)])) ⟨Nat.le_refl _, Nat.le_refl _⟩ rfl

set_option maxHeartbeats 4000000 in
set_option maxRecDepth 20000 in
theorem c_addInAsh {κ : zK} (hκ : zKg κ) {k : Nat} {c : Int32} (hS : zS k = (0, 6, 6)) (h : zH) (hw : zShp h.2.2.2) : zRet κ 22 [zr (some k), zi c] h none (zaddIn h k c) 0 0 := by
  refine zRet_of hκ (by decide) (by decide +kernel) (Nat.le_of_ble_eq_true rfl) fun ω C hK he => ?_
  refine z_aloadn C rfl rfl ?_
  refine z_callv C rfl ⟨by decide, by decide⟩ (by first | assumption | rfl | decide) (c_isReference (zKg_of C) hS _) rfl rfl (Nat.le_of_ble_eq_true rfl) ⟨Nat.le_of_ble_eq_true rfl, Nat.le_of_ble_eq_true rfl⟩ ?_
  refine z_if C rfl (fun hc1 => ?_) (fun hc1 => ?_)
  · skip
    skip
    exact z_return C rfl (zER_eq he rfl (by first | (unfold zaddIn; rw [if_pos (zbt hc1), ht]) | (have e : zisRef h k = false := Eq.mp zB0 hc1; unfold zaddIn; rw [e]; rfl))) ⟨Nat.le_refl _, Nat.le_refl _⟩ rfl
  · skip
    skip
    obtain ⟨t, ht, hth⟩ := zref_t hw hS (zbt hc1)
    refine z_aloadn C rfl rfl ?_
    refine z_gets C rfl hS rfl ht ?_
    refine z_dup C rfl rfl ?_
    refine z_geti C rfl (zTh_S hth) rfl ?_
    refine z_iloadn C rfl rfl ?_
    refine z_iadd C rfl ?_
    refine z_puti C rfl (zTh_S hth) rfl ⟨_, rfl⟩ ?_
    exact z_return C rfl (zER_eq he rfl (by first | (unfold zaddIn; rw [if_pos (zbt hc1), ht]) | (have e : zisRef h k = false := Eq.mp zB0 hc1; unfold zaddIn; rw [e]; rfl))) ⟨Nat.le_refl _, Nat.le_refl _⟩ rfl

set_option maxHeartbeats 4000000 in
set_option maxRecDepth 20000 in
theorem l_addF {ω : zO} (C : zX ω 21) {r : Nat} (hr : r < 60) {c : Int32} : ∀ (m i : Nat) (h : zH), i + m = 3 → zShp h.2.2.2 → ZG ω 21 35 [] [] (zaddF r c m i h) 0 0 → ZG ω 21 11 [(4, zi (nI i)), (3, zi (nI 3)), (2, zr (some (31 + 5 * r))), (1, zi c)] [] h 0 0 := by
  intro m
  induction m with
  | zero =>
    intro i h hi hI kk
    obtain rfl : i = 3 := by omega
    refine z_iload C rfl rfl ?_
    refine z_iloadn C rfl rfl ?_
    refine z_icmp C rfl (fun hc => ?_) (fun hc => absurd (Int32.le_refl _) hc)
    exact z_ll [] trivial kk
  | succ m ih =>
    intro i h hi hI kk
    have hiN : i < 3 := by omega
    refine z_iload C rfl rfl ?_
    refine z_iloadn C rfl rfl ?_
    refine z_icmp C rfl (fun hc => absurd hc (nI_ge hiN (by decide))) (fun hc => ?_)
    refine z_aloadn C rfl rfl ?_
    refine z_iload C rfl rfl ?_
    refine z_aalds C rfl (zS_tarr r hr) (by decide) (by decide) (zin hiN (by decide)) (by rw [zclamp hiN (by decide)]; exact (hI.1.2.2.2.2.2.1 r hr).2.2 i hiN) ?_
    refine z_astore C rfl ?_
    refine z_aload C rfl rfl ?_
    refine z_iloadn C rfl rfl ?_
    refine z_calls C rfl ⟨by decide, by decide, by decide⟩ (c_addInAsh (zKg_of C) (zS_tval r hr i hiN) _ hI) rfl rfl (Nat.le_of_ble_eq_true rfl) ⟨Nat.le_of_ble_eq_true rfl, Nat.le_of_ble_eq_true rfl⟩ ?_
    refine z_iinc C rfl rfl ?_
    refine z_goto C rfl ?_
    exact z_ll [(4, zi (nI (i + 1))), (3, zi (nI 3)), (2, zr (some (31 + 5 * r))), (1, zi c)] ⟨znx i, rfl, rfl, rfl, trivial⟩ (ih (i + 1) _ (by omega) (by rw [zaddIn_RR]; exact hI) kk)
set_option maxHeartbeats 4000000 in
set_option maxRecDepth 20000 in
theorem c_addFieldsInAsh {κ : zK} (hκ : zKg κ) {r : Nat} (hr : r < 60) {c : Int32} (h : zH) (hw : zShp h.2.2.2) : zRet κ 21 [zr (some (30 + 5 * r)), zi c] h none (zaddF r c 3 0 h) 0 0 := by
  refine zRet_of hκ (by decide) (by decide +kernel) (Nat.le_of_ble_eq_true rfl) fun ω C hK he => ?_
  refine z_aloadn C rfl rfl ?_
  refine z_gets C rfl (zS_thing r hr) rfl (hw.1.2.2.2.2.2.1 r hr).2.1 ?_
  refine z_astoren C rfl ?_
  refine z_aloadn C rfl rfl ?_
  refine z_alen C rfl (zS_tarr r hr) (by decide) ?_
  refine z_istoren C rfl ?_
  refine z_iconst C rfl ?_
  refine z_istore C rfl ?_
  exact z_ll [(4, zi (nI 0)), (3, zi (nI 3)), (2, zr (some (31 + 5 * r))), (1, zi c)] ⟨rfl, rfl, rfl, rfl, trivial⟩ (l_addF C hr 3 0 _ rfl hw (z_return C rfl he ⟨Nat.le_refl _, Nat.le_refl _⟩ rfl))

