/-! tally -/
theorem zidx (l g : Nat) : nI l * Int32.ofInt (Int.ofNat 8) + nI g = nI (8 * l + g) := by
  have e : nI l * nI 8 = nI (l * 8) := (Int32.ofNat_mul l 8).symm
  have e2 : nI l * Int32.ofInt (Int.ofNat 8) = nI (l * 8) := e
  rw [e2, nI_add, Nat.mul_comm]
def zclr : Nat → Nat → zH → zH
  | 0, _, h => h
  | m + 1, i, h => zclr m (i + 1) (zupI h (30 + 5 * i) 4 (Int32.ofInt (Int.ofNat 0)))
theorem zclr_R : ∀ (m i : Nat) (h : zH), (zclr m i h).2 = h.2
  | 0, _, _ => rfl
  | m + 1, i, h => (zclr_R m (i + 1) _).trans rfl
def ztg : Nat → Nat → zH → zH
  | 0, _, h => h
  | m + 1, i, h => ztg m (i + 1) (zaddIn h (6 + i) (Int32.ofInt (Int.ofNat 1)))
theorem ztg_R : ∀ (m i : Nat) (h : zH), (ztg m i h).2 = h.2
  | 0, _, _ => rfl
  | m + 1, i, h => (ztg_R m (i + 1) _).trans zaddIn_R
def zth1 (h : zH) (i : Nat) : zH := if zisOf h (30 + 5 * i) (Int32.ofInt (Int.ofNat 0)) = true then zaddF i (Int32.ofInt (Int.ofNat 1)) 3 0 h else h
theorem zth1_R {h : zH} {i : Nat} : (zth1 h i).2 = h.2 := by
  unfold zth1
  split
  · exact zaddF_R 3 0 h
  · rfl
def zth : Nat → Nat → zH → zH
  | 0, _, h => h
  | m + 1, i, h => zth m (i + 1) (zth1 h i)
theorem zth_R : ∀ (m i : Nat) (h : zH), (zth m i h).2 = h.2
  | 0, _, _ => rfl
  | m + 1, i, h => (zth_R m (i + 1) _).trans zth1_R
def ztally (h : zH) : zH := zth 60 0 (ztg 8 0 (zclr 60 0 h))
theorem ztally_R (h : zH) : (ztally h).2 = h.2 := (zth_R 60 0 _).trans ((ztg_R 8 0 _).trans (zclr_R 60 0 h))
theorem zRR {h1 h : zH} (e : h1.2 = h.2) : h1.2.2.2 = h.2.2.2 := congrArg (fun z => z.2.2) e
set_option maxHeartbeats 4000000 in
set_option maxRecDepth 20000 in
theorem c_globalOf {κ : zK} (hκ : zKg κ) {l g : Nat} (hl : l < 3) (hg : g < 8) (h : zH) (hF : zFix h.2.2.2) : zRet κ 13 [zr (some 2), zi (nI l), zi (nI g)] h (some (zr (some (6 + (8 * l + g))))) h 0 0 := by
  refine zRet_of hκ (by decide) (by decide +kernel) (Nat.le_of_ble_eq_true rfl) fun ω C hK he => ?_
  refine z_aloadn C rfl rfl ?_
  refine z_gets C rfl zS_2 rfl hF.2.2.1.1 ?_
  refine z_iloadn C rfl rfl ?_
  refine z_bipush C rfl ?_
  refine z_imul C rfl ?_
  refine z_iloadn C rfl rfl ?_
  refine z_iadd C rfl ?_
  rw [zidx l g]
  refine z_aalds C rfl zS_3 (by decide) (by decide) (zin (show 8 * l + g < 24 by omega) (by decide)) (by rw [zclamp (show 8 * l + g < 24 by omega) (by decide)]; exact hF.2.2.2.2.1 _ (by omega)) ?_
  exact z_areturn C rfl he ⟨Nat.le_refl _, Nat.le_refl _⟩ rfl

set_option maxHeartbeats 4000000 in
set_option maxRecDepth 20000 in
theorem l_tal1 {ω : zO} (C : zX ω 20)  : ∀ (m i : Nat) (h : zH), i + m = 60 → zShp h.2.2.2 → ZG ω 20 32 [(0, zr (some 2))] [] (zclr m i h) 0 0 → ZG ω 20 10 [(3, zi (nI i)), (2, zi (nI 60)), (1, zr (some 4)), (0, zr (some 2))] [] h 0 0 := by
  intro m
  induction m with
  | zero =>
    intro i h hi hI kk
    obtain rfl : i = 60 := by omega
    refine z_iloadn C rfl rfl ?_
    refine z_iloadn C rfl rfl ?_
    refine z_icmp C rfl (fun hc => ?_) (fun hc => absurd (Int32.le_refl _) hc)
    exact z_ll [(0, zr (some 2))] ⟨rfl, trivial⟩ kk
  | succ m ih =>
    intro i h hi hI kk
    have hiN : i < 60 := by omega
    refine z_iloadn C rfl rfl ?_
    refine z_iloadn C rfl rfl ?_
    refine z_icmp C rfl (fun hc => absurd hc (nI_ge hiN (by decide))) (fun hc => ?_)
    refine z_aloadn C rfl rfl ?_
    refine z_iloadn C rfl rfl ?_
    refine z_aalds C rfl zS_4 (by decide) (by decide) (zin hiN (by decide)) (by rw [zclamp hiN (by decide)]; exact zroomR hI.1 hiN) ?_
    refine z_astore C rfl ?_
    refine z_aload C rfl rfl ?_
    refine z_iconst C rfl ?_
    refine z_puti C rfl (zS_thing i hiN) rfl ⟨_, rfl⟩ ?_
    refine z_iinc C rfl rfl ?_
    refine z_goto C rfl ?_
    exact z_ll [(3, zi (nI (i + 1))), (2, zi (nI 60)), (1, zr (some 4)), (0, zr (some 2))] ⟨znx i, rfl, rfl, rfl, trivial⟩ (ih (i + 1) _ (by omega) (hI) kk)
set_option maxHeartbeats 4000000 in
set_option maxRecDepth 20000 in
theorem l_tal2 {ω : zO} (C : zX ω 20)  : ∀ (m i : Nat) (h : zH), i + m = 8 → zShp h.2.2.2 → ZG ω 20 56 [(0, zr (some 2))] [] (ztg m i h) 0 0 → ZG ω 20 34 [(1, zi (nI i)), (0, zr (some 2))] [] h 0 0 := by
  intro m
  induction m with
  | zero =>
    intro i h hi hI kk
    obtain rfl : i = 8 := by omega
    refine z_iloadn C rfl rfl ?_
    refine z_bipush C rfl ?_
    refine z_icmp C rfl (fun hc => ?_) (fun hc => absurd (Int32.le_refl _) hc)
    exact z_ll [(0, zr (some 2))] ⟨rfl, trivial⟩ kk
  | succ m ih =>
    intro i h hi hI kk
    have hiN : i < 8 := by omega
    refine z_iloadn C rfl rfl ?_
    refine z_bipush C rfl ?_
    refine z_icmp C rfl (fun hc => absurd hc (nI_ge hiN (by decide))) (fun hc => ?_)
    refine z_aloadn C rfl rfl ?_
    refine z_iconst C rfl ?_
    refine z_iloadn C rfl rfl ?_
    refine z_callv C rfl ⟨by decide, by decide⟩ zS_2 (c_globalOf (zKg_of C) (l := 0) (by decide) hiN _ hI.1) rfl rfl (Nat.le_of_ble_eq_true rfl) ⟨Nat.le_of_ble_eq_true rfl, Nat.le_of_ble_eq_true rfl⟩ ?_
    refine z_iconst C rfl ?_
    refine z_calls C rfl ⟨by decide, by decide, by decide⟩ (c_addInAsh (zKg_of C) (by rw [show 6 + (8 * 0 + i) = 6 + i by omega]; exact zS_val24 i (by omega)) _ hI) rfl rfl (Nat.le_of_ble_eq_true rfl) ⟨Nat.le_of_ble_eq_true rfl, Nat.le_of_ble_eq_true rfl⟩ ?_
    refine z_iinc C rfl rfl ?_
    refine z_goto C rfl ?_
    exact z_ll [(1, zi (nI (i + 1))), (0, zr (some 2))] ⟨znx i, rfl, trivial⟩ (by rw [show 6 + (8 * 0 + i) = 6 + i by omega]; exact ih (i + 1) _ (by omega) (by rw [zaddIn_RR]; exact hI) kk)
set_option maxHeartbeats 4000000 in
set_option maxRecDepth 20000 in
theorem l_tal3 {ω : zO} (C : zX ω 20)  : ∀ (m i : Nat) (h : zH), i + m = 60 → zShp h.2.2.2 → ZG ω 20 97 [] [] (zth m i h) 0 0 → ZG ω 20 66 [(3, zi (nI i)), (2, zi (nI 60)), (1, zr (some 4)), (0, zr (some 2))] [] h 0 0 := by
  intro m
  induction m with
  | zero =>
    intro i h hi hI kk
    obtain rfl : i = 60 := by omega
    refine z_iloadn C rfl rfl ?_
    refine z_iloadn C rfl rfl ?_
    refine z_icmp C rfl (fun hc => ?_) (fun hc => absurd (Int32.le_refl _) hc)
    exact z_ll [] trivial kk
  | succ m ih =>
    intro i h hi hI kk
    have hiN : i < 60 := by omega
    refine z_iloadn C rfl rfl ?_
    refine z_iloadn C rfl rfl ?_
    refine z_icmp C rfl (fun hc => absurd hc (nI_ge hiN (by decide))) (fun hc => ?_)
    refine z_aloadn C rfl rfl ?_
    refine z_iloadn C rfl rfl ?_
    refine z_aalds C rfl zS_4 (by decide) (by decide) (zin hiN (by decide)) (by rw [zclamp hiN (by decide)]; exact zroomR hI.1 hiN) ?_
    refine z_astore C rfl ?_
    refine z_aload C rfl rfl ?_
    refine z_iconst C rfl ?_
    refine z_callv C rfl ⟨by decide, by decide⟩ (zS_thing i hiN) (c_isOf (zKg_of C) (zS_thing i hiN) _) rfl rfl (Nat.le_of_ble_eq_true rfl) ⟨Nat.le_of_ble_eq_true rfl, Nat.le_of_ble_eq_true rfl⟩ ?_
    refine z_if C rfl (fun hc1 => ?_) (fun hc1 => ?_)
    · skip
      skip
      refine z_iinc C rfl rfl ?_
      refine z_goto C rfl ?_
      refine z_ll [(3, zi (nI (i + 1))), (2, zi (nI 60)), (1, zr (some 4)), (0, zr (some 2))] ⟨znx i, rfl, rfl, rfl, trivial⟩ ?_
      first
        | (have e : zth1 h i = h := (by unfold zth1; rw [Eq.mp zB0 hc1]; rfl); have q := ih (i + 1) (zth1 h i) (by omega) (by rw [zRR zth1_R]; exact hI) kk; rw [e] at q; exact q)
        | (have e : zth1 h i = zaddF i (Int32.ofInt (Int.ofNat 1)) 3 0 h := (by unfold zth1; rw [if_pos (zbt hc1)]); have q := ih (i + 1) (zth1 h i) (by omega) (by rw [zRR zth1_R]; exact hI) kk; rw [e] at q; exact q)
    · skip
      skip
      refine z_aload C rfl rfl ?_
      refine z_iconst C rfl ?_
      refine z_calls C rfl ⟨by decide, by decide, by decide⟩ (c_addFieldsInAsh (zKg_of C) hiN _ hI) rfl rfl (Nat.le_of_ble_eq_true rfl) ⟨Nat.le_of_ble_eq_true rfl, Nat.le_of_ble_eq_true rfl⟩ ?_
      refine z_iinc C rfl rfl ?_
      refine z_goto C rfl ?_
      refine z_ll [(3, zi (nI (i + 1))), (2, zi (nI 60)), (1, zr (some 4)), (0, zr (some 2))] ⟨znx i, rfl, rfl, rfl, trivial⟩ ?_
      first
        | (have e : zth1 h i = h := (by unfold zth1; rw [Eq.mp zB0 hc1]; rfl); have q := ih (i + 1) (zth1 h i) (by omega) (by rw [zRR zth1_R]; exact hI) kk; rw [e] at q; exact q)
        | (have e : zth1 h i = zaddF i (Int32.ofInt (Int.ofNat 1)) 3 0 h := (by unfold zth1; rw [if_pos (zbt hc1)]); have q := ih (i + 1) (zth1 h i) (by omega) (by rw [zRR zth1_R]; exact hI) kk; rw [e] at q; exact q)
set_option maxHeartbeats 4000000 in
set_option maxRecDepth 20000 in
theorem c_tally {κ : zK} (hκ : zKg κ)  (h : zH) (hw : zShp h.2.2.2) : zRet κ 20 [zr (some 2)] h none (ztally h) 0 0 := by
  refine zRet_of hκ (by decide) (by decide +kernel) (Nat.le_of_ble_eq_true rfl) fun ω C hK he => ?_
  refine z_aloadn C rfl rfl ?_
  refine z_gets C rfl zS_2 rfl hw.1.2.2.1.2.1 ?_
  refine z_astoren C rfl ?_
  refine z_aloadn C rfl rfl ?_
  refine z_alen C rfl zS_4 (by decide) ?_
  refine z_istoren C rfl ?_
  refine z_iconst C rfl ?_
  refine z_istoren C rfl ?_
  refine z_ll [(3, zi (nI 0)), (2, zi (nI 60)), (1, zr (some 4)), (0, zr (some 2))] ⟨rfl, rfl, rfl, rfl, trivial⟩ (l_tal1 C 60 0 _ rfl hw ?_)
  have hw1 : zShp (zclr 60 0 h).2.2.2 := by rw [zRR (zclr_R 60 0 h)]; exact hw
  refine z_iconst C rfl ?_
  refine z_istoren C rfl ?_
  refine z_ll [(1, zi (nI 0)), (0, zr (some 2))] ⟨rfl, rfl, trivial⟩ (l_tal2 C 8 0 _ rfl hw1 ?_)
  have hw2 : zShp (ztg 8 0 (zclr 60 0 h)).2.2.2 := by rw [zRR (ztg_R 8 0 _)]; exact hw1
  refine z_aloadn C rfl rfl ?_
  refine z_gets C rfl zS_2 rfl hw2.1.2.2.1.2.1 ?_
  refine z_astoren C rfl ?_
  refine z_aloadn C rfl rfl ?_
  refine z_alen C rfl zS_4 (by decide) ?_
  refine z_istoren C rfl ?_
  refine z_iconst C rfl ?_
  refine z_istoren C rfl ?_
  exact z_ll [(3, zi (nI 0)), (2, zi (nI 60)), (1, zr (some 4)), (0, zr (some 2))] ⟨rfl, rfl, rfl, rfl, trivial⟩ (l_tal3 C 60 0 _ rfl hw2 (z_return C rfl he ⟨Nat.le_refl _, Nat.le_refl _⟩ rfl))

