/-! settle: what has no count is freed, round after round -/
def zs1 (c : Int32) (h : zH) (i : Nat) : Int32 × zH := if zisOf h (30 + 5 * i) (Int32.ofInt (Int.ofNat 0)) = true ∧ zown h (30 + 5 * i) = 0 then (Int32.ofInt (Int.ofNat 1), zfree (zaddF i (Int32.ofInt (Int.negSucc 0)) 3 0 h) (30 + 5 * i)) else (c, h)
theorem zK_s1 {c : Int32} {h : zH} (hw : zWk h) {i : Nat} (hi : i < 60) : zWk (zs1 c h i).2 := by
  unfold zs1
  split
  · exact zK_free (zK_addF hi 3 0 _ rfl hw) (zS_thing i hi)
  · exact hw
def zsP : Nat → Nat → Int32 → zH → Int32 × zH
  | 0, _, c, h => (c, h)
  | m + 1, i, c, h => zsP m (i + 1) (zs1 c h i).1 (zs1 c h i).2
theorem zK_sP : ∀ (m i : Nat) (c : Int32) (h : zH), i + m = 60 → zWk h → zWk (zsP m i c h).2
  | 0, _, _, _, _, hw => hw
  | m + 1, i, _, _, e, hw => zK_sP m (i + 1) _ _ (by omega) (zK_s1 hw (by omega))
def zsL : Nat → Nat → Int32 → zH → zH
  | 0, _, _, h => h
  | m + 1, j, c, h => if c = 0 then h else zsL m (j + 1) (zsP 60 0 (Int32.ofInt (Int.ofNat 0)) h).1 (zsP 60 0 (Int32.ofInt (Int.ofNat 0)) h).2
theorem zK_sL : ∀ (m j : Nat) (c : Int32) (h : zH), zWk h → zWk (zsL m j c h)
  | 0, _, _, _, hw => hw
  | m + 1, j, c, h, hw => by
    unfold zsL
    split
    · exact hw
    · exact zK_sL m (j + 1) _ _ (zK_sP 60 0 _ _ rfl hw)
def zsettle (h : zH) : zH := zsL 61 0 (Int32.ofInt (Int.ofNat 1)) (ztally h)
theorem zK_settle {h : zH} (hw : zWk h) : zWk (zsettle h) := zK_sL 61 0 _ _ (zK_tally hw)
set_option maxHeartbeats 400000 in
set_option maxRecDepth 20000 in
theorem l_sP {ω : zO} (C : zX ω 23) {j : Nat} {x : Int32} : ∀ (m i : Nat) (c : Int32) (h : zH), i + m = 60 → zWk h → ZG ω 23 90 [(3, zi (nI j)), (2, zi (zsP m i c h).1), (1, zi x), (0, zr (some 2))] [] ((zsP m i c h).2) 0 0 → ZG ω 23 39 [(6, zi (nI i)), (5, zi (nI 60)), (4, zr (some 4)), (3, zi (nI j)), (2, zi c), (1, zi x), (0, zr (some 2))] [] h 0 0 := by
  intro m
  induction m with
  | zero =>
    intro i c h hi hI kk
    obtain rfl : i = 60 := by omega
    refine z_iload C rfl rfl ?_
    refine z_iload C rfl rfl ?_
    refine z_icmp C rfl (fun hc => ?_) (fun hc => absurd (Int32.le_refl _) hc)
    exact z_ll [(3, zi (nI j)), (2, zi (zsP 0 60 c h).1), (1, zi x), (0, zr (some 2))] ⟨rfl, rfl, rfl, rfl, trivial⟩ kk
  | succ m ih =>
    intro i c h hi hI kk
    have hiN : i < 60 := by omega
    refine z_iload C rfl rfl ?_
    refine z_iload C rfl rfl ?_
    refine z_icmp C rfl (fun hc => absurd hc (nI_ge hiN (by decide))) (fun hc => ?_)
    refine z_aload C rfl rfl ?_
    refine z_iload C rfl rfl ?_
    refine z_aalds C rfl zS_4 (by decide) (by decide) (zin hiN (by decide)) (by rw [zclamp hiN (by decide)]; exact zroomR hI.1.1 hiN) ?_
    refine z_astore C rfl ?_
    refine z_aload C rfl rfl ?_
    refine z_iconst C rfl ?_
    refine z_callv C rfl ⟨by decide, by decide⟩ (zS_thing i hiN) (c_isOf (zKg_of C) (zS_thing i hiN) _) rfl rfl (Nat.le_of_ble_eq_true rfl) ⟨Nat.le_of_ble_eq_true rfl, Nat.le_of_ble_eq_true rfl⟩ ?_
    refine z_if C rfl (fun hc1 => ?_) (fun hc1 => ?_)
    · skip
      skip
      refine z_iinc C rfl rfl ?_
      refine z_goto C rfl ?_
      first
        | (have e : zs1 c h i = (c, h) := (by clear kk ih; unfold zs1; simp_all [xCmp, zB0]); have q := ih (i + 1) (zs1 c h i).1 (zs1 c h i).2 (by omega) (zK_s1 hI hiN) kk; rw [e] at q; exact z_ll [(6, zi (nI (i + 1))), (5, zi (nI 60)), (4, zr (some 4)), (3, zi (nI j)), (2, zi c), (1, zi x), (0, zr (some 2))] ⟨znx i, rfl, rfl, rfl, rfl, rfl, rfl, trivial⟩ q)
        | (have e : zs1 c h i = ((Int32.ofInt (Int.ofNat 1)), zfree (zaddF i (Int32.ofInt (Int.negSucc 0)) 3 0 h) (30 + 5 * i)) := (by clear kk ih; unfold zs1; simp_all [xCmp, zB0]); have q := ih (i + 1) (zs1 c h i).1 (zs1 c h i).2 (by omega) (zK_s1 hI hiN) kk; rw [e] at q; exact z_ll [(6, zi (nI (i + 1))), (5, zi (nI 60)), (4, zr (some 4)), (3, zi (nI j)), (2, zi (Int32.ofInt (Int.ofNat 1))), (1, zi x), (0, zr (some 2))] ⟨znx i, rfl, rfl, rfl, rfl, rfl, rfl, trivial⟩ q)
    · skip
      skip
      refine z_aload C rfl rfl ?_
      refine z_callv C rfl ⟨by decide, by decide⟩ (zS_thing i hiN) (c_ownCount (zKg_of C) (zS_thing i hiN) _) rfl rfl (Nat.le_of_ble_eq_true rfl) ⟨Nat.le_of_ble_eq_true rfl, Nat.le_of_ble_eq_true rfl⟩ ?_
      refine z_if C rfl (fun hc2 => ?_) (fun hc2 => ?_)
      · skip
        skip
        refine z_iinc C rfl rfl ?_
        refine z_goto C rfl ?_
        first
          | (have e : zs1 c h i = (c, h) := (by clear kk ih; unfold zs1; simp_all [xCmp, zB0]); have q := ih (i + 1) (zs1 c h i).1 (zs1 c h i).2 (by omega) (zK_s1 hI hiN) kk; rw [e] at q; exact z_ll [(6, zi (nI (i + 1))), (5, zi (nI 60)), (4, zr (some 4)), (3, zi (nI j)), (2, zi c), (1, zi x), (0, zr (some 2))] ⟨znx i, rfl, rfl, rfl, rfl, rfl, rfl, trivial⟩ q)
          | (have e : zs1 c h i = ((Int32.ofInt (Int.ofNat 1)), zfree (zaddF i (Int32.ofInt (Int.negSucc 0)) 3 0 h) (30 + 5 * i)) := (by clear kk ih; unfold zs1; simp_all [xCmp, zB0]); have q := ih (i + 1) (zs1 c h i).1 (zs1 c h i).2 (by omega) (zK_s1 hI hiN) kk; rw [e] at q; exact z_ll [(6, zi (nI (i + 1))), (5, zi (nI 60)), (4, zr (some 4)), (3, zi (nI j)), (2, zi (Int32.ofInt (Int.ofNat 1))), (1, zi x), (0, zr (some 2))] ⟨znx i, rfl, rfl, rfl, rfl, rfl, rfl, trivial⟩ q)
      · skip
        skip
        refine z_aload C rfl rfl ?_
        refine z_iconst C rfl ?_
        refine z_calls C rfl ⟨by decide, by decide, by decide⟩ (c_addFieldsInAsh (zKg_of C) hiN _ hI.1) rfl rfl (Nat.le_of_ble_eq_true rfl) ⟨Nat.le_of_ble_eq_true rfl, Nat.le_of_ble_eq_true rfl⟩ ?_
        refine z_aloadn C rfl rfl ?_
        refine z_aload C rfl rfl ?_
        refine z_callv C rfl ⟨by decide, by decide⟩ zS_2 (c_free (zKg_of C) (zS_thing i hiN) _) rfl rfl (Nat.le_of_ble_eq_true rfl) ⟨Nat.le_of_ble_eq_true rfl, Nat.le_of_ble_eq_true rfl⟩ ?_
        refine z_iconst C rfl ?_
        refine z_istoren C rfl ?_
        refine z_iinc C rfl rfl ?_
        refine z_goto C rfl ?_
        first
          | (have e : zs1 c h i = (c, h) := (by clear kk ih; unfold zs1; simp_all [xCmp, zB0]); have q := ih (i + 1) (zs1 c h i).1 (zs1 c h i).2 (by omega) (zK_s1 hI hiN) kk; rw [e] at q; exact z_ll [(6, zi (nI (i + 1))), (5, zi (nI 60)), (4, zr (some 4)), (3, zi (nI j)), (2, zi c), (1, zi x), (0, zr (some 2))] ⟨znx i, rfl, rfl, rfl, rfl, rfl, rfl, trivial⟩ q)
          | (have e : zs1 c h i = ((Int32.ofInt (Int.ofNat 1)), zfree (zaddF i (Int32.ofInt (Int.negSucc 0)) 3 0 h) (30 + 5 * i)) := (by clear kk ih; unfold zs1; simp_all [xCmp, zB0]); have q := ih (i + 1) (zs1 c h i).1 (zs1 c h i).2 (by omega) (zK_s1 hI hiN) kk; rw [e] at q; exact z_ll [(6, zi (nI (i + 1))), (5, zi (nI 60)), (4, zr (some 4)), (3, zi (nI j)), (2, zi (Int32.ofInt (Int.ofNat 1))), (1, zi x), (0, zr (some 2))] ⟨znx i, rfl, rfl, rfl, rfl, rfl, rfl, trivial⟩ q)
set_option maxHeartbeats 400000 in
theorem l_sL {ω : zO} (C : zX ω 23) {x : Int32} : ∀ (m j : Nat) (c : Int32) (h : zH), j + m = 61 → zWk h → ZG ω 23 96 [(1, zi x), (0, zr (some 2))] [] (zsL m j c h) 0 0 → ZG ω 23 13 [(3, zi (nI j)), (2, zi c), (1, zi x), (0, zr (some 2))] [] h 0 0 := by
  intro m
  induction m with
  | zero =>
    intro j c h hj hI kk
    obtain rfl : j = 61 := by omega
    refine z_iloadn C rfl rfl ?_
    refine z_bipush C rfl ?_
    refine z_icmp C rfl (fun hc => ?_) (fun hc => absurd (show nI 60 < nI 61 from nI_lt (by decide) (by decide)) hc)
    exact z_ll [(1, zi x), (0, zr (some 2))] ⟨rfl, rfl, trivial⟩ kk
  | succ m ih =>
    intro j c h hj hI kk
    refine z_iloadn C rfl rfl ?_
    refine z_bipush C rfl ?_
    refine z_icmp C rfl (fun hc => absurd hc (nI_nlt (show j ≤ 60 by omega) (by decide))) (fun hc => ?_)
    refine z_iloadn C rfl rfl ?_
    refine z_if C rfl (fun hc1 => ?_) (fun hc1 => ?_)
    · have e : zsL (m + 1) j c h = h := by
        rw [zsL]
        exact if_pos hc1
      rw [e] at kk
      exact z_ll [(1, zi x), (0, zr (some 2))] ⟨rfl, rfl, trivial⟩ kk
    · have e : zsL (m + 1) j c h = zsL m (j + 1) (zsP 60 0 (Int32.ofInt (Int.ofNat 0)) h).1 (zsP 60 0 (Int32.ofInt (Int.ofNat 0)) h).2 := by
        rw [zsL]
        exact if_neg hc1
      rw [e] at kk
      refine z_iconst C rfl ?_
      refine z_istoren C rfl ?_
      refine z_aloadn C rfl rfl ?_
      refine z_gets C rfl zS_2 rfl hI.1.1.2.2.1.2.1 ?_
      refine z_astore C rfl ?_
      refine z_aload C rfl rfl ?_
      refine z_alen C rfl zS_4 (by decide) ?_
      refine z_istore C rfl ?_
      refine z_iconst C rfl ?_
      refine z_istore C rfl ?_
      refine z_ll [(6, zi (nI 0)), (5, zi (nI 60)), (4, zr (some 4)), (3, zi (nI j)), (2, zi (Int32.ofInt (Int.ofNat 0))), (1, zi x), (0, zr (some 2))] ⟨rfl, rfl, rfl, rfl, rfl, rfl, rfl, trivial⟩ (l_sP C 60 0 _ _ rfl hI ?_)
      refine z_iinc C rfl rfl ?_
      refine z_goto C rfl ?_
      exact z_ll [(3, zi (nI (j + 1))), (2, zi (zsP 60 0 (Int32.ofInt (Int.ofNat 0)) h).1), (1, zi x), (0, zr (some 2))] ⟨znx j, rfl, rfl, rfl, trivial⟩ (ih (j + 1) _ _ (by omega) (zK_sP 60 0 _ _ rfl hI) kk)
set_option maxHeartbeats 400000 in
set_option maxRecDepth 20000 in
theorem c_settle {κ : zK} (hκ : zKg κ)  (h : zH) (hw : zWk h) : zRet κ 23 [zr (some 2)] h (some (zi ((zsettle h).1 2 5 - h.1 2 5))) (zsettle h) 0 0 := by
  refine zRet_of hκ (by decide) (by decide +kernel) (Nat.le_of_ble_eq_true rfl) fun ω C hK he => ?_
  refine z_aloadn C rfl rfl ?_
  refine z_geti C rfl zS_2 rfl ?_
  refine z_istoren C rfl ?_
  refine z_aloadn C rfl rfl ?_
  refine z_callv C rfl ⟨by decide, by decide⟩ zS_2 (c_tally (zKg_of C) _ hw.1) rfl rfl (Nat.le_of_ble_eq_true rfl) ⟨Nat.le_of_ble_eq_true rfl, Nat.le_of_ble_eq_true rfl⟩ ?_
  refine z_iconst C rfl ?_
  refine z_istoren C rfl ?_
  refine z_iconst C rfl ?_
  refine z_istoren C rfl ?_
  refine z_ll [(3, zi (nI 0)), (2, zi (Int32.ofInt (Int.ofNat 1))), (1, zi (h.1 2 5)), (0, zr (some 2))] ⟨rfl, rfl, rfl, rfl, trivial⟩ (l_sL C 61 0 _ _ rfl (zK_tally hw) ?_)
  refine z_aloadn C rfl rfl ?_
  refine z_geti C rfl zS_2 rfl ?_
  refine z_iloadn C rfl rfl ?_
  refine z_isub C rfl ?_
  exact z_ireturn C rfl (by unfold zsettle at he; exact he) ⟨Nat.le_refl _, Nat.le_refl _⟩ rfl

