/-! things reached -/
def zpc (h : zH) : Nat := (h.1 2 3).toNatClampNeg
def zPn (h : zH) : Prop := ∃ p, p ≤ 60 ∧ h.1 2 3 = nI p ∧ ∀ j, j < p → ∃ t, h.2.2.2 5 j = some t
theorem zpc_of {h : zH} {p : Nat} (hp4 : p ≤ 60) (hp : h.1 2 3 = nI p) : zpc h = p := by
  unfold zpc
  rw [hp]
  exact nI_clamp (by omega)
def zrcA (h : zH) (p t : Nat) : zH := zupI (zupR (zupI h t 5 (Int32.ofInt (Int.ofNat 1))) 5 p (some t)) 2 3 (nI (p + 1))
def zrchT (h : zH) (t : Nat) : zH := if h.1 t 5 = 0 ∧ zpc h < 60 then zrcA h (zpc h) t else h
theorem zK_rchT {h : zH} (hw : zWk h) {t : Nat} (ht : zTh t) : zWk (zrchT h t) := by
  unfold zrchT
  split
  · exact zK_I (zK_P (zK_I hw (zTok_t (zTh_S ht) (fun e => by cases e) (fun _ => zBo1))) ht) (zTok_o zS_2 (by decide) (by decide) (by decide) (by decide))
  · exact hw
theorem zPn_rchT {h : zH} (hp : zPn h) {t : Nat} : zPn (zrchT h t) := by
  unfold zrchT
  split
  · rename_i q
    refine ⟨zpc h + 1, q.2, zupI_at, fun j hj => ?_⟩
    obtain ⟨p, hp4, hpe, hpd⟩ := hp
    have hpc := zpc_of hp4 hpe
    by_cases e : j = zpc h
    · subst e
      exact ⟨t, zupR_at⟩
    · obtain ⟨t', e'⟩ := hpd j (by omega)
      exact ⟨t', (zupR_ne (fun q => e q.2)).trans e'⟩
  · exact hp
def zrch (h : zH) (k : Nat) (b : Int32) : zH := if zisRef h k = true then (match h.2.2.2 k 5 with | none => h | some t => if ¬ b = 0 ∨ ¬ h.1 t 1 = 0 then zrchT h t else h) else h
theorem zK_rch {h : zH} (hw : zWk h) {k : Nat} {b : Int32} (hk : zS k = (0, 6, 6)) : zWk (zrch h k b) := by
  unfold zrch
  split
  · cases hq : h.2.2.2 k 5 with
    | none => exact hw
    | some t =>
      show zWk (if ¬ b = 0 ∨ ¬ h.1 t 1 = 0 then zrchT h t else h)
      split
      · exact zK_rchT hw (hw.1.2.1 k hk t hq)
      · exact hw
  · exact hw
theorem zPn_rch {h : zH} (hp : zPn h) {k : Nat} {b : Int32} : zPn (zrch h k b) := by
  unfold zrch
  split
  · cases hq : h.2.2.2 k 5 with
    | none => exact hp
    | some t =>
      show zPn (if ¬ b = 0 ∨ ¬ h.1 t 1 = 0 then zrchT h t else h)
      split
      · exact zPn_rchT hp
      · exact hp
  · exact hp
set_option maxHeartbeats 4000000 in
set_option maxRecDepth 20000 in
theorem l_cnt {ω : zO} (C : zX ω 19) {h : zH} {w : Int32} : ∀ (m i : Nat) (c : Int32), i + m = 60 → zWk h → ZG ω 19 50 [(2, zi (zcnt h w m i c))] [] (h) 0 0 → ZG ω 19 14 [(5, zi (nI i)), (4, zi (nI 60)), (3, zr (some 4)), (2, zi c), (1, zi w)] [] h 0 0 := by
  intro m
  induction m with
  | zero =>
    intro i c hi hI kk
    obtain rfl : i = 60 := by omega
    refine z_iload C rfl rfl ?_
    refine z_iload C rfl rfl ?_
    refine z_icmp C rfl (fun hc => ?_) (fun hc => absurd (Int32.le_refl _) hc)
    exact z_ll [(2, zi (zcnt h w 0 60 c))] ⟨rfl, trivial⟩ kk
  | succ m ih =>
    intro i c hi hI kk
    have hiN : i < 60 := by omega
    refine z_iload C rfl rfl ?_
    refine z_iload C rfl rfl ?_
    refine z_icmp C rfl (fun hc => absurd hc (nI_ge hiN (by decide))) (fun hc => ?_)
    refine z_aloadn C rfl rfl ?_
    refine z_iload C rfl rfl ?_
    refine z_aalds C rfl zS_4 (by decide) (by decide) (zin hiN (by decide)) (by rw [zclamp hiN (by decide)]; exact zroomR hI.1.1 hiN) ?_
    refine z_astore C rfl ?_
    refine z_iloadn C rfl rfl ?_
    refine z_aload C rfl rfl ?_
    refine z_iloadn C rfl rfl ?_
    refine z_callv C rfl ⟨by decide, by decide⟩ (zS_thing i hiN) (c_isOf (zKg_of C) (zS_thing i hiN) _) rfl rfl (Nat.le_of_ble_eq_true rfl) ⟨Nat.le_of_ble_eq_true rfl, Nat.le_of_ble_eq_true rfl⟩ ?_
    refine z_if C rfl (fun hc1 => ?_) (fun hc1 => ?_)
    · skip
      skip
      refine z_iconst C rfl ?_
      refine z_iadd C rfl ?_
      refine z_istoren C rfl ?_
      refine z_iinc C rfl rfl ?_
      refine z_goto C rfl ?_
      exact z_ll [(5, zi (nI (i + 1))), (4, zi (nI 60)), (3, zr (some 4)), (2, zi (c + zB (zisOf h (30 + 5 * i) w))), (1, zi w)] ⟨znx i, rfl, rfl, (by first | (have q := Eq.mp zB0 hc1; rw [q]; rfl) | (have q := zbt hc1; rw [q]; rfl)), rfl, trivial⟩ (ih (i + 1) _ (by omega) hI kk)
    · skip
      skip
      refine z_iconst C rfl ?_
      refine z_goto C rfl ?_
      refine z_iadd C rfl ?_
      refine z_istoren C rfl ?_
      refine z_iinc C rfl rfl ?_
      refine z_goto C rfl ?_
      exact z_ll [(5, zi (nI (i + 1))), (4, zi (nI 60)), (3, zr (some 4)), (2, zi (c + zB (zisOf h (30 + 5 * i) w))), (1, zi w)] ⟨znx i, rfl, rfl, (by first | (have q := Eq.mp zB0 hc1; rw [q]; rfl) | (have q := zbt hc1; rw [q]; rfl)), rfl, trivial⟩ (ih (i + 1) _ (by omega) hI kk)
set_option maxHeartbeats 4000000 in
set_option maxRecDepth 20000 in
theorem c_things {κ : zK} (hκ : zKg κ) {w : Int32} (h : zH) (hw : zWk h) : zRet κ 19 [zr (some 2), zi w] h (some (zi (zcnt h w 60 0 (Int32.ofInt (Int.ofNat 0))))) h 0 0 := by
  refine zRet_of hκ (by decide) (by decide +kernel) (Nat.le_of_ble_eq_true rfl) fun ω C hK he => ?_
  refine z_iconst C rfl ?_
  refine z_istoren C rfl ?_
  refine z_aloadn C rfl rfl ?_
  refine z_gets C rfl zS_2 rfl hw.1.1.2.2.1.2.1 ?_
  refine z_astoren C rfl ?_
  refine z_aloadn C rfl rfl ?_
  refine z_alen C rfl zS_4 (by decide) ?_
  refine z_istore C rfl ?_
  refine z_iconst C rfl ?_
  refine z_istore C rfl ?_
  refine z_ll [(5, zi (nI 0)), (4, zi (nI 60)), (3, zr (some 4)), (2, zi (Int32.ofInt (Int.ofNat 0))), (1, zi w)] ⟨rfl, rfl, rfl, rfl, rfl, trivial⟩ (l_cnt C 60 0 _ rfl hw ?_)
  refine z_iloadn C rfl rfl ?_
  exact z_ireturn C rfl he ⟨Nat.le_refl _, Nat.le_refl _⟩ rfl

set_option maxHeartbeats 4000000 in
theorem l_new {ω : zO} (C : zX ω 17) {l : Int32} {h : zH} (hw : zWk h) : ∀ m i, i + m = 60 → zER ω (some (zr (znw h l m i).1)) (znw h l m i).2 0 0 → ZG ω 17 11 [(4, zi (nI i)), (3, zi (nI 60)), (2, zr (some 4)), (1, zi l), (0, zr (some 2))] [] h 0 0 := by
  intro m
  induction m with
  | zero =>
    intro i hi he
    obtain rfl : i = 60 := by omega
    refine z_iload C rfl rfl ?_
    refine z_iloadn C rfl rfl ?_
    refine z_icmp C rfl (fun hc => ?_) (fun hc => absurd (Int32.le_refl _) hc)
    refine z_null C rfl ?_
    exact z_areturn C rfl he ⟨Nat.le_refl _, Nat.le_refl _⟩ rfl
  | succ m ih =>
    intro i hi he
    have hi60 : i < 60 := by omega
    refine z_iload C rfl rfl ?_
    refine z_iloadn C rfl rfl ?_
    refine z_icmp C rfl (fun hc => absurd hc (nI_ge hi60 (by decide))) (fun hc => ?_)
    refine z_aloadn C rfl rfl ?_
    refine z_iload C rfl rfl ?_
    refine z_aalds C rfl zS_4 (by decide) (by decide) (zin hi60 (by decide)) (by rw [zclamp hi60 (by decide)]; exact zroomR hw.1.1 hi60) ?_
    refine z_astore C rfl ?_
    refine z_aload C rfl rfl ?_
    refine z_geti C rfl (zS_thing i hi60) rfl ?_
    refine z_if C rfl (fun hc1 => ?_) (fun hc1 => ?_)
    · skip
      skip
      refine z_iinc C rfl rfl ?_
      refine z_goto C rfl ?_
      exact z_ll [(4, zi (nI (i + 1))), (3, zi (nI 60)), (2, zr (some 4)), (1, zi l), (0, zr (some 2))] ⟨znx i, rfl, rfl, rfl, rfl, trivial⟩ (ih (i + 1) (by omega) (by have e : znw h l (m + 1) i = znw h l m (i + 1) := (by rw [znw]; exact if_neg (Int32.not_lt.mpr hc1)); rw [e] at he; exact he))
    · skip
      skip
      refine z_aload C rfl rfl ?_
      refine z_aloadn C rfl rfl ?_
      refine z_geti C rfl zS_2 rfl ?_
      refine z_iloadn C rfl rfl ?_
      refine z_callv C rfl ⟨by decide, by decide⟩ (zS_thing i hi60) (c_beginT (zKg_of C) hi60 _ hw) rfl rfl (Nat.le_of_ble_eq_true rfl) ⟨Nat.le_of_ble_eq_true rfl, Nat.le_of_ble_eq_true rfl⟩ ?_
      refine z_aloadn C rfl rfl ?_
      refine z_dup C rfl rfl ?_
      refine z_geti C rfl zS_2 rfl ?_
      refine z_iconst C rfl ?_
      refine z_iadd C rfl ?_
      refine z_puti C rfl zS_2 rfl ⟨_, rfl⟩ ?_
      refine z_aload C rfl rfl ?_
      exact z_areturn C rfl (by have e : znw h l (m + 1) i = (some (30 + 5 * i), znewH h i l) := (by rw [znw]; exact if_pos (Int32.not_le.mp hc1)); rw [e] at he; exact he) ⟨Nat.le_refl _, Nat.le_refl _⟩ rfl
set_option maxHeartbeats 4000000 in
set_option maxRecDepth 20000 in
theorem c_new {κ : zK} (hκ : zKg κ) {l : Int32} (h : zH) (hw : zWk h) : zRet κ 17 [zr (some 2), zi l] h (some (zr (znw h l 60 0).1)) (znw h l 60 0).2 0 0 := by
  refine zRet_of hκ (by decide) (by decide +kernel) (Nat.le_of_ble_eq_true rfl) fun ω C hK he => ?_
  refine z_aloadn C rfl rfl ?_
  refine z_gets C rfl zS_2 rfl hw.1.1.2.2.1.2.1 ?_
  refine z_astoren C rfl ?_
  refine z_aloadn C rfl rfl ?_
  refine z_alen C rfl zS_4 (by decide) ?_
  refine z_istoren C rfl ?_
  refine z_iconst C rfl ?_
  refine z_istore C rfl ?_
  exact z_ll [(4, zi (nI 0)), (3, zi (nI 60)), (2, zr (some 4)), (1, zi l), (0, zr (some 2))] ⟨rfl, rfl, rfl, rfl, rfl, trivial⟩ (l_new C hw 60 0 rfl he)

set_option maxHeartbeats 4000000 in
set_option maxRecDepth 20000 in
theorem c_rchT {κ : zK} (hκ : zKg κ) {t : Nat} (ht : zTh t) (h : zH) (hw : zWk h) (hp : zPn h) : zRet κ 28 [zr (some 2), zr (some t)] h none (zrchT h t) 0 0 := by
  refine zRet_of hκ (by decide) (by decide +kernel) (Nat.le_of_ble_eq_true rfl) fun ω C hK he => ?_
  obtain ⟨p, hp4, hpe, hpd⟩ := hp
  have hpc := zpc_of hp4 hpe
  have ht2 : t ≠ 2 := (fun e => by rw [e] at ht; obtain ⟨r, _, e⟩ := ht; omega)
  refine z_aloadn C rfl rfl ?_
  refine z_geti C rfl (zTh_S ht) rfl ?_
  refine z_if C rfl (fun hc1 => ?_) (fun hc1 => ?_)
  · skip
    skip
    exact z_return C rfl (by first | (have q1 : ¬ (h.1 t 5 = 0 ∧ zpc h < 60) := (fun q => hc1 q.1); have e : zrchT h t = h := if_neg q1; rw [e] at he; exact he) | (have q1 : ¬ (h.1 t 5 = 0 ∧ zpc h < 60) := (fun q => absurd hc2 (nI_ge (hpc ▸ q.2) (by decide))); have e : zrchT h t = h := if_neg q1; rw [e] at he; exact he) | (have q1 : h.1 t 5 = 0 ∧ zpc h < 60 := ⟨Decidable.of_not_not hc1, by rw [hpc]; exact hlt⟩; have e : zrchT h t = zrcA h p t := (by unfold zrchT; rw [if_pos q1, hpc]); rw [e] at he; exact he)) ⟨Nat.le_refl _, Nat.le_refl _⟩ rfl
  · skip
    skip
    refine z_aloadn C rfl rfl ?_
    refine z_geti C rfl zS_2 rfl ?_
    rw [hpe]
    refine z_bipush C rfl ?_
    refine z_icmp C rfl (fun hc2 => ?_) (fun hc2 => ?_)
    · skip
      skip
      exact z_return C rfl (by first | (have q1 : ¬ (h.1 t 5 = 0 ∧ zpc h < 60) := (fun q => hc1 q.1); have e : zrchT h t = h := if_neg q1; rw [e] at he; exact he) | (have q1 : ¬ (h.1 t 5 = 0 ∧ zpc h < 60) := (fun q => absurd hc2 (nI_ge (hpc ▸ q.2) (by decide))); have e : zrchT h t = h := if_neg q1; rw [e] at he; exact he) | (have q1 : h.1 t 5 = 0 ∧ zpc h < 60 := ⟨Decidable.of_not_not hc1, by rw [hpc]; exact hlt⟩; have e : zrchT h t = zrcA h p t := (by unfold zrchT; rw [if_pos q1, hpc]); rw [e] at he; exact he)) ⟨Nat.le_refl _, Nat.le_refl _⟩ rfl
    · skip
      skip
      have hlt : p < 60 := Nat.lt_of_not_le fun q => hc2 (nI_le q (by omega))
      refine z_aloadn C rfl rfl ?_
      refine z_iconst C rfl ?_
      refine z_puti C rfl (zTh_S ht) rfl ⟨_, rfl, Or.inr rfl⟩ ?_
      refine z_aloadn C rfl rfl ?_
      refine z_gets C rfl zS_2 rfl hw.1.1.2.2.1.2.2 ?_
      refine z_aloadn C rfl rfl ?_
      refine z_geti C rfl zS_2 rfl ?_
      rw [zupI_ne (fun q => ht2 q.1.symm), hpe]
      refine z_aloadn C rfl rfl ?_
      refine z_aast C rfl zS_5 (by decide) (by decide) (zTh_S ht) ⟨by decide, by decide⟩ (zin hlt (by decide)) ?_
      rw [zclamp hlt (by decide)]
      refine z_aloadn C rfl rfl ?_
      refine z_dup C rfl rfl ?_
      refine z_geti C rfl zS_2 rfl ?_
      rw [show (zupR (zupI h t 5 (Int32.ofInt (Int.ofNat 1))) 5 p (some t)).1 2 3 = nI p from (zupI_ne (fun q => ht2 q.1.symm)).trans hpe]
      refine z_iconst C rfl ?_
      refine z_iadd C rfl ?_
      rw [zad1 p]
      refine z_puti C rfl zS_2 rfl ⟨_, rfl⟩ ?_
      exact z_return C rfl (by first | (have q1 : ¬ (h.1 t 5 = 0 ∧ zpc h < 60) := (fun q => hc1 q.1); have e : zrchT h t = h := if_neg q1; rw [e] at he; exact he) | (have q1 : ¬ (h.1 t 5 = 0 ∧ zpc h < 60) := (fun q => absurd hc2 (nI_ge (hpc ▸ q.2) (by decide))); have e : zrchT h t = h := if_neg q1; rw [e] at he; exact he) | (have q1 : h.1 t 5 = 0 ∧ zpc h < 60 := ⟨Decidable.of_not_not hc1, by rw [hpc]; exact hlt⟩; have e : zrchT h t = zrcA h p t := (by unfold zrchT; rw [if_pos q1, hpc]); rw [e] at he; exact he)) ⟨Nat.le_refl _, Nat.le_refl _⟩ rfl

set_option maxHeartbeats 4000000 in
set_option maxRecDepth 20000 in
theorem c_rch {κ : zK} (hκ : zKg κ) {k : Nat} {b : Int32} (hS : zS k = (0, 6, 6)) (h : zH) (hw : zWk h) (hp : zPn h) : zRet κ 27 [zr (some 2), zr (some k), zi b] h none (zrch h k b) 0 0 := by
  refine zRet_of hκ (by decide) (by decide +kernel) (Nat.le_of_ble_eq_true rfl) fun ω C hK he => ?_
  refine z_aloadn C rfl rfl ?_
  refine z_callv C rfl ⟨by decide, by decide⟩ hS (c_isReference (zKg_of C) hS _) rfl rfl (Nat.le_of_ble_eq_true rfl) ⟨Nat.le_of_ble_eq_true rfl, Nat.le_of_ble_eq_true rfl⟩ ?_
  refine z_if C rfl (fun hc1 => ?_) (fun hc1 => ?_)
  · skip
    skip
    exact z_return C rfl (by first | (have q1 : zisRef h k = false := Eq.mp zB0 hc1; have e : zrch h k b = h := (by unfold zrch; rw [q1]; rfl); rw [e] at he; exact he) | (have q1 : ¬ b = 0 := hc2; have e : zrch h k b = zrchT h t := (by unfold zrch; rw [if_pos (zbt hc1), ht]; exact if_pos (Or.inl q1)); rw [e] at he; exact he) | (have q1 : h.1 t 1 = 0 := hc3; have e : zrch h k b = h := (by unfold zrch; rw [if_pos (zbt hc1), ht]; exact if_neg (fun q => q.elim hc2 (fun w => w q1))); rw [e] at he; exact he) | (have q1 : ¬ h.1 t 1 = 0 := hc3; have e : zrch h k b = zrchT h t := (by unfold zrch; rw [if_pos (zbt hc1), ht]; exact if_pos (Or.inr q1)); rw [e] at he; exact he)) ⟨Nat.le_refl _, Nat.le_refl _⟩ rfl
  · skip
    skip
    obtain ⟨t, ht, hth⟩ := zref_t hw.1 hS (zbt hc1)
    refine z_iloadn C rfl rfl ?_
    refine z_if C rfl (fun hc2 => ?_) (fun hc2 => ?_)
    · skip
      skip
      refine z_aloadn C rfl rfl ?_
      refine z_aloadn C rfl rfl ?_
      refine z_gets C rfl hS rfl ht ?_
      refine z_callv C rfl ⟨by decide, by decide⟩ zS_2 (c_rchT (zKg_of C) hth _ hw hp) rfl rfl (Nat.le_of_ble_eq_true rfl) ⟨Nat.le_of_ble_eq_true rfl, Nat.le_of_ble_eq_true rfl⟩ ?_
      exact z_return C rfl (by first | (have q1 : zisRef h k = false := Eq.mp zB0 hc1; have e : zrch h k b = h := (by unfold zrch; rw [q1]; rfl); rw [e] at he; exact he) | (have q1 : ¬ b = 0 := hc2; have e : zrch h k b = zrchT h t := (by unfold zrch; rw [if_pos (zbt hc1), ht]; exact if_pos (Or.inl q1)); rw [e] at he; exact he) | (have q1 : h.1 t 1 = 0 := hc3; have e : zrch h k b = h := (by unfold zrch; rw [if_pos (zbt hc1), ht]; exact if_neg (fun q => q.elim hc2 (fun w => w q1))); rw [e] at he; exact he) | (have q1 : ¬ h.1 t 1 = 0 := hc3; have e : zrch h k b = zrchT h t := (by unfold zrch; rw [if_pos (zbt hc1), ht]; exact if_pos (Or.inr q1)); rw [e] at he; exact he)) ⟨Nat.le_refl _, Nat.le_refl _⟩ rfl
    · skip
      skip
      refine z_aloadn C rfl rfl ?_
      refine z_gets C rfl hS rfl ht ?_
      refine z_geti C rfl (zTh_S hth) rfl ?_
      refine z_if C rfl (fun hc3 => ?_) (fun hc3 => ?_)
      · skip
        skip
        exact z_return C rfl (by first | (have q1 : zisRef h k = false := Eq.mp zB0 hc1; have e : zrch h k b = h := (by unfold zrch; rw [q1]; rfl); rw [e] at he; exact he) | (have q1 : ¬ b = 0 := hc2; have e : zrch h k b = zrchT h t := (by unfold zrch; rw [if_pos (zbt hc1), ht]; exact if_pos (Or.inl q1)); rw [e] at he; exact he) | (have q1 : h.1 t 1 = 0 := hc3; have e : zrch h k b = h := (by unfold zrch; rw [if_pos (zbt hc1), ht]; exact if_neg (fun q => q.elim hc2 (fun w => w q1))); rw [e] at he; exact he) | (have q1 : ¬ h.1 t 1 = 0 := hc3; have e : zrch h k b = zrchT h t := (by unfold zrch; rw [if_pos (zbt hc1), ht]; exact if_pos (Or.inr q1)); rw [e] at he; exact he)) ⟨Nat.le_refl _, Nat.le_refl _⟩ rfl
      · skip
        skip
        refine z_aloadn C rfl rfl ?_
        refine z_aloadn C rfl rfl ?_
        refine z_gets C rfl hS rfl ht ?_
        refine z_callv C rfl ⟨by decide, by decide⟩ zS_2 (c_rchT (zKg_of C) hth _ hw hp) rfl rfl (Nat.le_of_ble_eq_true rfl) ⟨Nat.le_of_ble_eq_true rfl, Nat.le_of_ble_eq_true rfl⟩ ?_
        exact z_return C rfl (by first | (have q1 : zisRef h k = false := Eq.mp zB0 hc1; have e : zrch h k b = h := (by unfold zrch; rw [q1]; rfl); rw [e] at he; exact he) | (have q1 : ¬ b = 0 := hc2; have e : zrch h k b = zrchT h t := (by unfold zrch; rw [if_pos (zbt hc1), ht]; exact if_pos (Or.inl q1)); rw [e] at he; exact he) | (have q1 : h.1 t 1 = 0 := hc3; have e : zrch h k b = h := (by unfold zrch; rw [if_pos (zbt hc1), ht]; exact if_neg (fun q => q.elim hc2 (fun w => w q1))); rw [e] at he; exact he) | (have q1 : ¬ h.1 t 1 = 0 := hc3; have e : zrch h k b = zrchT h t := (by unfold zrch; rw [if_pos (zbt hc1), ht]; exact if_pos (Or.inr q1)); rw [e] at he; exact he)) ⟨Nat.le_refl _, Nat.le_refl _⟩ rfl

