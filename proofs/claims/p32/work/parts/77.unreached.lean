/-! what is not reached is freed -/
def zfR (r : Nat) (b : Int32) : Nat → Nat → zH → zH
  | 0, _, h => h
  | m + 1, i, h => zfR r b m (i + 1) (zrch h (32 + 5 * r + i) b)
theorem zK_fR {r : Nat} (hr : r < 60) {b : Int32} : ∀ (m i : Nat) (h : zH), i + m = 3 → zWk h → zWk (zfR r b m i h)
  | 0, _, _, _, hw => hw
  | m + 1, i, _, e, hw => zK_fR hr m (i + 1) _ (by omega) (zK_rch hw (zS_tval r hr i (by omega)))
theorem zPn_fR {r : Nat} {b : Int32} : ∀ (m i : Nat) (h : zH), zPn h → zPn (zfR r b m i h)
  | 0, _, _, hp => hp
  | m + 1, i, _, hp => zPn_fR m (i + 1) _ (zPn_rch hp)
def zfu (b : Int32) : Nat → Nat → zH → zH
  | 0, _, h => h
  | m + 1, j, h => if zpc h ≤ j then h else (match h.2.2.2 5 j with | none => h | some t => zfu b m (j + 1) (zfR ((t - 30) / 5) b 3 0 h))
theorem zK_fu {b : Int32} : ∀ (m j : Nat) (h : zH), zWk h → zPn h → zWk (zfu b m j h)
  | 0, _, _, hw, _ => hw
  | m + 1, j, h, hw, hp => by
    unfold zfu
    split
    · exact hw
    · cases hq : h.2.2.2 5 j with
      | none => exact hw
      | some t =>
        obtain ⟨r, hr, rfl⟩ := hw.1.2.2.1 j t hq
        have e : (30 + 5 * r - 30) / 5 = r := by omega
        show zWk (zfu b m (j + 1) (zfR ((30 + 5 * r - 30) / 5) b 3 0 h))
        rw [e]
        exact zK_fu m (j + 1) _ (zK_fR hr 3 0 _ rfl hw) (zPn_fR 3 0 _ hp)
def zfr1 (h : zH) (b : Int32) (i : Nat) : zH := if 0 ≤ h.1 (30 + 5 * i) 0 ∧ (¬ b = 0 ∨ ¬ h.1 (30 + 5 * i) 1 = 0) ∧ h.1 (30 + 5 * i) 5 = 0 then zfree h (30 + 5 * i) else h
theorem zK_fr1 {h : zH} (hw : zWk h) {b : Int32} {i : Nat} (hi : i < 60) : zWk (zfr1 h b i) := by
  unfold zfr1
  split
  · exact zK_free hw (zS_thing i hi)
  · exact hw
def zfrL (b : Int32) : Nat → Nat → zH → zH
  | 0, _, h => h
  | m + 1, i, h => zfrL b m (i + 1) (zfr1 h b i)
theorem zK_frL {b : Int32} : ∀ (m i : Nat) (h : zH), i + m = 60 → zWk h → zWk (zfrL b m i h)
  | 0, _, _, _, hw => hw
  | m + 1, i, _, e, hw => zK_frL m (i + 1) _ (by omega) (zK_fr1 hw (by omega))
def zfreeU (h : zH) (b : Int32) : zH := zsettle (zrenew (zfrL b 60 0 (zfu b 60 0 (zrR (ztally h) b))))
theorem zK_fU4 {h : zH} (hw : zWk h) {b : Int32} : zWk (zfu b 60 0 (zrR (ztally h) b)) := zK_fu 60 0 _ (zK_rR (zK_tally hw)) zPn_rR
theorem zK_freeU {h : zH} (hw : zWk h) {b : Int32} : zWk (zfreeU h b) := zK_settle (zK_renew (zK_frL 60 0 _ rfl (zK_fU4 hw)))
set_option maxHeartbeats 600000 in
set_option maxRecDepth 20000 in
theorem l_fR {ω : zO} (C : zX ω 25) {r : Nat} (hr : r < 60) {j : Nat} {b x : Int32} : ∀ (m i : Nat) (h : zH), i + m = 3 → zWk h ∧ zPn h → ZG ω 25 76 [(3, zi (nI j)), (2, zi x), (1, zi b), (0, zr (some 2))] [] (zfR r b m i h) 0 0 → ZG ω 25 49 [(6, zi (nI i)), (5, zi (nI 3)), (4, zr (some (31 + 5 * r))), (3, zi (nI j)), (2, zi x), (1, zi b), (0, zr (some 2))] [] h 0 0 := by
  intro m
  induction m with
  | zero =>
    intro i h hi hI kk
    obtain rfl : i = 3 := by omega
    refine z_iload C rfl rfl ?_
    refine z_iload C rfl rfl ?_
    refine z_icmp C rfl (fun hc => ?_) (fun hc => absurd (Int32.le_refl _) hc)
    exact z_ll [(3, zi (nI j)), (2, zi x), (1, zi b), (0, zr (some 2))] ⟨rfl, rfl, rfl, rfl, trivial⟩ kk
  | succ m ih =>
    intro i h hi hI kk
    have hiN : i < 3 := by omega
    refine z_iload C rfl rfl ?_
    refine z_iload C rfl rfl ?_
    refine z_icmp C rfl (fun hc => absurd hc (nI_ge hiN (by decide))) (fun hc => ?_)
    refine z_aload C rfl rfl ?_
    refine z_iload C rfl rfl ?_
    refine z_aalds C rfl (zS_tarr r hr) (by decide) (by decide) (zin hiN (by decide)) (by rw [zclamp hiN (by decide)]; exact (hI.1.1.1.2.2.2.2.2.1 r hr).2.2 i hiN) ?_
    refine z_astore C rfl ?_
    refine z_aloadn C rfl rfl ?_
    refine z_aload C rfl rfl ?_
    refine z_iloadn C rfl rfl ?_
    refine z_callv C rfl ⟨by decide, by decide⟩ zS_2 (c_rch (zKg_of C) (zS_tval r hr i hiN) _ hI.1 hI.2) rfl rfl (Nat.le_of_ble_eq_true rfl) ⟨Nat.le_of_ble_eq_true rfl, Nat.le_of_ble_eq_true rfl⟩ ?_
    refine z_iinc C rfl rfl ?_
    refine z_goto C rfl ?_
    exact z_ll [(6, zi (nI (i + 1))), (5, zi (nI 3)), (4, zr (some (31 + 5 * r))), (3, zi (nI j)), (2, zi x), (1, zi b), (0, zr (some 2))] ⟨znx i, rfl, rfl, rfl, rfl, rfl, rfl, trivial⟩ (ih (i + 1) _ (by omega) (⟨zK_rch hI.1 (zS_tval r hr i hiN), zPn_rch hI.2⟩) kk)
set_option maxHeartbeats 600000 in
theorem l_fu {ω : zO} (C : zX ω 25) {b x : Int32} : ∀ (m j : Nat) (h : zH), j + m = 60 → zWk h → zPn h → ZG ω 25 82 [(2, zi x), (1, zi b), (0, zr (some 2))] [] (zfu b m j h) 0 0 → ZG ω 25 16 [(3, zi (nI j)), (2, zi x), (1, zi b), (0, zr (some 2))] [] h 0 0 := by
  intro m
  induction m with
  | zero =>
    intro j h hj hI hp kk
    obtain rfl : j = 60 := by omega
    refine z_iloadn C rfl rfl ?_
    refine z_bipush C rfl ?_
    refine z_icmp C rfl (fun hc => ?_) (fun hc => absurd (Int32.le_refl _) hc)
    exact z_ll [(2, zi x), (1, zi b), (0, zr (some 2))] ⟨rfl, rfl, rfl, trivial⟩ kk
  | succ m ih =>
    intro j h hj hI hp kk
    have hj60 : j < 60 := by omega
    refine z_iloadn C rfl rfl ?_
    refine z_bipush C rfl ?_
    refine z_icmp C rfl (fun hc => absurd hc (nI_ge hj60 (by decide))) (fun hc => ?_)
    refine z_iloadn C rfl rfl ?_
    refine z_aloadn C rfl rfl ?_
    refine z_geti C rfl zS_2 rfl ?_
    have hp0 := hp
    obtain ⟨p, hp4, hpe, hpd⟩ := hp0
    have hpc := zpc_of hp4 hpe
    rw [hpe]
    refine z_icmp C rfl (fun hc1 => ?_) (fun hc1 => ?_)
    · have q1 : p ≤ j := (nI_leI (by omega) (by omega)).mp hc1
      have e : zfu b (m + 1) j h = h := by
        rw [zfu]
        exact if_pos (by rw [hpc]; exact q1)
      rw [e] at kk
      exact z_ll [(2, zi x), (1, zi b), (0, zr (some 2))] ⟨rfl, rfl, rfl, trivial⟩ kk
    · have q1 : ¬ p ≤ j := fun q => hc1 ((nI_leI (by omega) (by omega)).mpr q)
      obtain ⟨t, ht⟩ := hpd j (by omega)
      obtain ⟨r, hr, rfl⟩ := hI.1.2.2.1 j t ht
      have e : zfu b (m + 1) j h = zfu b m (j + 1) (zfR r b 3 0 h) := by
        rw [zfu, if_neg (by rw [hpc]; exact q1), ht]
        show zfu b m (j + 1) (zfR ((30 + 5 * r - 30) / 5) b 3 0 h) = _
        rw [show (30 + 5 * r - 30) / 5 = r by omega]
      rw [e] at kk
      refine z_aloadn C rfl rfl ?_
      refine z_gets C rfl zS_2 rfl hI.1.1.2.2.1.2.2 ?_
      refine z_iloadn C rfl rfl ?_
      refine z_aalds C rfl zS_5 (by decide) (by decide) (zin hj60 (by decide)) (by rw [zclamp hj60 (by decide)]; exact ht) ?_
      refine z_gets C rfl (zS_thing r hr) rfl (hI.1.1.2.2.2.2.2.1 r hr).2.1 ?_
      refine z_astore C rfl ?_
      refine z_aload C rfl rfl ?_
      refine z_alen C rfl (zS_tarr r hr) (by decide) ?_
      refine z_istore C rfl ?_
      refine z_iconst C rfl ?_
      refine z_istore C rfl ?_
      refine z_ll [(6, zi (nI 0)), (5, zi (nI 3)), (4, zr (some (31 + 5 * r))), (3, zi (nI j)), (2, zi x), (1, zi b), (0, zr (some 2))] ⟨rfl, rfl, rfl, rfl, rfl, rfl, rfl, trivial⟩ (l_fR C hr 3 0 _ rfl ⟨hI, hp⟩ ?_)
      refine z_iinc C rfl rfl ?_
      refine z_goto C rfl ?_
      exact z_ll [(3, zi (nI (j + 1))), (2, zi x), (1, zi b), (0, zr (some 2))] ⟨znx j, rfl, rfl, rfl, trivial⟩ (ih (j + 1) _ (by omega) (zK_fR hr 3 0 _ rfl hI) (zPn_fR 3 0 _ hp) kk)
set_option maxHeartbeats 600000 in
set_option maxRecDepth 20000 in
theorem l_frL {ω : zO} (C : zX ω 25) {b x : Int32} : ∀ (m i : Nat) (h : zH), i + m = 60 → zWk h → ZG ω 25 159 [(2, zi x), (1, zi b), (0, zr (some 2))] [] (zfrL b m i h) 0 0 → ZG ω 25 94 [(5, zi (nI i)), (4, zi (nI 60)), (3, zr (some 4)), (2, zi x), (1, zi b), (0, zr (some 2))] [] h 0 0 := by
  intro m
  induction m with
  | zero =>
    intro i h hi hI kk
    obtain rfl : i = 60 := by omega
    refine z_iload C rfl rfl ?_
    refine z_iload C rfl rfl ?_
    refine z_icmp C rfl (fun hc => ?_) (fun hc => absurd (Int32.le_refl _) hc)
    exact z_ll [(2, zi x), (1, zi b), (0, zr (some 2))] ⟨rfl, rfl, rfl, trivial⟩ kk
  | succ m ih =>
    intro i h hi hI kk
    have hiN : i < 60 := by omega
    refine z_iload C rfl rfl ?_
    refine z_iload C rfl rfl ?_
    refine z_icmp C rfl (fun hc => absurd hc (nI_ge hiN (by decide))) (fun hc => ?_)
    refine z_aloadn C rfl rfl ?_
    refine z_iload C rfl rfl ?_
    refine z_aalds C rfl zS_4 (by decide) (by decide) (zin hiN (by decide)) (by rw [zclamp hiN (by decide)]; exact zroomR hI.1.1 hiN) ?_
    refine z_astore C rfl ?_
    refine z_aload C rfl rfl ?_
    refine z_geti C rfl (zS_thing i hiN) rfl ?_
    refine z_if C rfl (fun hc1 => ?_) (fun hc1 => ?_)
    · skip
      skip
      refine z_iconst C rfl ?_
      refine z_istore C rfl ?_
      refine z_iload C rfl rfl ?_
      refine z_if C rfl (fun hc2 => ?_) (fun hc2 => ?_)
      · skip
        skip
        refine z_iinc C rfl rfl ?_
        refine z_goto C rfl ?_
        refine z_ll [(5, zi (nI (i + 1))), (4, zi (nI 60)), (3, zr (some 4)), (2, zi x), (1, zi b), (0, zr (some 2))] ⟨znx i, rfl, rfl, rfl, rfl, rfl, trivial⟩ ?_
        first
          | (have e : zfr1 h b i = h := (by clear kk ih; unfold zfr1; simp_all [xCmp, zle0, zgt0, zlt1]); have q := ih (i + 1) (zfr1 h b i) (by omega) (zK_fr1 hI hiN) kk; rw [e] at q; exact q)
          | (have e : zfr1 h b i = zfree h (30 + 5 * i) := (by clear kk ih; unfold zfr1; simp_all [xCmp, zle0, zgt0, zlt1]); have q := ih (i + 1) (zfr1 h b i) (by omega) (zK_fr1 hI hiN) kk; rw [e] at q; exact q)
      · skip
        skip
        refine z_aload C rfl rfl ?_
        refine z_geti C rfl (zS_thing i hiN) rfl ?_
        refine z_if C rfl (fun hc3 => ?_) (fun hc3 => ?_)
        · skip
          skip
          refine z_iinc C rfl rfl ?_
          refine z_goto C rfl ?_
          refine z_ll [(5, zi (nI (i + 1))), (4, zi (nI 60)), (3, zr (some 4)), (2, zi x), (1, zi b), (0, zr (some 2))] ⟨znx i, rfl, rfl, rfl, rfl, rfl, trivial⟩ ?_
          first
            | (have e : zfr1 h b i = h := (by clear kk ih; unfold zfr1; simp_all [xCmp, zle0, zgt0, zlt1]); have q := ih (i + 1) (zfr1 h b i) (by omega) (zK_fr1 hI hiN) kk; rw [e] at q; exact q)
            | (have e : zfr1 h b i = zfree h (30 + 5 * i) := (by clear kk ih; unfold zfr1; simp_all [xCmp, zle0, zgt0, zlt1]); have q := ih (i + 1) (zfr1 h b i) (by omega) (zK_fr1 hI hiN) kk; rw [e] at q; exact q)
        · skip
          skip
          refine z_aloadn C rfl rfl ?_
          refine z_aload C rfl rfl ?_
          refine z_callv C rfl ⟨by decide, by decide⟩ zS_2 (c_free (zKg_of C) (zS_thing i hiN) _) rfl rfl (Nat.le_of_ble_eq_true rfl) ⟨Nat.le_of_ble_eq_true rfl, Nat.le_of_ble_eq_true rfl⟩ ?_
          refine z_iinc C rfl rfl ?_
          refine z_goto C rfl ?_
          refine z_ll [(5, zi (nI (i + 1))), (4, zi (nI 60)), (3, zr (some 4)), (2, zi x), (1, zi b), (0, zr (some 2))] ⟨znx i, rfl, rfl, rfl, rfl, rfl, trivial⟩ ?_
          first
            | (have e : zfr1 h b i = h := (by clear kk ih; unfold zfr1; simp_all [xCmp, zle0, zgt0, zlt1]); have q := ih (i + 1) (zfr1 h b i) (by omega) (zK_fr1 hI hiN) kk; rw [e] at q; exact q)
            | (have e : zfr1 h b i = zfree h (30 + 5 * i) := (by clear kk ih; unfold zfr1; simp_all [xCmp, zle0, zgt0, zlt1]); have q := ih (i + 1) (zfr1 h b i) (by omega) (zK_fr1 hI hiN) kk; rw [e] at q; exact q)
    · skip
      skip
      refine z_iloadn C rfl rfl ?_
      refine z_if C rfl (fun hc4 => ?_) (fun hc4 => ?_)
      · skip
        skip
        refine z_iconst C rfl ?_
        refine z_goto C rfl ?_
        refine z_istore C rfl ?_
        refine z_iload C rfl rfl ?_
        refine z_if C rfl (fun hc5 => ?_) (fun hc5 => ?_)
        · skip
          skip
          refine z_iinc C rfl rfl ?_
          refine z_goto C rfl ?_
          refine z_ll [(5, zi (nI (i + 1))), (4, zi (nI 60)), (3, zr (some 4)), (2, zi x), (1, zi b), (0, zr (some 2))] ⟨znx i, rfl, rfl, rfl, rfl, rfl, trivial⟩ ?_
          first
            | (have e : zfr1 h b i = h := (by clear kk ih; unfold zfr1; simp_all [xCmp, zle0, zgt0, zlt1]); have q := ih (i + 1) (zfr1 h b i) (by omega) (zK_fr1 hI hiN) kk; rw [e] at q; exact q)
            | (have e : zfr1 h b i = zfree h (30 + 5 * i) := (by clear kk ih; unfold zfr1; simp_all [xCmp, zle0, zgt0, zlt1]); have q := ih (i + 1) (zfr1 h b i) (by omega) (zK_fr1 hI hiN) kk; rw [e] at q; exact q)
        · skip
          skip
          refine z_aload C rfl rfl ?_
          refine z_geti C rfl (zS_thing i hiN) rfl ?_
          refine z_if C rfl (fun hc6 => ?_) (fun hc6 => ?_)
          · skip
            skip
            refine z_iinc C rfl rfl ?_
            refine z_goto C rfl ?_
            refine z_ll [(5, zi (nI (i + 1))), (4, zi (nI 60)), (3, zr (some 4)), (2, zi x), (1, zi b), (0, zr (some 2))] ⟨znx i, rfl, rfl, rfl, rfl, rfl, trivial⟩ ?_
            first
              | (have e : zfr1 h b i = h := (by clear kk ih; unfold zfr1; simp_all [xCmp, zle0, zgt0, zlt1]); have q := ih (i + 1) (zfr1 h b i) (by omega) (zK_fr1 hI hiN) kk; rw [e] at q; exact q)
              | (have e : zfr1 h b i = zfree h (30 + 5 * i) := (by clear kk ih; unfold zfr1; simp_all [xCmp, zle0, zgt0, zlt1]); have q := ih (i + 1) (zfr1 h b i) (by omega) (zK_fr1 hI hiN) kk; rw [e] at q; exact q)
          · skip
            skip
            refine z_aloadn C rfl rfl ?_
            refine z_aload C rfl rfl ?_
            refine z_callv C rfl ⟨by decide, by decide⟩ zS_2 (c_free (zKg_of C) (zS_thing i hiN) _) rfl rfl (Nat.le_of_ble_eq_true rfl) ⟨Nat.le_of_ble_eq_true rfl, Nat.le_of_ble_eq_true rfl⟩ ?_
            refine z_iinc C rfl rfl ?_
            refine z_goto C rfl ?_
            refine z_ll [(5, zi (nI (i + 1))), (4, zi (nI 60)), (3, zr (some 4)), (2, zi x), (1, zi b), (0, zr (some 2))] ⟨znx i, rfl, rfl, rfl, rfl, rfl, trivial⟩ ?_
            first
              | (have e : zfr1 h b i = h := (by clear kk ih; unfold zfr1; simp_all [xCmp, zle0, zgt0, zlt1]); have q := ih (i + 1) (zfr1 h b i) (by omega) (zK_fr1 hI hiN) kk; rw [e] at q; exact q)
              | (have e : zfr1 h b i = zfree h (30 + 5 * i) := (by clear kk ih; unfold zfr1; simp_all [xCmp, zle0, zgt0, zlt1]); have q := ih (i + 1) (zfr1 h b i) (by omega) (zK_fr1 hI hiN) kk; rw [e] at q; exact q)
      · skip
        skip
        refine z_aload C rfl rfl ?_
        refine z_geti C rfl (zS_thing i hiN) rfl ?_
        refine z_if C rfl (fun hc7 => ?_) (fun hc7 => ?_)
        · skip
          skip
          refine z_iconst C rfl ?_
          refine z_istore C rfl ?_
          refine z_iload C rfl rfl ?_
          refine z_if C rfl (fun hc8 => ?_) (fun hc8 => ?_)
          · skip
            skip
            refine z_iinc C rfl rfl ?_
            refine z_goto C rfl ?_
            refine z_ll [(5, zi (nI (i + 1))), (4, zi (nI 60)), (3, zr (some 4)), (2, zi x), (1, zi b), (0, zr (some 2))] ⟨znx i, rfl, rfl, rfl, rfl, rfl, trivial⟩ ?_
            first
              | (have e : zfr1 h b i = h := (by clear kk ih; unfold zfr1; simp_all [xCmp, zle0, zgt0, zlt1]); have q := ih (i + 1) (zfr1 h b i) (by omega) (zK_fr1 hI hiN) kk; rw [e] at q; exact q)
              | (have e : zfr1 h b i = zfree h (30 + 5 * i) := (by clear kk ih; unfold zfr1; simp_all [xCmp, zle0, zgt0, zlt1]); have q := ih (i + 1) (zfr1 h b i) (by omega) (zK_fr1 hI hiN) kk; rw [e] at q; exact q)
          · skip
            skip
            refine z_aload C rfl rfl ?_
            refine z_geti C rfl (zS_thing i hiN) rfl ?_
            refine z_if C rfl (fun hc9 => ?_) (fun hc9 => ?_)
            · skip
              skip
              refine z_iinc C rfl rfl ?_
              refine z_goto C rfl ?_
              refine z_ll [(5, zi (nI (i + 1))), (4, zi (nI 60)), (3, zr (some 4)), (2, zi x), (1, zi b), (0, zr (some 2))] ⟨znx i, rfl, rfl, rfl, rfl, rfl, trivial⟩ ?_
              first
                | (have e : zfr1 h b i = h := (by clear kk ih; unfold zfr1; simp_all [xCmp, zle0, zgt0, zlt1]); have q := ih (i + 1) (zfr1 h b i) (by omega) (zK_fr1 hI hiN) kk; rw [e] at q; exact q)
                | (have e : zfr1 h b i = zfree h (30 + 5 * i) := (by clear kk ih; unfold zfr1; simp_all [xCmp, zle0, zgt0, zlt1]); have q := ih (i + 1) (zfr1 h b i) (by omega) (zK_fr1 hI hiN) kk; rw [e] at q; exact q)
            · skip
              skip
              refine z_aloadn C rfl rfl ?_
              refine z_aload C rfl rfl ?_
              refine z_callv C rfl ⟨by decide, by decide⟩ zS_2 (c_free (zKg_of C) (zS_thing i hiN) _) rfl rfl (Nat.le_of_ble_eq_true rfl) ⟨Nat.le_of_ble_eq_true rfl, Nat.le_of_ble_eq_true rfl⟩ ?_
              refine z_iinc C rfl rfl ?_
              refine z_goto C rfl ?_
              refine z_ll [(5, zi (nI (i + 1))), (4, zi (nI 60)), (3, zr (some 4)), (2, zi x), (1, zi b), (0, zr (some 2))] ⟨znx i, rfl, rfl, rfl, rfl, rfl, trivial⟩ ?_
              first
                | (have e : zfr1 h b i = h := (by clear kk ih; unfold zfr1; simp_all [xCmp, zle0, zgt0, zlt1]); have q := ih (i + 1) (zfr1 h b i) (by omega) (zK_fr1 hI hiN) kk; rw [e] at q; exact q)
                | (have e : zfr1 h b i = zfree h (30 + 5 * i) := (by clear kk ih; unfold zfr1; simp_all [xCmp, zle0, zgt0, zlt1]); have q := ih (i + 1) (zfr1 h b i) (by omega) (zK_fr1 hI hiN) kk; rw [e] at q; exact q)
        · skip
          skip
          refine z_iconst C rfl ?_
          refine z_goto C rfl ?_
          refine z_istore C rfl ?_
          refine z_iload C rfl rfl ?_
          refine z_if C rfl (fun hc10 => ?_) (fun hc10 => ?_)
          · skip
            skip
            refine z_iinc C rfl rfl ?_
            refine z_goto C rfl ?_
            refine z_ll [(5, zi (nI (i + 1))), (4, zi (nI 60)), (3, zr (some 4)), (2, zi x), (1, zi b), (0, zr (some 2))] ⟨znx i, rfl, rfl, rfl, rfl, rfl, trivial⟩ ?_
            first
              | (have e : zfr1 h b i = h := (by clear kk ih; unfold zfr1; simp_all [xCmp, zle0, zgt0, zlt1]); have q := ih (i + 1) (zfr1 h b i) (by omega) (zK_fr1 hI hiN) kk; rw [e] at q; exact q)
              | (have e : zfr1 h b i = zfree h (30 + 5 * i) := (by clear kk ih; unfold zfr1; simp_all [xCmp, zle0, zgt0, zlt1]); have q := ih (i + 1) (zfr1 h b i) (by omega) (zK_fr1 hI hiN) kk; rw [e] at q; exact q)
          · skip
            skip
            refine z_aload C rfl rfl ?_
            refine z_geti C rfl (zS_thing i hiN) rfl ?_
            refine z_if C rfl (fun hc11 => ?_) (fun hc11 => ?_)
            · skip
              skip
              refine z_iinc C rfl rfl ?_
              refine z_goto C rfl ?_
              refine z_ll [(5, zi (nI (i + 1))), (4, zi (nI 60)), (3, zr (some 4)), (2, zi x), (1, zi b), (0, zr (some 2))] ⟨znx i, rfl, rfl, rfl, rfl, rfl, trivial⟩ ?_
              first
                | (have e : zfr1 h b i = h := (by clear kk ih; unfold zfr1; simp_all [xCmp, zle0, zgt0, zlt1]); have q := ih (i + 1) (zfr1 h b i) (by omega) (zK_fr1 hI hiN) kk; rw [e] at q; exact q)
                | (have e : zfr1 h b i = zfree h (30 + 5 * i) := (by clear kk ih; unfold zfr1; simp_all [xCmp, zle0, zgt0, zlt1]); have q := ih (i + 1) (zfr1 h b i) (by omega) (zK_fr1 hI hiN) kk; rw [e] at q; exact q)
            · skip
              skip
              refine z_aloadn C rfl rfl ?_
              refine z_aload C rfl rfl ?_
              refine z_callv C rfl ⟨by decide, by decide⟩ zS_2 (c_free (zKg_of C) (zS_thing i hiN) _) rfl rfl (Nat.le_of_ble_eq_true rfl) ⟨Nat.le_of_ble_eq_true rfl, Nat.le_of_ble_eq_true rfl⟩ ?_
              refine z_iinc C rfl rfl ?_
              refine z_goto C rfl ?_
              refine z_ll [(5, zi (nI (i + 1))), (4, zi (nI 60)), (3, zr (some 4)), (2, zi x), (1, zi b), (0, zr (some 2))] ⟨znx i, rfl, rfl, rfl, rfl, rfl, trivial⟩ ?_
              first
                | (have e : zfr1 h b i = h := (by clear kk ih; unfold zfr1; simp_all [xCmp, zle0, zgt0, zlt1]); have q := ih (i + 1) (zfr1 h b i) (by omega) (zK_fr1 hI hiN) kk; rw [e] at q; exact q)
                | (have e : zfr1 h b i = zfree h (30 + 5 * i) := (by clear kk ih; unfold zfr1; simp_all [xCmp, zle0, zgt0, zlt1]); have q := ih (i + 1) (zfr1 h b i) (by omega) (zK_fr1 hI hiN) kk; rw [e] at q; exact q)
set_option maxHeartbeats 600000 in
set_option maxRecDepth 20000 in
theorem c_freeU {κ : zK} (hκ : zKg κ) {b : Int32} (h : zH) (hw : zWk h) : zRet κ 25 [zr (some 2), zi b] h (some (zi ((zfreeU h b).1 2 5 - h.1 2 5))) (zfreeU h b) 0 0 := by
  refine zRet_of hκ (by decide) (by decide +kernel) (Nat.le_of_ble_eq_true rfl) fun ω C hK he => ?_
  refine z_aloadn C rfl rfl ?_
  refine z_geti C rfl zS_2 rfl ?_
  refine z_istoren C rfl ?_
  refine z_aloadn C rfl rfl ?_
  refine z_callv C rfl ⟨by decide, by decide⟩ zS_2 (c_tally (zKg_of C) _ hw.1) rfl rfl (Nat.le_of_ble_eq_true rfl) ⟨Nat.le_of_ble_eq_true rfl, Nat.le_of_ble_eq_true rfl⟩ ?_
  refine z_aloadn C rfl rfl ?_
  refine z_iloadn C rfl rfl ?_
  refine z_callv C rfl ⟨by decide, by decide⟩ zS_2 (c_rchR (zKg_of C) _ (zK_tally hw)) rfl rfl (Nat.le_of_ble_eq_true rfl) ⟨Nat.le_of_ble_eq_true rfl, Nat.le_of_ble_eq_true rfl⟩ ?_
  refine z_iconst C rfl ?_
  refine z_istoren C rfl ?_
  refine z_ll [(3, zi (nI 0)), (2, zi (h.1 2 5)), (1, zi b), (0, zr (some 2))] ⟨rfl, rfl, rfl, rfl, trivial⟩ (l_fu C 60 0 _ rfl (zK_rR (zK_tally hw)) zPn_rR ?_)
  have hw4 := zK_fU4 (b := b) hw
  refine z_aloadn C rfl rfl ?_
  refine z_gets C rfl zS_2 rfl hw4.1.1.2.2.1.2.1 ?_
  refine z_astoren C rfl ?_
  refine z_aloadn C rfl rfl ?_
  refine z_alen C rfl zS_4 (by decide) ?_
  refine z_istore C rfl ?_
  refine z_iconst C rfl ?_
  refine z_istore C rfl ?_
  refine z_ll [(5, zi (nI 0)), (4, zi (nI 60)), (3, zr (some 4)), (2, zi (h.1 2 5)), (1, zi b), (0, zr (some 2))] ⟨rfl, rfl, rfl, rfl, rfl, rfl, trivial⟩ (l_frL C 60 0 _ rfl hw4 ?_)
  have hw5 := zK_frL (b := b) 60 0 _ rfl hw4
  refine z_aloadn C rfl rfl ?_
  refine z_callv C rfl ⟨by decide, by decide⟩ zS_2 (c_renew (zKg_of C) _ hw5) rfl rfl (Nat.le_of_ble_eq_true rfl) ⟨Nat.le_of_ble_eq_true rfl, Nat.le_of_ble_eq_true rfl⟩ ?_
  refine z_aloadn C rfl rfl ?_
  refine z_callv C rfl ⟨by decide, by decide⟩ zS_2 (c_settle (zKg_of C) _ (zK_renew hw5)) rfl rfl (Nat.le_of_ble_eq_true rfl) ⟨Nat.le_of_ble_eq_true rfl, Nat.le_of_ble_eq_true rfl⟩ ?_
  refine z_pop C rfl rfl ?_
  refine z_aloadn C rfl rfl ?_
  refine z_geti C rfl zS_2 rfl ?_
  refine z_iloadn C rfl rfl ?_
  refine z_isub C rfl ?_
  exact z_ireturn C rfl (by unfold zfreeU at he; exact he) ⟨Nat.le_refl _, Nat.le_refl _⟩ rfl

